theorem dX0_init_0 : decode cX0_init 0 = .ok (.aload_n 0, 1) := by decide +kernel
theorem dX0_init_1 : decode cX0_init 1 = .ok (.invokespecial 3, 3) := by decide +kernel
theorem dX0_init_4 : decode cX0_init 4 = .ok (.aload_n 0, 1) := by decide +kernel
theorem dX0_init_5 : decode cX0_init 5 = .ok (.new 9, 3) := by decide +kernel
theorem dX0_init_8 : decode cX0_init 8 = .ok (.dup, 1) := by decide +kernel
theorem dX0_init_9 : decode cX0_init 9 = .ok (.invokespecial 11, 3) := by decide +kernel
theorem dX0_init_12 : decode cX0_init 12 = .ok (.putfield 12, 3) := by decide +kernel
theorem dX0_init_15 : decode cX0_init 15 = .ok (.aload_n 0, 1) := by decide +kernel
theorem dX0_init_16 : decode cX0_init 16 = .ok (.iconst 0, 1) := by decide +kernel
theorem dX0_init_17 : decode cX0_init 17 = .ok (.putfield 18, 3) := by decide +kernel
theorem dX0_init_20 : decode cX0_init 20 = .ok (.aload_n 0, 1) := by decide +kernel
theorem dX0_init_21 : decode cX0_init 21 = .ok (.lconst 0, 1) := by decide +kernel
theorem dX0_init_22 : decode cX0_init 22 = .ok (.putfield 22, 3) := by decide +kernel
theorem dX0_init_25 : decode cX0_init 25 = .ok (.aload_n 0, 1) := by decide +kernel
theorem dX0_init_26 : decode cX0_init 26 = .ok (.lconst 0, 1) := by decide +kernel
theorem dX0_init_27 : decode cX0_init 27 = .ok (.putfield 26, 3) := by decide +kernel
theorem dX0_init_30 : decode cX0_init 30 = .ok (.aload_n 0, 1) := by decide +kernel
theorem dX0_init_31 : decode cX0_init 31 = .ok (.lconst 0, 1) := by decide +kernel
theorem dX0_init_32 : decode cX0_init 32 = .ok (.putfield 29, 3) := by decide +kernel
theorem dX0_init_35 : decode cX0_init 35 = .ok (.aload_n 0, 1) := by decide +kernel
theorem dX0_init_36 : decode cX0_init 36 = .ok (.iconst 0, 1) := by decide +kernel
theorem dX0_init_37 : decode cX0_init 37 = .ok (.putfield 32, 3) := by decide +kernel
theorem dX0_init_40 : decode cX0_init 40 = .ok (.aload_n 0, 1) := by decide +kernel
theorem dX0_init_41 : decode cX0_init 41 = .ok (.iconst 0, 1) := by decide +kernel
theorem dX0_init_42 : decode cX0_init 42 = .ok (.putfield 35, 3) := by decide +kernel
theorem dX0_init_45 : decode cX0_init 45 = .ok (.aload_n 0, 1) := by decide +kernel
theorem dX0_init_46 : decode cX0_init 46 = .ok (.iconst 0, 1) := by decide +kernel
theorem dX0_init_47 : decode cX0_init 47 = .ok (.putfield 38, 3) := by decide +kernel
theorem dX0_init_50 : decode cX0_init 50 = .ok (.aload_n 0, 1) := by decide +kernel
theorem dX0_init_51 : decode cX0_init 51 = .ok (.iload_n 1, 1) := by decide +kernel
theorem dX0_init_52 : decode cX0_init 52 = .ok (.putfield 41, 3) := by decide +kernel
theorem dX0_init_55 : decode cX0_init 55 = .ok (.aload_n 0, 1) := by decide +kernel
theorem dX0_init_56 : decode cX0_init 56 = .ok (.iload_n 2, 1) := by decide +kernel
theorem dX0_init_57 : decode cX0_init 57 = .ok (.putfield 44, 3) := by decide +kernel
theorem dX0_init_60 : decode cX0_init 60 = .ok (.aload_n 0, 1) := by decide +kernel
theorem dX0_init_61 : decode cX0_init 61 = .ok (.iload_n 3, 1) := by decide +kernel
theorem dX0_init_62 : decode cX0_init 62 = .ok (.putfield 47, 3) := by decide +kernel
theorem dX0_init_65 : decode cX0_init 65 = .ok (.aload_n 0, 1) := by decide +kernel
theorem dX0_init_66 : decode cX0_init 66 = .ok (.iload 4, 2) := by decide +kernel
theorem dX0_init_68 : decode cX0_init 68 = .ok (.putfield 50, 3) := by decide +kernel
theorem dX0_init_71 : decode cX0_init 71 = .ok (.return_, 1) := by decide +kernel
theorem dX0_rateInWith_0 : decode cX0_rateInWith 0 = .ok (.iconst 3, 1) := by decide +kernel
theorem dX0_rateInWith_1 : decode cX0_rateInWith 1 = .ok (.iload_n 1, 1) := by decide +kernel
theorem dX0_rateInWith_2 : decode cX0_rateInWith 2 = .ok (.imul, 1) := by decide +kernel
theorem dX0_rateInWith_3 : decode cX0_rateInWith 3 = .ok (.iconst 2, 1) := by decide +kernel
theorem dX0_rateInWith_4 : decode cX0_rateInWith 4 = .ok (.aload_n 0, 1) := by decide +kernel
theorem dX0_rateInWith_5 : decode cX0_rateInWith 5 = .ok (.getfield 41, 3) := by decide +kernel
theorem dX0_rateInWith_8 : decode cX0_rateInWith 8 = .ok (.imul, 1) := by decide +kernel
theorem dX0_rateInWith_9 : decode cX0_rateInWith 9 = .ok (.if_icmp .le 12, 3) := by decide +kernel
theorem dX0_rateInWith_12 : decode cX0_rateInWith 12 = .ok (.aload_n 0, 1) := by decide +kernel
theorem dX0_rateInWith_13 : decode cX0_rateInWith 13 = .ok (.getfield 44, 3) := by decide +kernel
theorem dX0_rateInWith_16 : decode cX0_rateInWith 16 = .ok (.iconst 2, 1) := by decide +kernel
theorem dX0_rateInWith_17 : decode cX0_rateInWith 17 = .ok (.idiv, 1) := by decide +kernel
theorem dX0_rateInWith_18 : decode cX0_rateInWith 18 = .ok (.goto 7, 3) := by decide +kernel
theorem dX0_rateInWith_21 : decode cX0_rateInWith 21 = .ok (.aload_n 0, 1) := by decide +kernel
theorem dX0_rateInWith_22 : decode cX0_rateInWith 22 = .ok (.getfield 44, 3) := by decide +kernel
theorem dX0_rateInWith_25 : decode cX0_rateInWith 25 = .ok (.ireturn, 1) := by decide +kernel
theorem dX0_rateOutWith_0 : decode cX0_rateOutWith 0 = .ok (.iconst 3, 1) := by decide +kernel
theorem dX0_rateOutWith_1 : decode cX0_rateOutWith 1 = .ok (.iload_n 1, 1) := by decide +kernel
theorem dX0_rateOutWith_2 : decode cX0_rateOutWith 2 = .ok (.imul, 1) := by decide +kernel
theorem dX0_rateOutWith_3 : decode cX0_rateOutWith 3 = .ok (.aload_n 0, 1) := by decide +kernel
theorem dX0_rateOutWith_4 : decode cX0_rateOutWith 4 = .ok (.getfield 41, 3) := by decide +kernel
theorem dX0_rateOutWith_7 : decode cX0_rateOutWith 7 = .ok (.if_icmp .ge 12, 3) := by decide +kernel
theorem dX0_rateOutWith_10 : decode cX0_rateOutWith 10 = .ok (.aload_n 0, 1) := by decide +kernel
theorem dX0_rateOutWith_11 : decode cX0_rateOutWith 11 = .ok (.getfield 47, 3) := by decide +kernel
theorem dX0_rateOutWith_14 : decode cX0_rateOutWith 14 = .ok (.iconst 2, 1) := by decide +kernel
theorem dX0_rateOutWith_15 : decode cX0_rateOutWith 15 = .ok (.idiv, 1) := by decide +kernel
theorem dX0_rateOutWith_16 : decode cX0_rateOutWith 16 = .ok (.goto 7, 3) := by decide +kernel
theorem dX0_rateOutWith_19 : decode cX0_rateOutWith 19 = .ok (.aload_n 0, 1) := by decide +kernel
theorem dX0_rateOutWith_20 : decode cX0_rateOutWith 20 = .ok (.getfield 47, 3) := by decide +kernel
theorem dX0_rateOutWith_23 : decode cX0_rateOutWith 23 = .ok (.ireturn, 1) := by decide +kernel
theorem dX0_mostIn_0 : decode cX0_mostIn 0 = .ok (.aload_n 0, 1) := by decide +kernel
theorem dX0_mostIn_1 : decode cX0_mostIn 1 = .ok (.iload_n 1, 1) := by decide +kernel
theorem dX0_mostIn_2 : decode cX0_mostIn 2 = .ok (.invokevirtual 53, 3) := by decide +kernel
theorem dX0_mostIn_5 : decode cX0_mostIn 5 = .ok (.aload_n 0, 1) := by decide +kernel
theorem dX0_mostIn_6 : decode cX0_mostIn 6 = .ok (.getfield 41, 3) := by decide +kernel
theorem dX0_mostIn_9 : decode cX0_mostIn 9 = .ok (.iload_n 1, 1) := by decide +kernel
theorem dX0_mostIn_10 : decode cX0_mostIn 10 = .ok (.isub, 1) := by decide +kernel
theorem dX0_mostIn_11 : decode cX0_mostIn 11 = .ok (.invokestatic 57, 3) := by decide +kernel
theorem dX0_mostIn_14 : decode cX0_mostIn 14 = .ok (.ireturn, 1) := by decide +kernel
theorem dX0_mostOut_0 : decode cX0_mostOut 0 = .ok (.aload_n 0, 1) := by decide +kernel
theorem dX0_mostOut_1 : decode cX0_mostOut 1 = .ok (.iload_n 1, 1) := by decide +kernel
theorem dX0_mostOut_2 : decode cX0_mostOut 2 = .ok (.invokevirtual 63, 3) := by decide +kernel
theorem dX0_mostOut_5 : decode cX0_mostOut 5 = .ok (.iload_n 1, 1) := by decide +kernel
theorem dX0_mostOut_6 : decode cX0_mostOut 6 = .ok (.invokestatic 57, 3) := by decide +kernel
theorem dX0_mostOut_9 : decode cX0_mostOut 9 = .ok (.ireturn, 1) := by decide +kernel
theorem dX0_planByRates_0 : decode cX0_planByRates 0 = .ok (.aload_n 0, 1) := by decide +kernel
theorem dX0_planByRates_1 : decode cX0_planByRates 1 = .ok (.getfield 12, 3) := by decide +kernel
theorem dX0_planByRates_4 : decode cX0_planByRates 4 = .ok (.iload_n 1, 1) := by decide +kernel
theorem dX0_planByRates_5 : decode cX0_planByRates 5 = .ok (.invokevirtual 66, 3) := by decide +kernel
theorem dX0_planByRates_8 : decode cX0_planByRates 8 = .ok (.istore_n 2, 1) := by decide +kernel
theorem dX0_planByRates_9 : decode cX0_planByRates 9 = .ok (.aload_n 0, 1) := by decide +kernel
theorem dX0_planByRates_10 : decode cX0_planByRates 10 = .ok (.aload_n 0, 1) := by decide +kernel
theorem dX0_planByRates_11 : decode cX0_planByRates 11 = .ok (.aload_n 0, 1) := by decide +kernel
theorem dX0_planByRates_12 : decode cX0_planByRates 12 = .ok (.getfield 18, 3) := by decide +kernel
theorem dX0_planByRates_15 : decode cX0_planByRates 15 = .ok (.invokevirtual 69, 3) := by decide +kernel
theorem dX0_planByRates_18 : decode cX0_planByRates 18 = .ok (.ineg, 1) := by decide +kernel
theorem dX0_planByRates_19 : decode cX0_planByRates 19 = .ok (.iload_n 2, 1) := by decide +kernel
theorem dX0_planByRates_20 : decode cX0_planByRates 20 = .ok (.aload_n 0, 1) := by decide +kernel
theorem dX0_planByRates_21 : decode cX0_planByRates 21 = .ok (.aload_n 0, 1) := by decide +kernel
theorem dX0_planByRates_22 : decode cX0_planByRates 22 = .ok (.getfield 18, 3) := by decide +kernel
theorem dX0_planByRates_25 : decode cX0_planByRates 25 = .ok (.invokevirtual 72, 3) := by decide +kernel
theorem dX0_planByRates_28 : decode cX0_planByRates 28 = .ok (.invokestatic 57, 3) := by decide +kernel
theorem dX0_planByRates_31 : decode cX0_planByRates 31 = .ok (.invokestatic 75, 3) := by decide +kernel
theorem dX0_planByRates_34 : decode cX0_planByRates 34 = .ok (.putfield 32, 3) := by decide +kernel
theorem dX0_planByRates_37 : decode cX0_planByRates 37 = .ok (.aload_n 0, 1) := by decide +kernel
theorem dX0_planByRates_38 : decode cX0_planByRates 38 = .ok (.iconst 0, 1) := by decide +kernel
theorem dX0_planByRates_39 : decode cX0_planByRates 39 = .ok (.putfield 35, 3) := by decide +kernel
theorem dX0_planByRates_42 : decode cX0_planByRates 42 = .ok (.aload_n 0, 1) := by decide +kernel
theorem dX0_planByRates_43 : decode cX0_planByRates 43 = .ok (.aload_n 0, 1) := by decide +kernel
theorem dX0_planByRates_44 : decode cX0_planByRates 44 = .ok (.getfield 32, 3) := by decide +kernel
theorem dX0_planByRates_47 : decode cX0_planByRates 47 = .ok (.iload_n 2, 1) := by decide +kernel
theorem dX0_planByRates_48 : decode cX0_planByRates 48 = .ok (.if_icmp .ne 7, 3) := by decide +kernel
theorem dX0_planByRates_51 : decode cX0_planByRates 51 = .ok (.iconst 0, 1) := by decide +kernel
theorem dX0_planByRates_52 : decode cX0_planByRates 52 = .ok (.goto 4, 3) := by decide +kernel
theorem dX0_planByRates_55 : decode cX0_planByRates 55 = .ok (.iconst 1, 1) := by decide +kernel
theorem dX0_planByRates_56 : decode cX0_planByRates 56 = .ok (.putfield 38, 3) := by decide +kernel
theorem dX0_planByRates_59 : decode cX0_planByRates 59 = .ok (.return_, 1) := by decide +kernel
theorem dX0_sizeOfPlan_0 : decode cX0_sizeOfPlan 0 = .ok (.iconst 0, 1) := by decide +kernel
theorem dX0_sizeOfPlan_1 : decode cX0_sizeOfPlan 1 = .ok (.iload_n 1, 1) := by decide +kernel
theorem dX0_sizeOfPlan_2 : decode cX0_sizeOfPlan 2 = .ok (.ifCond .eq 10, 3) := by decide +kernel
theorem dX0_sizeOfPlan_5 : decode cX0_sizeOfPlan 5 = .ok (.aload_n 0, 1) := by decide +kernel
theorem dX0_sizeOfPlan_6 : decode cX0_sizeOfPlan 6 = .ok (.getfield 32, 3) := by decide +kernel
theorem dX0_sizeOfPlan_9 : decode cX0_sizeOfPlan 9 = .ok (.goto 8, 3) := by decide +kernel
theorem dX0_sizeOfPlan_12 : decode cX0_sizeOfPlan 12 = .ok (.aload_n 0, 1) := by decide +kernel
theorem dX0_sizeOfPlan_13 : decode cX0_sizeOfPlan 13 = .ok (.getfield 32, 3) := by decide +kernel
theorem dX0_sizeOfPlan_16 : decode cX0_sizeOfPlan 16 = .ok (.ineg, 1) := by decide +kernel
theorem dX0_sizeOfPlan_17 : decode cX0_sizeOfPlan 17 = .ok (.invokestatic 75, 3) := by decide +kernel
theorem dX0_sizeOfPlan_20 : decode cX0_sizeOfPlan 20 = .ok (.ireturn, 1) := by decide +kernel
theorem dX0_cutBack_0 : decode cX0_cutBack 0 = .ok (.aload_n 0, 1) := by decide +kernel
theorem dX0_cutBack_1 : decode cX0_cutBack 1 = .ok (.iload_n 1, 1) := by decide +kernel
theorem dX0_cutBack_2 : decode cX0_cutBack 2 = .ok (.invokevirtual 78, 3) := by decide +kernel
theorem dX0_cutBack_5 : decode cX0_cutBack 5 = .ok (.iload_n 2, 1) := by decide +kernel
theorem dX0_cutBack_6 : decode cX0_cutBack 6 = .ok (.invokestatic 57, 3) := by decide +kernel
theorem dX0_cutBack_9 : decode cX0_cutBack 9 = .ok (.istore 4, 2) := by decide +kernel
theorem dX0_cutBack_11 : decode cX0_cutBack 11 = .ok (.iload 4, 2) := by decide +kernel
theorem dX0_cutBack_13 : decode cX0_cutBack 13 = .ok (.ifCond .gt 5, 3) := by decide +kernel
theorem dX0_cutBack_16 : decode cX0_cutBack 16 = .ok (.iconst 0, 1) := by decide +kernel
theorem dX0_cutBack_17 : decode cX0_cutBack 17 = .ok (.ireturn, 1) := by decide +kernel
theorem dX0_cutBack_18 : decode cX0_cutBack 18 = .ok (.aload_n 0, 1) := by decide +kernel
theorem dX0_cutBack_19 : decode cX0_cutBack 19 = .ok (.dup, 1) := by decide +kernel
theorem dX0_cutBack_20 : decode cX0_cutBack 20 = .ok (.getfield 32, 3) := by decide +kernel
theorem dX0_cutBack_23 : decode cX0_cutBack 23 = .ok (.iload_n 1, 1) := by decide +kernel
theorem dX0_cutBack_24 : decode cX0_cutBack 24 = .ok (.ifCond .eq 9, 3) := by decide +kernel
theorem dX0_cutBack_27 : decode cX0_cutBack 27 = .ok (.iload 4, 2) := by decide +kernel
theorem dX0_cutBack_29 : decode cX0_cutBack 29 = .ok (.ineg, 1) := by decide +kernel
theorem dX0_cutBack_30 : decode cX0_cutBack 30 = .ok (.goto 5, 3) := by decide +kernel
theorem dX0_cutBack_33 : decode cX0_cutBack 33 = .ok (.iload 4, 2) := by decide +kernel
theorem dX0_cutBack_35 : decode cX0_cutBack 35 = .ok (.iadd, 1) := by decide +kernel
theorem dX0_cutBack_36 : decode cX0_cutBack 36 = .ok (.putfield 32, 3) := by decide +kernel
theorem dX0_cutBack_39 : decode cX0_cutBack 39 = .ok (.aload_n 0, 1) := by decide +kernel
theorem dX0_cutBack_40 : decode cX0_cutBack 40 = .ok (.dup, 1) := by decide +kernel
theorem dX0_cutBack_41 : decode cX0_cutBack 41 = .ok (.getfield 35, 3) := by decide +kernel
theorem dX0_cutBack_44 : decode cX0_cutBack 44 = .ok (.iload 4, 2) := by decide +kernel
theorem dX0_cutBack_46 : decode cX0_cutBack 46 = .ok (.iadd, 1) := by decide +kernel
theorem dX0_cutBack_47 : decode cX0_cutBack 47 = .ok (.putfield 35, 3) := by decide +kernel
theorem dX0_cutBack_50 : decode cX0_cutBack 50 = .ok (.aload_n 0, 1) := by decide +kernel
theorem dX0_cutBack_51 : decode cX0_cutBack 51 = .ok (.getfield 38, 3) := by decide +kernel
theorem dX0_cutBack_54 : decode cX0_cutBack 54 = .ok (.ifCond .ne 8, 3) := by decide +kernel
theorem dX0_cutBack_57 : decode cX0_cutBack 57 = .ok (.aload_n 0, 1) := by decide +kernel
theorem dX0_cutBack_58 : decode cX0_cutBack 58 = .ok (.iload_n 3, 1) := by decide +kernel
theorem dX0_cutBack_59 : decode cX0_cutBack 59 = .ok (.putfield 38, 3) := by decide +kernel
theorem dX0_cutBack_62 : decode cX0_cutBack 62 = .ok (.iload 4, 2) := by decide +kernel
theorem dX0_cutBack_64 : decode cX0_cutBack 64 = .ok (.ireturn, 1) := by decide +kernel
theorem dX0_settle_0 : decode cX0_settle 0 = .ok (.aload_n 0, 1) := by decide +kernel
theorem dX0_settle_1 : decode cX0_settle 1 = .ok (.dup, 1) := by decide +kernel
theorem dX0_settle_2 : decode cX0_settle 2 = .ok (.getfield 18, 3) := by decide +kernel
theorem dX0_settle_5 : decode cX0_settle 5 = .ok (.aload_n 0, 1) := by decide +kernel
theorem dX0_settle_6 : decode cX0_settle 6 = .ok (.getfield 32, 3) := by decide +kernel
theorem dX0_settle_9 : decode cX0_settle 9 = .ok (.iadd, 1) := by decide +kernel
theorem dX0_settle_10 : decode cX0_settle 10 = .ok (.putfield 18, 3) := by decide +kernel
theorem dX0_settle_13 : decode cX0_settle 13 = .ok (.aload_n 0, 1) := by decide +kernel
theorem dX0_settle_14 : decode cX0_settle 14 = .ok (.dup, 1) := by decide +kernel
theorem dX0_settle_15 : decode cX0_settle 15 = .ok (.getfield 22, 3) := by decide +kernel
theorem dX0_settle_18 : decode cX0_settle 18 = .ok (.aload_n 0, 1) := by decide +kernel
theorem dX0_settle_19 : decode cX0_settle 19 = .ok (.iconst 1, 1) := by decide +kernel
theorem dX0_settle_20 : decode cX0_settle 20 = .ok (.invokevirtual 78, 3) := by decide +kernel
theorem dX0_settle_23 : decode cX0_settle 23 = .ok (.i2l, 1) := by decide +kernel
theorem dX0_settle_24 : decode cX0_settle 24 = .ok (.ladd, 1) := by decide +kernel
theorem dX0_settle_25 : decode cX0_settle 25 = .ok (.putfield 22, 3) := by decide +kernel
theorem dX0_settle_28 : decode cX0_settle 28 = .ok (.aload_n 0, 1) := by decide +kernel
theorem dX0_settle_29 : decode cX0_settle 29 = .ok (.dup, 1) := by decide +kernel
theorem dX0_settle_30 : decode cX0_settle 30 = .ok (.getfield 26, 3) := by decide +kernel
theorem dX0_settle_33 : decode cX0_settle 33 = .ok (.aload_n 0, 1) := by decide +kernel
theorem dX0_settle_34 : decode cX0_settle 34 = .ok (.iconst 0, 1) := by decide +kernel
theorem dX0_settle_35 : decode cX0_settle 35 = .ok (.invokevirtual 78, 3) := by decide +kernel
theorem dX0_settle_38 : decode cX0_settle 38 = .ok (.i2l, 1) := by decide +kernel
theorem dX0_settle_39 : decode cX0_settle 39 = .ok (.ladd, 1) := by decide +kernel
theorem dX0_settle_40 : decode cX0_settle 40 = .ok (.putfield 26, 3) := by decide +kernel
theorem dX0_settle_43 : decode cX0_settle 43 = .ok (.aload_n 0, 1) := by decide +kernel
theorem dX0_settle_44 : decode cX0_settle 44 = .ok (.dup, 1) := by decide +kernel
theorem dX0_settle_45 : decode cX0_settle 45 = .ok (.getfield 29, 3) := by decide +kernel
theorem dX0_settle_48 : decode cX0_settle 48 = .ok (.aload_n 0, 1) := by decide +kernel
theorem dX0_settle_49 : decode cX0_settle 49 = .ok (.getfield 35, 3) := by decide +kernel
theorem dX0_settle_52 : decode cX0_settle 52 = .ok (.i2l, 1) := by decide +kernel
theorem dX0_settle_53 : decode cX0_settle 53 = .ok (.ladd, 1) := by decide +kernel
theorem dX0_settle_54 : decode cX0_settle 54 = .ok (.putfield 29, 3) := by decide +kernel
theorem dX0_settle_57 : decode cX0_settle 57 = .ok (.aload_n 0, 1) := by decide +kernel
theorem dX0_settle_58 : decode cX0_settle 58 = .ok (.getfield 12, 3) := by decide +kernel
theorem dX0_settle_61 : decode cX0_settle 61 = .ok (.iload_n 1, 1) := by decide +kernel
theorem dX0_settle_62 : decode cX0_settle 62 = .ok (.iconst 0, 1) := by decide +kernel
theorem dX0_settle_63 : decode cX0_settle 63 = .ok (.invokevirtual 82, 3) := by decide +kernel
theorem dX0_settle_66 : decode cX0_settle 66 = .ok (.pop, 1) := by decide +kernel
theorem dX0_settle_67 : decode cX0_settle 67 = .ok (.return_, 1) := by decide +kernel
theorem dX1_init_0 : decode cX1_init 0 = .ok (.aload_n 0, 1) := by decide +kernel
theorem dX1_init_1 : decode cX1_init 1 = .ok (.invokespecial 1, 3) := by decide +kernel
theorem dX1_init_4 : decode cX1_init 4 = .ok (.aload_n 0, 1) := by decide +kernel
theorem dX1_init_5 : decode cX1_init 5 = .ok (.bipush 64, 2) := by decide +kernel
theorem dX1_init_7 : decode cX1_init 7 = .ok (.newarray .int, 2) := by decide +kernel
theorem dX1_init_9 : decode cX1_init 9 = .ok (.putfield 9, 3) := by decide +kernel
theorem dX1_init_12 : decode cX1_init 12 = .ok (.return_, 1) := by decide +kernel
theorem dX1_at_0 : decode cX1_at 0 = .ok (.aload_n 0, 1) := by decide +kernel
theorem dX1_at_1 : decode cX1_at 1 = .ok (.getfield 9, 3) := by decide +kernel
theorem dX1_at_4 : decode cX1_at 4 = .ok (.iload_n 1, 1) := by decide +kernel
theorem dX1_at_5 : decode cX1_at 5 = .ok (.bipush 64, 2) := by decide +kernel
theorem dX1_at_7 : decode cX1_at 7 = .ok (.invokestatic 13, 3) := by decide +kernel
theorem dX1_at_10 : decode cX1_at 10 = .ok (.iaload, 1) := by decide +kernel
theorem dX1_at_11 : decode cX1_at 11 = .ok (.ireturn, 1) := by decide +kernel
theorem dX1_put_0 : decode cX1_put 0 = .ok (.iload_n 1, 1) := by decide +kernel
theorem dX1_put_1 : decode cX1_put 1 = .ok (.bipush 64, 2) := by decide +kernel
theorem dX1_put_3 : decode cX1_put 3 = .ok (.invokestatic 13, 3) := by decide +kernel
theorem dX1_put_6 : decode cX1_put 6 = .ok (.istore_n 3, 1) := by decide +kernel
theorem dX1_put_7 : decode cX1_put 7 = .ok (.aload_n 0, 1) := by decide +kernel
theorem dX1_put_8 : decode cX1_put 8 = .ok (.getfield 9, 3) := by decide +kernel
theorem dX1_put_11 : decode cX1_put 11 = .ok (.iload_n 3, 1) := by decide +kernel
theorem dX1_put_12 : decode cX1_put 12 = .ok (.iaload, 1) := by decide +kernel
theorem dX1_put_13 : decode cX1_put 13 = .ok (.istore 4, 2) := by decide +kernel
theorem dX1_put_15 : decode cX1_put 15 = .ok (.aload_n 0, 1) := by decide +kernel
theorem dX1_put_16 : decode cX1_put 16 = .ok (.getfield 9, 3) := by decide +kernel
theorem dX1_put_19 : decode cX1_put 19 = .ok (.iload_n 3, 1) := by decide +kernel
theorem dX1_put_20 : decode cX1_put 20 = .ok (.iload_n 2, 1) := by decide +kernel
theorem dX1_put_21 : decode cX1_put 21 = .ok (.iastore, 1) := by decide +kernel
theorem dX1_put_22 : decode cX1_put 22 = .ok (.iload 4, 2) := by decide +kernel
theorem dX1_put_24 : decode cX1_put 24 = .ok (.ireturn, 1) := by decide +kernel
theorem dX2_init_0 : decode cX2_init 0 = .ok (.aload_n 0, 1) := by decide +kernel
theorem dX2_init_1 : decode cX2_init 1 = .ok (.invokespecial 1, 3) := by decide +kernel
theorem dX2_init_4 : decode cX2_init 4 = .ok (.aload_n 0, 1) := by decide +kernel
theorem dX2_init_5 : decode cX2_init 5 = .ok (.iload_n 1, 1) := by decide +kernel
theorem dX2_init_6 : decode cX2_init 6 = .ok (.putfield 7, 3) := by decide +kernel
theorem dX2_init_9 : decode cX2_init 9 = .ok (.aload_n 0, 1) := by decide +kernel
theorem dX2_init_10 : decode cX2_init 10 = .ok (.iload_n 2, 1) := by decide +kernel
theorem dX2_init_11 : decode cX2_init 11 = .ok (.putfield 13, 3) := by decide +kernel
theorem dX2_init_14 : decode cX2_init 14 = .ok (.aload_n 0, 1) := by decide +kernel
theorem dX2_init_15 : decode cX2_init 15 = .ok (.iload_n 3, 1) := by decide +kernel
theorem dX2_init_16 : decode cX2_init 16 = .ok (.putfield 16, 3) := by decide +kernel
theorem dX2_init_19 : decode cX2_init 19 = .ok (.return_, 1) := by decide +kernel
theorem dX3_init_0 : decode cX3_init 0 = .ok (.aload_n 0, 1) := by decide +kernel
theorem dX3_init_1 : decode cX3_init 1 = .ok (.invokespecial 3, 3) := by decide +kernel
theorem dX3_init_4 : decode cX3_init 4 = .ok (.aload_n 0, 1) := by decide +kernel
theorem dX3_init_5 : decode cX3_init 5 = .ok (.iconst 0, 1) := by decide +kernel
theorem dX3_init_6 : decode cX3_init 6 = .ok (.putfield 9, 3) := by decide +kernel
theorem dX3_init_9 : decode cX3_init 9 = .ok (.aload_n 0, 1) := by decide +kernel
theorem dX3_init_10 : decode cX3_init 10 = .ok (.iconst 0, 1) := by decide +kernel
theorem dX3_init_11 : decode cX3_init 11 = .ok (.putfield 15, 3) := by decide +kernel
theorem dX3_init_14 : decode cX3_init 14 = .ok (.aload_n 0, 1) := by decide +kernel
theorem dX3_init_15 : decode cX3_init 15 = .ok (.lconst 0, 1) := by decide +kernel
theorem dX3_init_16 : decode cX3_init 16 = .ok (.putfield 18, 3) := by decide +kernel
theorem dX3_init_19 : decode cX3_init 19 = .ok (.aload_n 0, 1) := by decide +kernel
theorem dX3_init_20 : decode cX3_init 20 = .ok (.iconst 0, 1) := by decide +kernel
theorem dX3_init_21 : decode cX3_init 21 = .ok (.putfield 22, 3) := by decide +kernel
theorem dX3_init_24 : decode cX3_init 24 = .ok (.aload_n 0, 1) := by decide +kernel
theorem dX3_init_25 : decode cX3_init 25 = .ok (.iconst 0, 1) := by decide +kernel
theorem dX3_init_26 : decode cX3_init 26 = .ok (.putfield 25, 3) := by decide +kernel
theorem dX3_init_29 : decode cX3_init 29 = .ok (.aload_n 0, 1) := by decide +kernel
theorem dX3_init_30 : decode cX3_init 30 = .ok (.iconst 0, 1) := by decide +kernel
theorem dX3_init_31 : decode cX3_init 31 = .ok (.putfield 28, 3) := by decide +kernel
theorem dX3_init_34 : decode cX3_init 34 = .ok (.aload_n 0, 1) := by decide +kernel
theorem dX3_init_35 : decode cX3_init 35 = .ok (.iload_n 1, 1) := by decide +kernel
theorem dX3_init_36 : decode cX3_init 36 = .ok (.putfield 31, 3) := by decide +kernel
theorem dX3_init_39 : decode cX3_init 39 = .ok (.aload_n 0, 1) := by decide +kernel
theorem dX3_init_40 : decode cX3_init 40 = .ok (.iload_n 2, 1) := by decide +kernel
theorem dX3_init_41 : decode cX3_init 41 = .ok (.putfield 34, 3) := by decide +kernel
theorem dX3_init_44 : decode cX3_init 44 = .ok (.aload_n 0, 1) := by decide +kernel
theorem dX3_init_45 : decode cX3_init 45 = .ok (.iload_n 3, 1) := by decide +kernel
theorem dX3_init_46 : decode cX3_init 46 = .ok (.putfield 37, 3) := by decide +kernel
theorem dX3_init_49 : decode cX3_init 49 = .ok (.aload_n 0, 1) := by decide +kernel
theorem dX3_init_50 : decode cX3_init 50 = .ok (.iload 4, 2) := by decide +kernel
theorem dX3_init_52 : decode cX3_init 52 = .ok (.putfield 40, 3) := by decide +kernel
theorem dX3_init_55 : decode cX3_init 55 = .ok (.aload_n 0, 1) := by decide +kernel
theorem dX3_init_56 : decode cX3_init 56 = .ok (.iload 5, 2) := by decide +kernel
theorem dX3_init_58 : decode cX3_init 58 = .ok (.putfield 43, 3) := by decide +kernel
theorem dX3_init_61 : decode cX3_init 61 = .ok (.return_, 1) := by decide +kernel
theorem dX3_leastGasFor_0 : decode cX3_leastGasFor 0 = .ok (.iload_n 0, 1) := by decide +kernel
theorem dX3_leastGasFor_1 : decode cX3_leastGasFor 1 = .ok (.iload_n 1, 1) := by decide +kernel
theorem dX3_leastGasFor_2 : decode cX3_leastGasFor 2 = .ok (.imul, 1) := by decide +kernel
theorem dX3_leastGasFor_3 : decode cX3_leastGasFor 3 = .ok (.bipush 99, 2) := by decide +kernel
theorem dX3_leastGasFor_5 : decode cX3_leastGasFor 5 = .ok (.iadd, 1) := by decide +kernel
theorem dX3_leastGasFor_6 : decode cX3_leastGasFor 6 = .ok (.bipush 100, 2) := by decide +kernel
theorem dX3_leastGasFor_8 : decode cX3_leastGasFor 8 = .ok (.idiv, 1) := by decide +kernel
theorem dX3_leastGasFor_9 : decode cX3_leastGasFor 9 = .ok (.ireturn, 1) := by decide +kernel
theorem dX3_mostGasFor_0 : decode cX3_mostGasFor 0 = .ok (.iload_n 0, 1) := by decide +kernel
theorem dX3_mostGasFor_1 : decode cX3_mostGasFor 1 = .ok (.iload_n 1, 1) := by decide +kernel
theorem dX3_mostGasFor_2 : decode cX3_mostGasFor 2 = .ok (.imul, 1) := by decide +kernel
theorem dX3_mostGasFor_3 : decode cX3_mostGasFor 3 = .ok (.bipush 100, 2) := by decide +kernel
theorem dX3_mostGasFor_5 : decode cX3_mostGasFor 5 = .ok (.idiv, 1) := by decide +kernel
theorem dX3_mostGasFor_6 : decode cX3_mostGasFor 6 = .ok (.ireturn, 1) := by decide +kernel
theorem dX3_room_0 : decode cX3_room 0 = .ok (.aload_n 0, 1) := by decide +kernel
theorem dX3_room_1 : decode cX3_room 1 = .ok (.getfield 34, 3) := by decide +kernel
theorem dX3_room_4 : decode cX3_room 4 = .ok (.aload_n 0, 1) := by decide +kernel
theorem dX3_room_5 : decode cX3_room 5 = .ok (.getfield 9, 3) := by decide +kernel
theorem dX3_room_8 : decode cX3_room 8 = .ok (.isub, 1) := by decide +kernel
theorem dX3_room_9 : decode cX3_room 9 = .ok (.ireturn, 1) := by decide +kernel
theorem dX3_pressureNow_0 : decode cX3_pressureNow 0 = .ok (.aload_n 0, 1) := by decide +kernel
theorem dX3_pressureNow_1 : decode cX3_pressureNow 1 = .ok (.invokevirtual 46, 3) := by decide +kernel
theorem dX3_pressureNow_4 : decode cX3_pressureNow 4 = .ok (.istore_n 1, 1) := by decide +kernel
theorem dX3_pressureNow_5 : decode cX3_pressureNow 5 = .ok (.iload_n 1, 1) := by decide +kernel
theorem dX3_pressureNow_6 : decode cX3_pressureNow 6 = .ok (.ifCond .le 15, 3) := by decide +kernel
theorem dX3_pressureNow_9 : decode cX3_pressureNow 9 = .ok (.bipush 100, 2) := by decide +kernel
theorem dX3_pressureNow_11 : decode cX3_pressureNow 11 = .ok (.aload_n 0, 1) := by decide +kernel
theorem dX3_pressureNow_12 : decode cX3_pressureNow 12 = .ok (.getfield 15, 3) := by decide +kernel
theorem dX3_pressureNow_15 : decode cX3_pressureNow 15 = .ok (.imul, 1) := by decide +kernel
theorem dX3_pressureNow_16 : decode cX3_pressureNow 16 = .ok (.iload_n 1, 1) := by decide +kernel
theorem dX3_pressureNow_17 : decode cX3_pressureNow 17 = .ok (.idiv, 1) := by decide +kernel
theorem dX3_pressureNow_18 : decode cX3_pressureNow 18 = .ok (.goto 4, 3) := by decide +kernel
theorem dX3_pressureNow_21 : decode cX3_pressureNow 21 = .ok (.iconst 0, 1) := by decide +kernel
theorem dX3_pressureNow_22 : decode cX3_pressureNow 22 = .ok (.ireturn, 1) := by decide +kernel
theorem dX3_leastGas_0 : decode cX3_leastGas 0 = .ok (.aload_n 0, 1) := by decide +kernel
theorem dX3_leastGas_1 : decode cX3_leastGas 1 = .ok (.getfield 37, 3) := by decide +kernel
theorem dX3_leastGas_4 : decode cX3_leastGas 4 = .ok (.aload_n 0, 1) := by decide +kernel
theorem dX3_leastGas_5 : decode cX3_leastGas 5 = .ok (.invokevirtual 46, 3) := by decide +kernel
theorem dX3_leastGas_8 : decode cX3_leastGas 8 = .ok (.invokestatic 50, 3) := by decide +kernel
theorem dX3_leastGas_11 : decode cX3_leastGas 11 = .ok (.ireturn, 1) := by decide +kernel
theorem dX3_mostGas_0 : decode cX3_mostGas 0 = .ok (.aload_n 0, 1) := by decide +kernel
theorem dX3_mostGas_1 : decode cX3_mostGas 1 = .ok (.getfield 40, 3) := by decide +kernel
theorem dX3_mostGas_4 : decode cX3_mostGas 4 = .ok (.aload_n 0, 1) := by decide +kernel
theorem dX3_mostGas_5 : decode cX3_mostGas 5 = .ok (.invokevirtual 46, 3) := by decide +kernel
theorem dX3_mostGas_8 : decode cX3_mostGas 8 = .ok (.invokestatic 54, 3) := by decide +kernel
theorem dX3_mostGas_11 : decode cX3_mostGas 11 = .ok (.ireturn, 1) := by decide +kernel
theorem dX3_rateIn_0 : decode cX3_rateIn 0 = .ok (.aload_n 0, 1) := by decide +kernel
theorem dX3_rateIn_1 : decode cX3_rateIn 1 = .ok (.aload_n 0, 1) := by decide +kernel
theorem dX3_rateIn_2 : decode cX3_rateIn 2 = .ok (.getfield 40, 3) := by decide +kernel
theorem dX3_rateIn_5 : decode cX3_rateIn 5 = .ok (.aload_n 0, 1) := by decide +kernel
theorem dX3_rateIn_6 : decode cX3_rateIn 6 = .ok (.invokevirtual 57, 3) := by decide +kernel
theorem dX3_rateIn_9 : decode cX3_rateIn 9 = .ok (.isub, 1) := by decide +kernel
theorem dX3_rateIn_10 : decode cX3_rateIn 10 = .ok (.aload_n 0, 1) := by decide +kernel
theorem dX3_rateIn_11 : decode cX3_rateIn 11 = .ok (.invokevirtual 60, 3) := by decide +kernel
theorem dX3_rateIn_14 : decode cX3_rateIn 14 = .ok (.aload_n 0, 1) := by decide +kernel
theorem dX3_rateIn_15 : decode cX3_rateIn 15 = .ok (.getfield 15, 3) := by decide +kernel
theorem dX3_rateIn_18 : decode cX3_rateIn 18 = .ok (.isub, 1) := by decide +kernel
theorem dX3_rateIn_19 : decode cX3_rateIn 19 = .ok (.invokevirtual 63, 3) := by decide +kernel
theorem dX3_rateIn_22 : decode cX3_rateIn 22 = .ok (.ireturn, 1) := by decide +kernel
theorem dX3_rateOut_0 : decode cX3_rateOut 0 = .ok (.aload_n 0, 1) := by decide +kernel
theorem dX3_rateOut_1 : decode cX3_rateOut 1 = .ok (.aload_n 0, 1) := by decide +kernel
theorem dX3_rateOut_2 : decode cX3_rateOut 2 = .ok (.invokevirtual 57, 3) := by decide +kernel
theorem dX3_rateOut_5 : decode cX3_rateOut 5 = .ok (.aload_n 0, 1) := by decide +kernel
theorem dX3_rateOut_6 : decode cX3_rateOut 6 = .ok (.getfield 37, 3) := by decide +kernel
theorem dX3_rateOut_9 : decode cX3_rateOut 9 = .ok (.isub, 1) := by decide +kernel
theorem dX3_rateOut_10 : decode cX3_rateOut 10 = .ok (.aload_n 0, 1) := by decide +kernel
theorem dX3_rateOut_11 : decode cX3_rateOut 11 = .ok (.getfield 15, 3) := by decide +kernel
theorem dX3_rateOut_14 : decode cX3_rateOut 14 = .ok (.aload_n 0, 1) := by decide +kernel
theorem dX3_rateOut_15 : decode cX3_rateOut 15 = .ok (.invokevirtual 66, 3) := by decide +kernel
theorem dX3_rateOut_18 : decode cX3_rateOut 18 = .ok (.isub, 1) := by decide +kernel
theorem dX3_rateOut_19 : decode cX3_rateOut 19 = .ok (.invokevirtual 63, 3) := by decide +kernel
theorem dX3_rateOut_22 : decode cX3_rateOut 22 = .ok (.ireturn, 1) := by decide +kernel
theorem dX3_rateBy_0 : decode cX3_rateBy 0 = .ok (.iconst 0, 1) := by decide +kernel
theorem dX3_rateBy_1 : decode cX3_rateBy 1 = .ok (.aload_n 0, 1) := by decide +kernel
theorem dX3_rateBy_2 : decode cX3_rateBy 2 = .ok (.getfield 22, 3) := by decide +kernel
theorem dX3_rateBy_5 : decode cX3_rateBy 5 = .ok (.aload_n 0, 1) := by decide +kernel
theorem dX3_rateBy_6 : decode cX3_rateBy 6 = .ok (.getfield 25, 3) := by decide +kernel
theorem dX3_rateBy_9 : decode cX3_rateBy 9 = .ok (.imul, 1) := by decide +kernel
theorem dX3_rateBy_10 : decode cX3_rateBy 10 = .ok (.iload_n 1, 1) := by decide +kernel
theorem dX3_rateBy_11 : decode cX3_rateBy 11 = .ok (.imul, 1) := by decide +kernel
theorem dX3_rateBy_12 : decode cX3_rateBy 12 = .ok (.bipush 100, 2) := by decide +kernel
theorem dX3_rateBy_14 : decode cX3_rateBy 14 = .ok (.idiv, 1) := by decide +kernel
theorem dX3_rateBy_15 : decode cX3_rateBy 15 = .ok (.iload_n 2, 1) := by decide +kernel
theorem dX3_rateBy_16 : decode cX3_rateBy 16 = .ok (.invokestatic 69, 3) := by decide +kernel
theorem dX3_rateBy_19 : decode cX3_rateBy 19 = .ok (.invokestatic 74, 3) := by decide +kernel
theorem dX3_rateBy_22 : decode cX3_rateBy 22 = .ok (.ireturn, 1) := by decide +kernel
theorem dX3_takeIn_0 : decode cX3_takeIn 0 = .ok (.aload_n 0, 1) := by decide +kernel
theorem dX3_takeIn_1 : decode cX3_takeIn 1 = .ok (.dup, 1) := by decide +kernel
theorem dX3_takeIn_2 : decode cX3_takeIn 2 = .ok (.getfield 15, 3) := by decide +kernel
theorem dX3_takeIn_5 : decode cX3_takeIn 5 = .ok (.iload_n 1, 1) := by decide +kernel
theorem dX3_takeIn_6 : decode cX3_takeIn 6 = .ok (.iadd, 1) := by decide +kernel
theorem dX3_takeIn_7 : decode cX3_takeIn 7 = .ok (.putfield 15, 3) := by decide +kernel
theorem dX3_takeIn_10 : decode cX3_takeIn 10 = .ok (.aload_n 0, 1) := by decide +kernel
theorem dX3_takeIn_11 : decode cX3_takeIn 11 = .ok (.dup, 1) := by decide +kernel
theorem dX3_takeIn_12 : decode cX3_takeIn 12 = .ok (.getfield 18, 3) := by decide +kernel
theorem dX3_takeIn_15 : decode cX3_takeIn 15 = .ok (.iload_n 1, 1) := by decide +kernel
theorem dX3_takeIn_16 : decode cX3_takeIn 16 = .ok (.i2l, 1) := by decide +kernel
theorem dX3_takeIn_17 : decode cX3_takeIn 17 = .ok (.iload_n 2, 1) := by decide +kernel
theorem dX3_takeIn_18 : decode cX3_takeIn 18 = .ok (.i2l, 1) := by decide +kernel
theorem dX3_takeIn_19 : decode cX3_takeIn 19 = .ok (.lmul, 1) := by decide +kernel
theorem dX3_takeIn_20 : decode cX3_takeIn 20 = .ok (.ladd, 1) := by decide +kernel
theorem dX3_takeIn_21 : decode cX3_takeIn 21 = .ok (.putfield 18, 3) := by decide +kernel
theorem dX3_takeIn_24 : decode cX3_takeIn 24 = .ok (.return_, 1) := by decide +kernel
theorem dX3_giveAway_0 : decode cX3_giveAway 0 = .ok (.iload_n 1, 1) := by decide +kernel
theorem dX3_giveAway_1 : decode cX3_giveAway 1 = .ok (.aload_n 0, 1) := by decide +kernel
theorem dX3_giveAway_2 : decode cX3_giveAway 2 = .ok (.getfield 15, 3) := by decide +kernel
theorem dX3_giveAway_5 : decode cX3_giveAway 5 = .ok (.invokestatic 69, 3) := by decide +kernel
theorem dX3_giveAway_8 : decode cX3_giveAway 8 = .ok (.istore_n 2, 1) := by decide +kernel
theorem dX3_giveAway_9 : decode cX3_giveAway 9 = .ok (.iload_n 2, 1) := by decide +kernel
theorem dX3_giveAway_10 : decode cX3_giveAway 10 = .ok (.ifCond .gt 5, 3) := by decide +kernel
theorem dX3_giveAway_13 : decode cX3_giveAway 13 = .ok (.iconst 0, 1) := by decide +kernel
theorem dX3_giveAway_14 : decode cX3_giveAway 14 = .ok (.ireturn, 1) := by decide +kernel
theorem dX3_giveAway_15 : decode cX3_giveAway 15 = .ok (.aload_n 0, 1) := by decide +kernel
theorem dX3_giveAway_16 : decode cX3_giveAway 16 = .ok (.dup, 1) := by decide +kernel
theorem dX3_giveAway_17 : decode cX3_giveAway 17 = .ok (.getfield 18, 3) := by decide +kernel
theorem dX3_giveAway_20 : decode cX3_giveAway 20 = .ok (.iload_n 2, 1) := by decide +kernel
theorem dX3_giveAway_21 : decode cX3_giveAway 21 = .ok (.i2l, 1) := by decide +kernel
theorem dX3_giveAway_22 : decode cX3_giveAway 22 = .ok (.aload_n 0, 1) := by decide +kernel
theorem dX3_giveAway_23 : decode cX3_giveAway 23 = .ok (.getfield 18, 3) := by decide +kernel
theorem dX3_giveAway_26 : decode cX3_giveAway 26 = .ok (.lmul, 1) := by decide +kernel
theorem dX3_giveAway_27 : decode cX3_giveAway 27 = .ok (.aload_n 0, 1) := by decide +kernel
theorem dX3_giveAway_28 : decode cX3_giveAway 28 = .ok (.getfield 15, 3) := by decide +kernel
theorem dX3_giveAway_31 : decode cX3_giveAway 31 = .ok (.i2l, 1) := by decide +kernel
theorem dX3_giveAway_32 : decode cX3_giveAway 32 = .ok (.ldiv, 1) := by decide +kernel
theorem dX3_giveAway_33 : decode cX3_giveAway 33 = .ok (.lsub, 1) := by decide +kernel
theorem dX3_giveAway_34 : decode cX3_giveAway 34 = .ok (.putfield 18, 3) := by decide +kernel
theorem dX3_giveAway_37 : decode cX3_giveAway 37 = .ok (.aload_n 0, 1) := by decide +kernel
theorem dX3_giveAway_38 : decode cX3_giveAway 38 = .ok (.dup, 1) := by decide +kernel
theorem dX3_giveAway_39 : decode cX3_giveAway 39 = .ok (.getfield 15, 3) := by decide +kernel
theorem dX3_giveAway_42 : decode cX3_giveAway 42 = .ok (.iload_n 2, 1) := by decide +kernel
theorem dX3_giveAway_43 : decode cX3_giveAway 43 = .ok (.isub, 1) := by decide +kernel
theorem dX3_giveAway_44 : decode cX3_giveAway 44 = .ok (.putfield 15, 3) := by decide +kernel
theorem dX3_giveAway_47 : decode cX3_giveAway 47 = .ok (.iload_n 2, 1) := by decide +kernel
theorem dX3_giveAway_48 : decode cX3_giveAway 48 = .ok (.ireturn, 1) := by decide +kernel
theorem dX3_loseInAnHour_0 : decode cX3_loseInAnHour 0 = .ok (.aload_n 0, 1) := by decide +kernel
theorem dX3_loseInAnHour_1 : decode cX3_loseInAnHour 1 = .ok (.aload_n 0, 1) := by decide +kernel
theorem dX3_loseInAnHour_2 : decode cX3_loseInAnHour 2 = .ok (.getfield 28, 3) := by decide +kernel
theorem dX3_loseInAnHour_5 : decode cX3_loseInAnHour 5 = .ok (.invokevirtual 77, 3) := by decide +kernel
theorem dX3_loseInAnHour_8 : decode cX3_loseInAnHour 8 = .ok (.istore_n 1, 1) := by decide +kernel
theorem dX3_loseInAnHour_9 : decode cX3_loseInAnHour 9 = .ok (.aload_n 0, 1) := by decide +kernel
theorem dX3_loseInAnHour_10 : decode cX3_loseInAnHour 10 = .ok (.getfield 31, 3) := by decide +kernel
theorem dX3_loseInAnHour_13 : decode cX3_loseInAnHour 13 = .ok (.iconst 2, 1) := by decide +kernel
theorem dX3_loseInAnHour_14 : decode cX3_loseInAnHour 14 = .ok (.if_icmp .ne 21, 3) := by decide +kernel
theorem dX3_loseInAnHour_17 : decode cX3_loseInAnHour 17 = .ok (.iload_n 1, 1) := by decide +kernel
theorem dX3_loseInAnHour_18 : decode cX3_loseInAnHour 18 = .ok (.aload_n 0, 1) := by decide +kernel
theorem dX3_loseInAnHour_19 : decode cX3_loseInAnHour 19 = .ok (.aload_n 0, 1) := by decide +kernel
theorem dX3_loseInAnHour_20 : decode cX3_loseInAnHour 20 = .ok (.getfield 15, 3) := by decide +kernel
theorem dX3_loseInAnHour_23 : decode cX3_loseInAnHour 23 = .ok (.aload_n 0, 1) := by decide +kernel
theorem dX3_loseInAnHour_24 : decode cX3_loseInAnHour 24 = .ok (.getfield 43, 3) := by decide +kernel
theorem dX3_loseInAnHour_27 : decode cX3_loseInAnHour 27 = .ok (.isub, 1) := by decide +kernel
theorem dX3_loseInAnHour_28 : decode cX3_loseInAnHour 28 = .ok (.invokevirtual 77, 3) := by decide +kernel
theorem dX3_loseInAnHour_31 : decode cX3_loseInAnHour 31 = .ok (.iadd, 1) := by decide +kernel
theorem dX3_loseInAnHour_32 : decode cX3_loseInAnHour 32 = .ok (.goto 4, 3) := by decide +kernel
theorem dX3_loseInAnHour_35 : decode cX3_loseInAnHour 35 = .ok (.iload_n 1, 1) := by decide +kernel
theorem dX3_loseInAnHour_36 : decode cX3_loseInAnHour 36 = .ok (.ireturn, 1) := by decide +kernel
theorem dX3_loseAtDaysEnd_0 : decode cX3_loseAtDaysEnd 0 = .ok (.aload_n 0, 1) := by decide +kernel
theorem dX3_loseAtDaysEnd_1 : decode cX3_loseAtDaysEnd 1 = .ok (.getfield 31, 3) := by decide +kernel
theorem dX3_loseAtDaysEnd_4 : decode cX3_loseAtDaysEnd 4 = .ok (.ifCond .ne 10, 3) := by decide +kernel
theorem dX3_loseAtDaysEnd_7 : decode cX3_loseAtDaysEnd 7 = .ok (.aload_n 0, 1) := by decide +kernel
theorem dX3_loseAtDaysEnd_8 : decode cX3_loseAtDaysEnd 8 = .ok (.invokevirtual 81, 3) := by decide +kernel
theorem dX3_loseAtDaysEnd_11 : decode cX3_loseAtDaysEnd 11 = .ok (.goto 15, 3) := by decide +kernel
theorem dX3_loseAtDaysEnd_14 : decode cX3_loseAtDaysEnd 14 = .ok (.aload_n 0, 1) := by decide +kernel
theorem dX3_loseAtDaysEnd_15 : decode cX3_loseAtDaysEnd 15 = .ok (.getfield 31, 3) := by decide +kernel
theorem dX3_loseAtDaysEnd_18 : decode cX3_loseAtDaysEnd 18 = .ok (.iconst 1, 1) := by decide +kernel
theorem dX3_loseAtDaysEnd_19 : decode cX3_loseAtDaysEnd 19 = .ok (.if_icmp .ne 7, 3) := by decide +kernel
theorem dX3_loseAtDaysEnd_22 : decode cX3_loseAtDaysEnd 22 = .ok (.aload_n 0, 1) := by decide +kernel
theorem dX3_loseAtDaysEnd_23 : decode cX3_loseAtDaysEnd 23 = .ok (.invokevirtual 84, 3) := by decide +kernel
theorem dX3_loseAtDaysEnd_26 : decode cX3_loseAtDaysEnd 26 = .ok (.aload_n 0, 1) := by decide +kernel
theorem dX3_loseAtDaysEnd_27 : decode cX3_loseAtDaysEnd 27 = .ok (.aload_n 0, 1) := by decide +kernel
theorem dX3_loseAtDaysEnd_28 : decode cX3_loseAtDaysEnd 28 = .ok (.getfield 15, 3) := by decide +kernel
theorem dX3_loseAtDaysEnd_31 : decode cX3_loseAtDaysEnd 31 = .ok (.aload_n 0, 1) := by decide +kernel
theorem dX3_loseAtDaysEnd_32 : decode cX3_loseAtDaysEnd 32 = .ok (.invokevirtual 60, 3) := by decide +kernel
theorem dX3_loseAtDaysEnd_35 : decode cX3_loseAtDaysEnd 35 = .ok (.isub, 1) := by decide +kernel
theorem dX3_loseAtDaysEnd_36 : decode cX3_loseAtDaysEnd 36 = .ok (.invokevirtual 77, 3) := by decide +kernel
theorem dX3_loseAtDaysEnd_39 : decode cX3_loseAtDaysEnd 39 = .ok (.ireturn, 1) := by decide +kernel
theorem dX3_moveWater_0 : decode cX3_moveWater 0 = .ok (.aload_n 0, 1) := by decide +kernel
theorem dX3_moveWater_1 : decode cX3_moveWater 1 = .ok (.invokevirtual 57, 3) := by decide +kernel
theorem dX3_moveWater_4 : decode cX3_moveWater 4 = .ok (.istore_n 1, 1) := by decide +kernel
theorem dX3_moveWater_5 : decode cX3_moveWater 5 = .ok (.iload_n 1, 1) := by decide +kernel
theorem dX3_moveWater_6 : decode cX3_moveWater 6 = .ok (.aload_n 0, 1) := by decide +kernel
theorem dX3_moveWater_7 : decode cX3_moveWater 7 = .ok (.getfield 43, 3) := by decide +kernel
theorem dX3_moveWater_10 : decode cX3_moveWater 10 = .ok (.if_icmp .ge 23, 3) := by decide +kernel
theorem dX3_moveWater_13 : decode cX3_moveWater 13 = .ok (.aload_n 0, 1) := by decide +kernel
theorem dX3_moveWater_14 : decode cX3_moveWater 14 = .ok (.dup, 1) := by decide +kernel
theorem dX3_moveWater_15 : decode cX3_moveWater 15 = .ok (.getfield 9, 3) := by decide +kernel
theorem dX3_moveWater_18 : decode cX3_moveWater 18 = .ok (.aload_n 0, 1) := by decide +kernel
theorem dX3_moveWater_19 : decode cX3_moveWater 19 = .ok (.invokevirtual 46, 3) := by decide +kernel
theorem dX3_moveWater_22 : decode cX3_moveWater 22 = .ok (.sipush 200, 3) := by decide +kernel
theorem dX3_moveWater_25 : decode cX3_moveWater 25 = .ok (.idiv, 1) := by decide +kernel
theorem dX3_moveWater_26 : decode cX3_moveWater 26 = .ok (.iadd, 1) := by decide +kernel
theorem dX3_moveWater_27 : decode cX3_moveWater 27 = .ok (.putfield 9, 3) := by decide +kernel
theorem dX3_moveWater_30 : decode cX3_moveWater 30 = .ok (.goto 32, 3) := by decide +kernel
theorem dX3_moveWater_33 : decode cX3_moveWater 33 = .ok (.iload_n 1, 1) := by decide +kernel
theorem dX3_moveWater_34 : decode cX3_moveWater 34 = .ok (.aload_n 0, 1) := by decide +kernel
theorem dX3_moveWater_35 : decode cX3_moveWater 35 = .ok (.getfield 43, 3) := by decide +kernel
theorem dX3_moveWater_38 : decode cX3_moveWater 38 = .ok (.if_icmp .le 24, 3) := by decide +kernel
theorem dX3_moveWater_41 : decode cX3_moveWater 41 = .ok (.aload_n 0, 1) := by decide +kernel
theorem dX3_moveWater_42 : decode cX3_moveWater 42 = .ok (.dup, 1) := by decide +kernel
theorem dX3_moveWater_43 : decode cX3_moveWater 43 = .ok (.getfield 9, 3) := by decide +kernel
theorem dX3_moveWater_46 : decode cX3_moveWater 46 = .ok (.aload_n 0, 1) := by decide +kernel
theorem dX3_moveWater_47 : decode cX3_moveWater 47 = .ok (.getfield 9, 3) := by decide +kernel
theorem dX3_moveWater_50 : decode cX3_moveWater 50 = .ok (.sipush 199, 3) := by decide +kernel
theorem dX3_moveWater_53 : decode cX3_moveWater 53 = .ok (.iadd, 1) := by decide +kernel
theorem dX3_moveWater_54 : decode cX3_moveWater 54 = .ok (.sipush 200, 3) := by decide +kernel
theorem dX3_moveWater_57 : decode cX3_moveWater 57 = .ok (.idiv, 1) := by decide +kernel
theorem dX3_moveWater_58 : decode cX3_moveWater 58 = .ok (.isub, 1) := by decide +kernel
theorem dX3_moveWater_59 : decode cX3_moveWater 59 = .ok (.putfield 9, 3) := by decide +kernel
theorem dX3_moveWater_62 : decode cX3_moveWater 62 = .ok (.return_, 1) := by decide +kernel
theorem dX3_creep_0 : decode cX3_creep 0 = .ok (.aload_n 0, 1) := by decide +kernel
theorem dX3_creep_1 : decode cX3_creep 1 = .ok (.getfield 43, 3) := by decide +kernel
theorem dX3_creep_4 : decode cX3_creep 4 = .ok (.aload_n 0, 1) := by decide +kernel
theorem dX3_creep_5 : decode cX3_creep 5 = .ok (.invokevirtual 57, 3) := by decide +kernel
theorem dX3_creep_8 : decode cX3_creep 8 = .ok (.isub, 1) := by decide +kernel
theorem dX3_creep_9 : decode cX3_creep 9 = .ok (.i2l, 1) := by decide +kernel
theorem dX3_creep_10 : decode cX3_creep 10 = .ok (.lstore_n 1, 1) := by decide +kernel
theorem dX3_creep_11 : decode cX3_creep 11 = .ok (.lload_n 1, 1) := by decide +kernel
theorem dX3_creep_12 : decode cX3_creep 12 = .ok (.lconst 0, 1) := by decide +kernel
theorem dX3_creep_13 : decode cX3_creep 13 = .ok (.lcmp, 1) := by decide +kernel
theorem dX3_creep_14 : decode cX3_creep 14 = .ok (.ifCond .le 29, 3) := by decide +kernel
theorem dX3_creep_17 : decode cX3_creep 17 = .ok (.aload_n 0, 1) := by decide +kernel
theorem dX3_creep_18 : decode cX3_creep 18 = .ok (.lconst 1, 1) := by decide +kernel
theorem dX3_creep_19 : decode cX3_creep 19 = .ok (.aload_n 0, 1) := by decide +kernel
theorem dX3_creep_20 : decode cX3_creep 20 = .ok (.getfield 34, 3) := by decide +kernel
theorem dX3_creep_23 : decode cX3_creep 23 = .ok (.i2l, 1) := by decide +kernel
theorem dX3_creep_24 : decode cX3_creep 24 = .ok (.aload_n 0, 1) := by decide +kernel
theorem dX3_creep_25 : decode cX3_creep 25 = .ok (.getfield 34, 3) := by decide +kernel
theorem dX3_creep_28 : decode cX3_creep 28 = .ok (.i2l, 1) := by decide +kernel
theorem dX3_creep_29 : decode cX3_creep 29 = .ok (.lload_n 1, 1) := by decide +kernel
theorem dX3_creep_30 : decode cX3_creep 30 = .ok (.lmul, 1) := by decide +kernel
theorem dX3_creep_31 : decode cX3_creep 31 = .ok (.ldc2_w 87, 3) := by decide +kernel
theorem dX3_creep_34 : decode cX3_creep 34 = .ok (.ldiv, 1) := by decide +kernel
theorem dX3_creep_35 : decode cX3_creep 35 = .ok (.lsub, 1) := by decide +kernel
theorem dX3_creep_36 : decode cX3_creep 36 = .ok (.invokestatic 89, 3) := by decide +kernel
theorem dX3_creep_39 : decode cX3_creep 39 = .ok (.l2i, 1) := by decide +kernel
theorem dX3_creep_40 : decode cX3_creep 40 = .ok (.putfield 34, 3) := by decide +kernel
theorem dX3_creep_43 : decode cX3_creep 43 = .ok (.return_, 1) := by decide +kernel
theorem dX4_init_0 : decode cX4_init 0 = .ok (.aload_n 0, 1) := by decide +kernel
theorem dX4_init_1 : decode cX4_init 1 = .ok (.invokespecial 1, 3) := by decide +kernel
theorem dX4_init_4 : decode cX4_init 4 = .ok (.aload_n 0, 1) := by decide +kernel
theorem dX4_init_5 : decode cX4_init 5 = .ok (.new 7, 3) := by decide +kernel
theorem dX4_init_8 : decode cX4_init 8 = .ok (.dup, 1) := by decide +kernel
theorem dX4_init_9 : decode cX4_init 9 = .ok (.invokespecial 9, 3) := by decide +kernel
theorem dX4_init_12 : decode cX4_init 12 = .ok (.putfield 10, 3) := by decide +kernel
theorem dX4_init_15 : decode cX4_init 15 = .ok (.aload_n 0, 1) := by decide +kernel
theorem dX4_init_16 : decode cX4_init 16 = .ok (.new 7, 3) := by decide +kernel
theorem dX4_init_19 : decode cX4_init 19 = .ok (.dup, 1) := by decide +kernel
theorem dX4_init_20 : decode cX4_init 20 = .ok (.invokespecial 9, 3) := by decide +kernel
theorem dX4_init_23 : decode cX4_init 23 = .ok (.putfield 16, 3) := by decide +kernel
theorem dX4_init_26 : decode cX4_init 26 = .ok (.aload_n 0, 1) := by decide +kernel
theorem dX4_init_27 : decode cX4_init 27 = .ok (.new 7, 3) := by decide +kernel
theorem dX4_init_30 : decode cX4_init 30 = .ok (.dup, 1) := by decide +kernel
theorem dX4_init_31 : decode cX4_init 31 = .ok (.invokespecial 9, 3) := by decide +kernel
theorem dX4_init_34 : decode cX4_init 34 = .ok (.putfield 19, 3) := by decide +kernel
theorem dX4_init_37 : decode cX4_init 37 = .ok (.aload_n 0, 1) := by decide +kernel
theorem dX4_init_38 : decode cX4_init 38 = .ok (.new 22, 3) := by decide +kernel
theorem dX4_init_41 : decode cX4_init 41 = .ok (.dup, 1) := by decide +kernel
theorem dX4_init_42 : decode cX4_init 42 = .ok (.invokespecial 24, 3) := by decide +kernel
theorem dX4_init_45 : decode cX4_init 45 = .ok (.putfield 25, 3) := by decide +kernel
theorem dX4_init_48 : decode cX4_init 48 = .ok (.aload_n 0, 1) := by decide +kernel
theorem dX4_init_49 : decode cX4_init 49 = .ok (.iconst 0, 1) := by decide +kernel
theorem dX4_init_50 : decode cX4_init 50 = .ok (.putfield 29, 3) := by decide +kernel
theorem dX4_init_53 : decode cX4_init 53 = .ok (.aload_n 0, 1) := by decide +kernel
theorem dX4_init_54 : decode cX4_init 54 = .ok (.sipush 10000, 3) := by decide +kernel
theorem dX4_init_57 : decode cX4_init 57 = .ok (.putfield 33, 3) := by decide +kernel
theorem dX4_init_60 : decode cX4_init 60 = .ok (.aload_n 0, 1) := by decide +kernel
theorem dX4_init_61 : decode cX4_init 61 = .ok (.sipush (-1000), 3) := by decide +kernel
theorem dX4_init_64 : decode cX4_init 64 = .ok (.putfield 36, 3) := by decide +kernel
theorem dX4_init_67 : decode cX4_init 67 = .ok (.aload_n 0, 1) := by decide +kernel
theorem dX4_init_68 : decode cX4_init 68 = .ok (.sipush (-1000), 3) := by decide +kernel
theorem dX4_init_71 : decode cX4_init 71 = .ok (.putfield 39, 3) := by decide +kernel
theorem dX4_init_74 : decode cX4_init 74 = .ok (.aload_n 0, 1) := by decide +kernel
theorem dX4_init_75 : decode cX4_init 75 = .ok (.lconst 0, 1) := by decide +kernel
theorem dX4_init_76 : decode cX4_init 76 = .ok (.putfield 42, 3) := by decide +kernel
theorem dX4_init_79 : decode cX4_init 79 = .ok (.aload_n 0, 1) := by decide +kernel
theorem dX4_init_80 : decode cX4_init 80 = .ok (.lconst 0, 1) := by decide +kernel
theorem dX4_init_81 : decode cX4_init 81 = .ok (.putfield 46, 3) := by decide +kernel
theorem dX4_init_84 : decode cX4_init 84 = .ok (.aload_n 0, 1) := by decide +kernel
theorem dX4_init_85 : decode cX4_init 85 = .ok (.lconst 0, 1) := by decide +kernel
theorem dX4_init_86 : decode cX4_init 86 = .ok (.putfield 49, 3) := by decide +kernel
theorem dX4_init_89 : decode cX4_init 89 = .ok (.return_, 1) := by decide +kernel
theorem dX4_store_0 : decode cX4_store 0 = .ok (.iload_n 1, 1) := by decide +kernel
theorem dX4_store_1 : decode cX4_store 1 = .ok (.iconst 0, 1) := by decide +kernel
theorem dX4_store_2 : decode cX4_store 2 = .ok (.iconst 2, 1) := by decide +kernel
theorem dX4_store_3 : decode cX4_store 3 = .ok (.invokestatic 52, 3) := by decide +kernel
theorem dX4_store_6 : decode cX4_store 6 = .ok (.ifCond .eq 68, 3) := by decide +kernel
theorem dX4_store_9 : decode cX4_store 9 = .ok (.iload_n 2, 1) := by decide +kernel
theorem dX4_store_10 : decode cX4_store 10 = .ok (.iconst 1, 1) := by decide +kernel
theorem dX4_store_11 : decode cX4_store 11 = .ok (.ldc 56, 2) := by decide +kernel
theorem dX4_store_13 : decode cX4_store 13 = .ok (.invokestatic 52, 3) := by decide +kernel
theorem dX4_store_16 : decode cX4_store 16 = .ok (.ifCond .eq 58, 3) := by decide +kernel
theorem dX4_store_19 : decode cX4_store 19 = .ok (.iload 4, 2) := by decide +kernel
theorem dX4_store_21 : decode cX4_store 21 = .ok (.iconst 0, 1) := by decide +kernel
theorem dX4_store_22 : decode cX4_store 22 = .ok (.sipush 1000, 3) := by decide +kernel
theorem dX4_store_25 : decode cX4_store 25 = .ok (.invokestatic 52, 3) := by decide +kernel
theorem dX4_store_28 : decode cX4_store 28 = .ok (.ifCond .eq 46, 3) := by decide +kernel
theorem dX4_store_31 : decode cX4_store 31 = .ok (.iload 5, 2) := by decide +kernel
theorem dX4_store_33 : decode cX4_store 33 = .ok (.iload 4, 2) := by decide +kernel
theorem dX4_store_35 : decode cX4_store 35 = .ok (.sipush 1000, 3) := by decide +kernel
theorem dX4_store_38 : decode cX4_store 38 = .ok (.invokestatic 52, 3) := by decide +kernel
theorem dX4_store_41 : decode cX4_store 41 = .ok (.ifCond .eq 33, 3) := by decide +kernel
theorem dX4_store_44 : decode cX4_store 44 = .ok (.iload 6, 2) := by decide +kernel
theorem dX4_store_46 : decode cX4_store 46 = .ok (.iconst 0, 1) := by decide +kernel
theorem dX4_store_47 : decode cX4_store 47 = .ok (.ldc 57, 2) := by decide +kernel
theorem dX4_store_49 : decode cX4_store 49 = .ok (.invokestatic 52, 3) := by decide +kernel
theorem dX4_store_52 : decode cX4_store 52 = .ok (.ifCond .eq 22, 3) := by decide +kernel
theorem dX4_store_55 : decode cX4_store 55 = .ok (.iload_n 3, 1) := by decide +kernel
theorem dX4_store_56 : decode cX4_store 56 = .ok (.iload 4, 2) := by decide +kernel
theorem dX4_store_58 : decode cX4_store 58 = .ok (.iload_n 2, 1) := by decide +kernel
theorem dX4_store_59 : decode cX4_store 59 = .ok (.invokestatic 58, 3) := by decide +kernel
theorem dX4_store_62 : decode cX4_store 62 = .ok (.iload 5, 2) := by decide +kernel
theorem dX4_store_64 : decode cX4_store 64 = .ok (.iload_n 2, 1) := by decide +kernel
theorem dX4_store_65 : decode cX4_store 65 = .ok (.invokestatic 64, 3) := by decide +kernel
theorem dX4_store_68 : decode cX4_store 68 = .ok (.invokestatic 52, 3) := by decide +kernel
theorem dX4_store_71 : decode cX4_store 71 = .ok (.ifCond .ne 13, 3) := by decide +kernel
theorem dX4_store_74 : decode cX4_store 74 = .ok (.new 67, 3) := by decide +kernel
theorem dX4_store_77 : decode cX4_store 77 = .ok (.dup, 1) := by decide +kernel
theorem dX4_store_78 : decode cX4_store 78 = .ok (.ldc 69, 2) := by decide +kernel
theorem dX4_store_80 : decode cX4_store 80 = .ok (.invokespecial 71, 3) := by decide +kernel
theorem dX4_store_83 : decode cX4_store 83 = .ok (.athrow, 1) := by decide +kernel
theorem dX4_store_84 : decode cX4_store 84 = .ok (.aload_n 0, 1) := by decide +kernel
theorem dX4_store_85 : decode cX4_store 85 = .ok (.getfield 10, 3) := by decide +kernel
theorem dX4_store_88 : decode cX4_store 88 = .ok (.invokevirtual 74, 3) := by decide +kernel
theorem dX4_store_91 : decode cX4_store 91 = .ok (.iconst 5, 1) := by decide +kernel
theorem dX4_store_92 : decode cX4_store 92 = .ok (.if_icmp .lt 13, 3) := by decide +kernel
theorem dX4_store_95 : decode cX4_store 95 = .ok (.new 78, 3) := by decide +kernel
theorem dX4_store_98 : decode cX4_store 98 = .ok (.dup, 1) := by decide +kernel
theorem dX4_store_99 : decode cX4_store 99 = .ok (.ldc 80, 2) := by decide +kernel
theorem dX4_store_101 : decode cX4_store 101 = .ok (.invokespecial 82, 3) := by decide +kernel
theorem dX4_store_104 : decode cX4_store 104 = .ok (.athrow, 1) := by decide +kernel
theorem dX4_store_105 : decode cX4_store 105 = .ok (.new 59, 3) := by decide +kernel
theorem dX4_store_108 : decode cX4_store 108 = .ok (.dup, 1) := by decide +kernel
theorem dX4_store_109 : decode cX4_store 109 = .ok (.iload_n 1, 1) := by decide +kernel
theorem dX4_store_110 : decode cX4_store 110 = .ok (.iload_n 2, 1) := by decide +kernel
theorem dX4_store_111 : decode cX4_store 111 = .ok (.iload 4, 2) := by decide +kernel
theorem dX4_store_113 : decode cX4_store 113 = .ok (.iload 5, 2) := by decide +kernel
theorem dX4_store_115 : decode cX4_store 115 = .ok (.iload 6, 2) := by decide +kernel
theorem dX4_store_117 : decode cX4_store 117 = .ok (.invokespecial 83, 3) := by decide +kernel
theorem dX4_store_120 : decode cX4_store 120 = .ok (.astore 7, 2) := by decide +kernel
theorem dX4_store_122 : decode cX4_store 122 = .ok (.aload 7, 2) := by decide +kernel
theorem dX4_store_124 : decode cX4_store 124 = .ok (.iload_n 3, 1) := by decide +kernel
theorem dX4_store_125 : decode cX4_store 125 = .ok (.aload_n 0, 1) := by decide +kernel
theorem dX4_store_126 : decode cX4_store 126 = .ok (.getfield 33, 3) := by decide +kernel
theorem dX4_store_129 : decode cX4_store 129 = .ok (.invokevirtual 86, 3) := by decide +kernel
theorem dX4_store_132 : decode cX4_store 132 = .ok (.aload_n 0, 1) := by decide +kernel
theorem dX4_store_133 : decode cX4_store 133 = .ok (.getfield 10, 3) := by decide +kernel
theorem dX4_store_136 : decode cX4_store 136 = .ok (.aload 7, 2) := by decide +kernel
theorem dX4_store_138 : decode cX4_store 138 = .ok (.invokevirtual 90, 3) := by decide +kernel
theorem dX4_store_141 : decode cX4_store 141 = .ok (.pop, 1) := by decide +kernel
theorem dX4_store_142 : decode cX4_store 142 = .ok (.aload_n 0, 1) := by decide +kernel
theorem dX4_store_143 : decode cX4_store 143 = .ok (.dup, 1) := by decide +kernel
theorem dX4_store_144 : decode cX4_store 144 = .ok (.getfield 42, 3) := by decide +kernel
theorem dX4_store_147 : decode cX4_store 147 = .ok (.iload_n 3, 1) := by decide +kernel
theorem dX4_store_148 : decode cX4_store 148 = .ok (.i2l, 1) := by decide +kernel
theorem dX4_store_149 : decode cX4_store 149 = .ok (.ladd, 1) := by decide +kernel
theorem dX4_store_150 : decode cX4_store 150 = .ok (.putfield 42, 3) := by decide +kernel
theorem dX4_store_153 : decode cX4_store 153 = .ok (.aload_n 0, 1) := by decide +kernel
theorem dX4_store_154 : decode cX4_store 154 = .ok (.getfield 10, 3) := by decide +kernel
theorem dX4_store_157 : decode cX4_store 157 = .ok (.invokevirtual 74, 3) := by decide +kernel
theorem dX4_store_160 : decode cX4_store 160 = .ok (.iconst 1, 1) := by decide +kernel
theorem dX4_store_161 : decode cX4_store 161 = .ok (.isub, 1) := by decide +kernel
theorem dX4_store_162 : decode cX4_store 162 = .ok (.ireturn, 1) := by decide +kernel
theorem dX4_wells_0 : decode cX4_wells 0 = .ok (.aload_n 0, 1) := by decide +kernel
theorem dX4_wells_1 : decode cX4_wells 1 = .ok (.iload_n 1, 1) := by decide +kernel
theorem dX4_wells_2 : decode cX4_wells 2 = .ok (.invokevirtual 94, 3) := by decide +kernel
theorem dX4_wells_5 : decode cX4_wells 5 = .ok (.astore 4, 2) := by decide +kernel
theorem dX4_wells_7 : decode cX4_wells 7 = .ok (.iload_n 2, 1) := by decide +kernel
theorem dX4_wells_8 : decode cX4_wells 8 = .ok (.iconst 0, 1) := by decide +kernel
theorem dX4_wells_9 : decode cX4_wells 9 = .ok (.bipush 100, 2) := by decide +kernel
theorem dX4_wells_11 : decode cX4_wells 11 = .ok (.invokestatic 52, 3) := by decide +kernel
theorem dX4_wells_14 : decode cX4_wells 14 = .ok (.ifCond .eq 14, 3) := by decide +kernel
theorem dX4_wells_17 : decode cX4_wells 17 = .ok (.iload_n 3, 1) := by decide +kernel
theorem dX4_wells_18 : decode cX4_wells 18 = .ok (.iconst 0, 1) := by decide +kernel
theorem dX4_wells_19 : decode cX4_wells 19 = .ok (.sipush 1000, 3) := by decide +kernel
theorem dX4_wells_22 : decode cX4_wells 22 = .ok (.invokestatic 52, 3) := by decide +kernel
theorem dX4_wells_25 : decode cX4_wells 25 = .ok (.ifCond .ne 13, 3) := by decide +kernel
theorem dX4_wells_28 : decode cX4_wells 28 = .ok (.new 67, 3) := by decide +kernel
theorem dX4_wells_31 : decode cX4_wells 31 = .ok (.dup, 1) := by decide +kernel
theorem dX4_wells_32 : decode cX4_wells 32 = .ok (.ldc 98, 2) := by decide +kernel
theorem dX4_wells_34 : decode cX4_wells 34 = .ok (.invokespecial 71, 3) := by decide +kernel
theorem dX4_wells_37 : decode cX4_wells 37 = .ok (.athrow, 1) := by decide +kernel
theorem dX4_wells_38 : decode cX4_wells 38 = .ok (.aload 4, 2) := by decide +kernel
theorem dX4_wells_40 : decode cX4_wells 40 = .ok (.iload_n 2, 1) := by decide +kernel
theorem dX4_wells_41 : decode cX4_wells 41 = .ok (.putfield 100, 3) := by decide +kernel
theorem dX4_wells_44 : decode cX4_wells 44 = .ok (.aload 4, 2) := by decide +kernel
theorem dX4_wells_46 : decode cX4_wells 46 = .ok (.iload_n 3, 1) := by decide +kernel
theorem dX4_wells_47 : decode cX4_wells 47 = .ok (.putfield 103, 3) := by decide +kernel
theorem dX4_wells_50 : decode cX4_wells 50 = .ok (.aload 4, 2) := by decide +kernel
theorem dX4_wells_52 : decode cX4_wells 52 = .ok (.invokevirtual 106, 3) := by decide +kernel
theorem dX4_wells_55 : decode cX4_wells 55 = .ok (.ireturn, 1) := by decide +kernel
theorem dX4_leak_0 : decode cX4_leak 0 = .ok (.aload_n 0, 1) := by decide +kernel
theorem dX4_leak_1 : decode cX4_leak 1 = .ok (.iload_n 1, 1) := by decide +kernel
theorem dX4_leak_2 : decode cX4_leak 2 = .ok (.invokevirtual 94, 3) := by decide +kernel
theorem dX4_leak_5 : decode cX4_leak 5 = .ok (.astore_n 3, 1) := by decide +kernel
theorem dX4_leak_6 : decode cX4_leak 6 = .ok (.iload_n 2, 1) := by decide +kernel
theorem dX4_leak_7 : decode cX4_leak 7 = .ok (.iconst 0, 1) := by decide +kernel
theorem dX4_leak_8 : decode cX4_leak 8 = .ok (.sipush 1000, 3) := by decide +kernel
theorem dX4_leak_11 : decode cX4_leak 11 = .ok (.invokestatic 52, 3) := by decide +kernel
theorem dX4_leak_14 : decode cX4_leak 14 = .ok (.ifCond .ne 13, 3) := by decide +kernel
theorem dX4_leak_17 : decode cX4_leak 17 = .ok (.new 67, 3) := by decide +kernel
theorem dX4_leak_20 : decode cX4_leak 20 = .ok (.dup, 1) := by decide +kernel
theorem dX4_leak_21 : decode cX4_leak 21 = .ok (.ldc 109, 2) := by decide +kernel
theorem dX4_leak_23 : decode cX4_leak 23 = .ok (.invokespecial 71, 3) := by decide +kernel
theorem dX4_leak_26 : decode cX4_leak 26 = .ok (.athrow, 1) := by decide +kernel
theorem dX4_leak_27 : decode cX4_leak 27 = .ok (.aload_n 3, 1) := by decide +kernel
theorem dX4_leak_28 : decode cX4_leak 28 = .ok (.getfield 111, 3) := by decide +kernel
theorem dX4_leak_31 : decode cX4_leak 31 = .ok (.istore 4, 2) := by decide +kernel
theorem dX4_leak_33 : decode cX4_leak 33 = .ok (.aload_n 3, 1) := by decide +kernel
theorem dX4_leak_34 : decode cX4_leak 34 = .ok (.iload_n 2, 1) := by decide +kernel
theorem dX4_leak_35 : decode cX4_leak 35 = .ok (.putfield 111, 3) := by decide +kernel
theorem dX4_leak_38 : decode cX4_leak 38 = .ok (.iload 4, 2) := by decide +kernel
theorem dX4_leak_40 : decode cX4_leak 40 = .ok (.ireturn, 1) := by decide +kernel
theorem dX4_leach_0 : decode cX4_leach 0 = .ok (.aload_n 0, 1) := by decide +kernel
theorem dX4_leach_1 : decode cX4_leach 1 = .ok (.iload_n 1, 1) := by decide +kernel
theorem dX4_leach_2 : decode cX4_leach 2 = .ok (.invokevirtual 94, 3) := by decide +kernel
theorem dX4_leach_5 : decode cX4_leach 5 = .ok (.astore_n 3, 1) := by decide +kernel
theorem dX4_leach_6 : decode cX4_leach 6 = .ok (.iload_n 2, 1) := by decide +kernel
theorem dX4_leach_7 : decode cX4_leach 7 = .ok (.iconst 1, 1) := by decide +kernel
theorem dX4_leach_8 : decode cX4_leach 8 = .ok (.ldc 56, 2) := by decide +kernel
theorem dX4_leach_10 : decode cX4_leach 10 = .ok (.invokestatic 52, 3) := by decide +kernel
theorem dX4_leach_13 : decode cX4_leach 13 = .ok (.ifCond .ne 13, 3) := by decide +kernel
theorem dX4_leach_16 : decode cX4_leach 16 = .ok (.new 67, 3) := by decide +kernel
theorem dX4_leach_19 : decode cX4_leach 19 = .ok (.dup, 1) := by decide +kernel
theorem dX4_leach_20 : decode cX4_leach 20 = .ok (.ldc 114, 2) := by decide +kernel
theorem dX4_leach_22 : decode cX4_leach 22 = .ok (.invokespecial 71, 3) := by decide +kernel
theorem dX4_leach_25 : decode cX4_leach 25 = .ok (.athrow, 1) := by decide +kernel
theorem dX4_leach_26 : decode cX4_leach 26 = .ok (.aload_n 3, 1) := by decide +kernel
theorem dX4_leach_27 : decode cX4_leach 27 = .ok (.getfield 116, 3) := by decide +kernel
theorem dX4_leach_30 : decode cX4_leach 30 = .ok (.iconst 1, 1) := by decide +kernel
theorem dX4_leach_31 : decode cX4_leach 31 = .ok (.if_icmp .ne 21, 3) := by decide +kernel
theorem dX4_leach_34 : decode cX4_leach 34 = .ok (.aload_n 3, 1) := by decide +kernel
theorem dX4_leach_35 : decode cX4_leach 35 = .ok (.getfield 119, 3) := by decide +kernel
theorem dX4_leach_38 : decode cX4_leach 38 = .ok (.ifCond .gt 14, 3) := by decide +kernel
theorem dX4_leach_41 : decode cX4_leach 41 = .ok (.aload_n 3, 1) := by decide +kernel
theorem dX4_leach_42 : decode cX4_leach 42 = .ok (.getfield 122, 3) := by decide +kernel
theorem dX4_leach_45 : decode cX4_leach 45 = .ok (.iload_n 2, 1) := by decide +kernel
theorem dX4_leach_46 : decode cX4_leach 46 = .ok (.iadd, 1) := by decide +kernel
theorem dX4_leach_47 : decode cX4_leach 47 = .ok (.ldc 56, 2) := by decide +kernel
theorem dX4_leach_49 : decode cX4_leach 49 = .ok (.if_icmp .le 13, 3) := by decide +kernel
theorem dX4_leach_52 : decode cX4_leach 52 = .ok (.new 78, 3) := by decide +kernel
theorem dX4_leach_55 : decode cX4_leach 55 = .ok (.dup, 1) := by decide +kernel
theorem dX4_leach_56 : decode cX4_leach 56 = .ok (.ldc 125, 2) := by decide +kernel
theorem dX4_leach_58 : decode cX4_leach 58 = .ok (.invokespecial 82, 3) := by decide +kernel
theorem dX4_leach_61 : decode cX4_leach 61 = .ok (.athrow, 1) := by decide +kernel
theorem dX4_leach_62 : decode cX4_leach 62 = .ok (.aload_n 3, 1) := by decide +kernel
theorem dX4_leach_63 : decode cX4_leach 63 = .ok (.dup, 1) := by decide +kernel
theorem dX4_leach_64 : decode cX4_leach 64 = .ok (.getfield 122, 3) := by decide +kernel
theorem dX4_leach_67 : decode cX4_leach 67 = .ok (.iload_n 2, 1) := by decide +kernel
theorem dX4_leach_68 : decode cX4_leach 68 = .ok (.iadd, 1) := by decide +kernel
theorem dX4_leach_69 : decode cX4_leach 69 = .ok (.putfield 122, 3) := by decide +kernel
theorem dX4_leach_72 : decode cX4_leach 72 = .ok (.aload_n 3, 1) := by decide +kernel
theorem dX4_leach_73 : decode cX4_leach 73 = .ok (.getfield 122, 3) := by decide +kernel
theorem dX4_leach_76 : decode cX4_leach 76 = .ok (.ireturn, 1) := by decide +kernel
theorem dX4_heat_0 : decode cX4_heat 0 = .ok (.iload_n 1, 1) := by decide +kernel
theorem dX4_heat_1 : decode cX4_heat 1 = .ok (.iconst 0, 1) := by decide +kernel
theorem dX4_heat_2 : decode cX4_heat 2 = .ok (.sipush 20000, 3) := by decide +kernel
theorem dX4_heat_5 : decode cX4_heat 5 = .ok (.invokestatic 52, 3) := by decide +kernel
theorem dX4_heat_8 : decode cX4_heat 8 = .ok (.ifCond .ne 13, 3) := by decide +kernel
theorem dX4_heat_11 : decode cX4_heat 11 = .ok (.new 67, 3) := by decide +kernel
theorem dX4_heat_14 : decode cX4_heat 14 = .ok (.dup, 1) := by decide +kernel
theorem dX4_heat_15 : decode cX4_heat 15 = .ok (.ldc 127, 2) := by decide +kernel
theorem dX4_heat_17 : decode cX4_heat 17 = .ok (.invokespecial 71, 3) := by decide +kernel
theorem dX4_heat_20 : decode cX4_heat 20 = .ok (.athrow, 1) := by decide +kernel
theorem dX4_heat_21 : decode cX4_heat 21 = .ok (.aload_n 0, 1) := by decide +kernel
theorem dX4_heat_22 : decode cX4_heat 22 = .ok (.getfield 33, 3) := by decide +kernel
theorem dX4_heat_25 : decode cX4_heat 25 = .ok (.istore_n 2, 1) := by decide +kernel
theorem dX4_heat_26 : decode cX4_heat 26 = .ok (.aload_n 0, 1) := by decide +kernel
theorem dX4_heat_27 : decode cX4_heat 27 = .ok (.iload_n 1, 1) := by decide +kernel
theorem dX4_heat_28 : decode cX4_heat 28 = .ok (.putfield 33, 3) := by decide +kernel
theorem dX4_heat_31 : decode cX4_heat 31 = .ok (.iload_n 2, 1) := by decide +kernel
theorem dX4_heat_32 : decode cX4_heat 32 = .ok (.ireturn, 1) := by decide +kernel
theorem dX4_customer_0 : decode cX4_customer 0 = .ok (.iload_n 1, 1) := by decide +kernel
theorem dX4_customer_1 : decode cX4_customer 1 = .ok (.iconst 1, 1) := by decide +kernel
theorem dX4_customer_2 : decode cX4_customer 2 = .ok (.ldc 57, 2) := by decide +kernel
theorem dX4_customer_4 : decode cX4_customer 4 = .ok (.invokestatic 52, 3) := by decide +kernel
theorem dX4_customer_7 : decode cX4_customer 7 = .ok (.ifCond .eq 33, 3) := by decide +kernel
theorem dX4_customer_10 : decode cX4_customer 10 = .ok (.iload_n 2, 1) := by decide +kernel
theorem dX4_customer_11 : decode cX4_customer 11 = .ok (.iconst 0, 1) := by decide +kernel
theorem dX4_customer_12 : decode cX4_customer 12 = .ok (.ldc 56, 2) := by decide +kernel
theorem dX4_customer_14 : decode cX4_customer 14 = .ok (.invokestatic 52, 3) := by decide +kernel
theorem dX4_customer_17 : decode cX4_customer 17 = .ok (.ifCond .eq 23, 3) := by decide +kernel
theorem dX4_customer_20 : decode cX4_customer 20 = .ok (.iload_n 3, 1) := by decide +kernel
theorem dX4_customer_21 : decode cX4_customer 21 = .ok (.iconst 0, 1) := by decide +kernel
theorem dX4_customer_22 : decode cX4_customer 22 = .ok (.ldc 56, 2) := by decide +kernel
theorem dX4_customer_24 : decode cX4_customer 24 = .ok (.invokestatic 52, 3) := by decide +kernel
theorem dX4_customer_27 : decode cX4_customer 27 = .ok (.ifCond .eq 13, 3) := by decide +kernel
theorem dX4_customer_30 : decode cX4_customer 30 = .ok (.iload 4, 2) := by decide +kernel
theorem dX4_customer_32 : decode cX4_customer 32 = .ok (.iconst 0, 1) := by decide +kernel
theorem dX4_customer_33 : decode cX4_customer 33 = .ok (.iconst 3, 1) := by decide +kernel
theorem dX4_customer_34 : decode cX4_customer 34 = .ok (.invokestatic 52, 3) := by decide +kernel
theorem dX4_customer_37 : decode cX4_customer 37 = .ok (.ifCond .ne 13, 3) := by decide +kernel
theorem dX4_customer_40 : decode cX4_customer 40 = .ok (.new 67, 3) := by decide +kernel
theorem dX4_customer_43 : decode cX4_customer 43 = .ok (.dup, 1) := by decide +kernel
theorem dX4_customer_44 : decode cX4_customer 44 = .ok (.ldc 129, 2) := by decide +kernel
theorem dX4_customer_46 : decode cX4_customer 46 = .ok (.invokespecial 71, 3) := by decide +kernel
theorem dX4_customer_49 : decode cX4_customer 49 = .ok (.athrow, 1) := by decide +kernel
theorem dX4_customer_50 : decode cX4_customer 50 = .ok (.aload_n 0, 1) := by decide +kernel
theorem dX4_customer_51 : decode cX4_customer 51 = .ok (.getfield 16, 3) := by decide +kernel
theorem dX4_customer_54 : decode cX4_customer 54 = .ok (.invokevirtual 74, 3) := by decide +kernel
theorem dX4_customer_57 : decode cX4_customer 57 = .ok (.bipush 6, 2) := by decide +kernel
theorem dX4_customer_59 : decode cX4_customer 59 = .ok (.if_icmp .lt 13, 3) := by decide +kernel
theorem dX4_customer_62 : decode cX4_customer 62 = .ok (.new 78, 3) := by decide +kernel
theorem dX4_customer_65 : decode cX4_customer 65 = .ok (.dup, 1) := by decide +kernel
theorem dX4_customer_66 : decode cX4_customer 66 = .ok (.ldc 131, 2) := by decide +kernel
theorem dX4_customer_68 : decode cX4_customer 68 = .ok (.invokespecial 82, 3) := by decide +kernel
theorem dX4_customer_71 : decode cX4_customer 71 = .ok (.athrow, 1) := by decide +kernel
theorem dX4_customer_72 : decode cX4_customer 72 = .ok (.aload_n 0, 1) := by decide +kernel
theorem dX4_customer_73 : decode cX4_customer 73 = .ok (.getfield 16, 3) := by decide +kernel
theorem dX4_customer_76 : decode cX4_customer 76 = .ok (.new 133, 3) := by decide +kernel
theorem dX4_customer_79 : decode cX4_customer 79 = .ok (.dup, 1) := by decide +kernel
theorem dX4_customer_80 : decode cX4_customer 80 = .ok (.iload_n 1, 1) := by decide +kernel
theorem dX4_customer_81 : decode cX4_customer 81 = .ok (.iload_n 2, 1) := by decide +kernel
theorem dX4_customer_82 : decode cX4_customer 82 = .ok (.iload_n 3, 1) := by decide +kernel
theorem dX4_customer_83 : decode cX4_customer 83 = .ok (.iload 4, 2) := by decide +kernel
theorem dX4_customer_85 : decode cX4_customer 85 = .ok (.invokespecial 135, 3) := by decide +kernel
theorem dX4_customer_88 : decode cX4_customer 88 = .ok (.invokevirtual 90, 3) := by decide +kernel
theorem dX4_customer_91 : decode cX4_customer 91 = .ok (.pop, 1) := by decide +kernel
theorem dX4_customer_92 : decode cX4_customer 92 = .ok (.aload_n 0, 1) := by decide +kernel
theorem dX4_customer_93 : decode cX4_customer 93 = .ok (.getfield 16, 3) := by decide +kernel
theorem dX4_customer_96 : decode cX4_customer 96 = .ok (.invokevirtual 74, 3) := by decide +kernel
theorem dX4_customer_99 : decode cX4_customer 99 = .ok (.iconst 1, 1) := by decide +kernel
theorem dX4_customer_100 : decode cX4_customer 100 = .ok (.isub, 1) := by decide +kernel
theorem dX4_customer_101 : decode cX4_customer 101 = .ok (.ireturn, 1) := by decide +kernel
theorem dX4_nominate_0 : decode cX4_nominate 0 = .ok (.aload_n 0, 1) := by decide +kernel
theorem dX4_nominate_1 : decode cX4_nominate 1 = .ok (.iload_n 1, 1) := by decide +kernel
theorem dX4_nominate_2 : decode cX4_nominate 2 = .ok (.invokevirtual 138, 3) := by decide +kernel
theorem dX4_nominate_5 : decode cX4_nominate 5 = .ok (.astore 4, 2) := by decide +kernel
theorem dX4_nominate_7 : decode cX4_nominate 7 = .ok (.iload_n 2, 1) := by decide +kernel
theorem dX4_nominate_8 : decode cX4_nominate 8 = .ok (.aload_n 0, 1) := by decide +kernel
theorem dX4_nominate_9 : decode cX4_nominate 9 = .ok (.getfield 29, 3) := by decide +kernel
theorem dX4_nominate_12 : decode cX4_nominate 12 = .ok (.iconst 2, 1) := by decide +kernel
theorem dX4_nominate_13 : decode cX4_nominate 13 = .ok (.iadd, 1) := by decide +kernel
theorem dX4_nominate_14 : decode cX4_nominate 14 = .ok (.aload_n 0, 1) := by decide +kernel
theorem dX4_nominate_15 : decode cX4_nominate 15 = .ok (.getfield 29, 3) := by decide +kernel
theorem dX4_nominate_18 : decode cX4_nominate 18 = .ok (.bipush 60, 2) := by decide +kernel
theorem dX4_nominate_20 : decode cX4_nominate 20 = .ok (.iadd, 1) := by decide +kernel
theorem dX4_nominate_21 : decode cX4_nominate 21 = .ok (.invokestatic 52, 3) := by decide +kernel
theorem dX4_nominate_24 : decode cX4_nominate 24 = .ok (.ifCond .eq 14, 3) := by decide +kernel
theorem dX4_nominate_27 : decode cX4_nominate 27 = .ok (.iload_n 3, 1) := by decide +kernel
theorem dX4_nominate_28 : decode cX4_nominate 28 = .ok (.ldc 142, 2) := by decide +kernel
theorem dX4_nominate_30 : decode cX4_nominate 30 = .ok (.ldc 57, 2) := by decide +kernel
theorem dX4_nominate_32 : decode cX4_nominate 32 = .ok (.invokestatic 52, 3) := by decide +kernel
theorem dX4_nominate_35 : decode cX4_nominate 35 = .ok (.ifCond .ne 13, 3) := by decide +kernel
theorem dX4_nominate_38 : decode cX4_nominate 38 = .ok (.new 67, 3) := by decide +kernel
theorem dX4_nominate_41 : decode cX4_nominate 41 = .ok (.dup, 1) := by decide +kernel
theorem dX4_nominate_42 : decode cX4_nominate 42 = .ok (.ldc 143, 2) := by decide +kernel
theorem dX4_nominate_44 : decode cX4_nominate 44 = .ok (.invokespecial 71, 3) := by decide +kernel
theorem dX4_nominate_47 : decode cX4_nominate 47 = .ok (.athrow, 1) := by decide +kernel
theorem dX4_nominate_48 : decode cX4_nominate 48 = .ok (.aload 4, 2) := by decide +kernel
theorem dX4_nominate_50 : decode cX4_nominate 50 = .ok (.getfield 145, 3) := by decide +kernel
theorem dX4_nominate_53 : decode cX4_nominate 53 = .ok (.iload_n 2, 1) := by decide +kernel
theorem dX4_nominate_54 : decode cX4_nominate 54 = .ok (.iload_n 3, 1) := by decide +kernel
theorem dX4_nominate_55 : decode cX4_nominate 55 = .ok (.invokevirtual 148, 3) := by decide +kernel
theorem dX4_nominate_58 : decode cX4_nominate 58 = .ok (.ireturn, 1) := by decide +kernel
theorem dX4_transfer_0 : decode cX4_transfer 0 = .ok (.aload_n 0, 1) := by decide +kernel
theorem dX4_transfer_1 : decode cX4_transfer 1 = .ok (.iload_n 1, 1) := by decide +kernel
theorem dX4_transfer_2 : decode cX4_transfer 2 = .ok (.invokevirtual 138, 3) := by decide +kernel
theorem dX4_transfer_5 : decode cX4_transfer 5 = .ok (.astore 4, 2) := by decide +kernel
theorem dX4_transfer_7 : decode cX4_transfer 7 = .ok (.aload_n 0, 1) := by decide +kernel
theorem dX4_transfer_8 : decode cX4_transfer 8 = .ok (.iload_n 2, 1) := by decide +kernel
theorem dX4_transfer_9 : decode cX4_transfer 9 = .ok (.invokevirtual 138, 3) := by decide +kernel
theorem dX4_transfer_12 : decode cX4_transfer 12 = .ok (.astore 5, 2) := by decide +kernel
theorem dX4_transfer_14 : decode cX4_transfer 14 = .ok (.iload_n 1, 1) := by decide +kernel
theorem dX4_transfer_15 : decode cX4_transfer 15 = .ok (.iload_n 2, 1) := by decide +kernel
theorem dX4_transfer_16 : decode cX4_transfer 16 = .ok (.if_icmp .eq 13, 3) := by decide +kernel
theorem dX4_transfer_19 : decode cX4_transfer 19 = .ok (.iload_n 3, 1) := by decide +kernel
theorem dX4_transfer_20 : decode cX4_transfer 20 = .ok (.iconst 1, 1) := by decide +kernel
theorem dX4_transfer_21 : decode cX4_transfer 21 = .ok (.ldc 57, 2) := by decide +kernel
theorem dX4_transfer_23 : decode cX4_transfer 23 = .ok (.invokestatic 52, 3) := by decide +kernel
theorem dX4_transfer_26 : decode cX4_transfer 26 = .ok (.ifCond .ne 13, 3) := by decide +kernel
theorem dX4_transfer_29 : decode cX4_transfer 29 = .ok (.new 67, 3) := by decide +kernel
theorem dX4_transfer_32 : decode cX4_transfer 32 = .ok (.dup, 1) := by decide +kernel
theorem dX4_transfer_33 : decode cX4_transfer 33 = .ok (.ldc 151, 2) := by decide +kernel
theorem dX4_transfer_35 : decode cX4_transfer 35 = .ok (.invokespecial 71, 3) := by decide +kernel
theorem dX4_transfer_38 : decode cX4_transfer 38 = .ok (.athrow, 1) := by decide +kernel
theorem dX4_transfer_39 : decode cX4_transfer 39 = .ok (.aload 4, 2) := by decide +kernel
theorem dX4_transfer_41 : decode cX4_transfer 41 = .ok (.getfield 153, 3) := by decide +kernel
theorem dX4_transfer_44 : decode cX4_transfer 44 = .ok (.iload_n 3, 1) := by decide +kernel
theorem dX4_transfer_45 : decode cX4_transfer 45 = .ok (.if_icmp .lt 18, 3) := by decide +kernel
theorem dX4_transfer_48 : decode cX4_transfer 48 = .ok (.aload 5, 2) := by decide +kernel
theorem dX4_transfer_50 : decode cX4_transfer 50 = .ok (.getfield 156, 3) := by decide +kernel
theorem dX4_transfer_53 : decode cX4_transfer 53 = .ok (.aload 5, 2) := by decide +kernel
theorem dX4_transfer_55 : decode cX4_transfer 55 = .ok (.getfield 153, 3) := by decide +kernel
theorem dX4_transfer_58 : decode cX4_transfer 58 = .ok (.isub, 1) := by decide +kernel
theorem dX4_transfer_59 : decode cX4_transfer 59 = .ok (.iload_n 3, 1) := by decide +kernel
theorem dX4_transfer_60 : decode cX4_transfer 60 = .ok (.if_icmp .ge 13, 3) := by decide +kernel
theorem dX4_transfer_63 : decode cX4_transfer 63 = .ok (.new 78, 3) := by decide +kernel
theorem dX4_transfer_66 : decode cX4_transfer 66 = .ok (.dup, 1) := by decide +kernel
theorem dX4_transfer_67 : decode cX4_transfer 67 = .ok (.ldc 157, 2) := by decide +kernel
theorem dX4_transfer_69 : decode cX4_transfer 69 = .ok (.invokespecial 82, 3) := by decide +kernel
theorem dX4_transfer_72 : decode cX4_transfer 72 = .ok (.athrow, 1) := by decide +kernel
theorem dX4_transfer_73 : decode cX4_transfer 73 = .ok (.aload 4, 2) := by decide +kernel
theorem dX4_transfer_75 : decode cX4_transfer 75 = .ok (.dup, 1) := by decide +kernel
theorem dX4_transfer_76 : decode cX4_transfer 76 = .ok (.getfield 153, 3) := by decide +kernel
theorem dX4_transfer_79 : decode cX4_transfer 79 = .ok (.iload_n 3, 1) := by decide +kernel
theorem dX4_transfer_80 : decode cX4_transfer 80 = .ok (.isub, 1) := by decide +kernel
theorem dX4_transfer_81 : decode cX4_transfer 81 = .ok (.putfield 153, 3) := by decide +kernel
theorem dX4_transfer_84 : decode cX4_transfer 84 = .ok (.aload 5, 2) := by decide +kernel
theorem dX4_transfer_86 : decode cX4_transfer 86 = .ok (.dup, 1) := by decide +kernel
theorem dX4_transfer_87 : decode cX4_transfer 87 = .ok (.getfield 153, 3) := by decide +kernel
theorem dX4_transfer_90 : decode cX4_transfer 90 = .ok (.iload_n 3, 1) := by decide +kernel
theorem dX4_transfer_91 : decode cX4_transfer 91 = .ok (.iadd, 1) := by decide +kernel
theorem dX4_transfer_92 : decode cX4_transfer 92 = .ok (.putfield 153, 3) := by decide +kernel
theorem dX4_transfer_95 : decode cX4_transfer 95 = .ok (.aload 5, 2) := by decide +kernel
theorem dX4_transfer_97 : decode cX4_transfer 97 = .ok (.getfield 153, 3) := by decide +kernel
theorem dX4_transfer_100 : decode cX4_transfer 100 = .ok (.ireturn, 1) := by decide +kernel
theorem dX4_law_0 : decode cX4_law 0 = .ok (.iload_n 1, 1) := by decide +kernel
theorem dX4_law_1 : decode cX4_law 1 = .ok (.aload_n 0, 1) := by decide +kernel
theorem dX4_law_2 : decode cX4_law 2 = .ok (.getfield 29, 3) := by decide +kernel
theorem dX4_law_5 : decode cX4_law 5 = .ok (.sipush 10000, 3) := by decide +kernel
theorem dX4_law_8 : decode cX4_law 8 = .ok (.invokestatic 52, 3) := by decide +kernel
theorem dX4_law_11 : decode cX4_law 11 = .ok (.ifCond .eq 24, 3) := by decide +kernel
theorem dX4_law_14 : decode cX4_law 14 = .ok (.iload_n 2, 1) := by decide +kernel
theorem dX4_law_15 : decode cX4_law 15 = .ok (.iload_n 1, 1) := by decide +kernel
theorem dX4_law_16 : decode cX4_law 16 = .ok (.sipush 10000, 3) := by decide +kernel
theorem dX4_law_19 : decode cX4_law 19 = .ok (.invokestatic 52, 3) := by decide +kernel
theorem dX4_law_22 : decode cX4_law 22 = .ok (.ifCond .eq 13, 3) := by decide +kernel
theorem dX4_law_25 : decode cX4_law 25 = .ok (.iload_n 3, 1) := by decide +kernel
theorem dX4_law_26 : decode cX4_law 26 = .ok (.iconst 0, 1) := by decide +kernel
theorem dX4_law_27 : decode cX4_law 27 = .ok (.ldc 159, 2) := by decide +kernel
theorem dX4_law_29 : decode cX4_law 29 = .ok (.invokestatic 52, 3) := by decide +kernel
theorem dX4_law_32 : decode cX4_law 32 = .ok (.ifCond .ne 13, 3) := by decide +kernel
theorem dX4_law_35 : decode cX4_law 35 = .ok (.new 67, 3) := by decide +kernel
theorem dX4_law_38 : decode cX4_law 38 = .ok (.dup, 1) := by decide +kernel
theorem dX4_law_39 : decode cX4_law 39 = .ok (.ldc 160, 2) := by decide +kernel
theorem dX4_law_41 : decode cX4_law 41 = .ok (.invokespecial 71, 3) := by decide +kernel
theorem dX4_law_44 : decode cX4_law 44 = .ok (.athrow, 1) := by decide +kernel
theorem dX4_law_45 : decode cX4_law 45 = .ok (.aload_n 0, 1) := by decide +kernel
theorem dX4_law_46 : decode cX4_law 46 = .ok (.getfield 19, 3) := by decide +kernel
theorem dX4_law_49 : decode cX4_law 49 = .ok (.invokevirtual 74, 3) := by decide +kernel
theorem dX4_law_52 : decode cX4_law 52 = .ok (.bipush 20, 2) := by decide +kernel
theorem dX4_law_54 : decode cX4_law 54 = .ok (.if_icmp .lt 13, 3) := by decide +kernel
theorem dX4_law_57 : decode cX4_law 57 = .ok (.new 78, 3) := by decide +kernel
theorem dX4_law_60 : decode cX4_law 60 = .ok (.dup, 1) := by decide +kernel
theorem dX4_law_61 : decode cX4_law 61 = .ok (.ldc 162, 2) := by decide +kernel
theorem dX4_law_63 : decode cX4_law 63 = .ok (.invokespecial 82, 3) := by decide +kernel
theorem dX4_law_66 : decode cX4_law 66 = .ok (.athrow, 1) := by decide +kernel
theorem dX4_law_67 : decode cX4_law 67 = .ok (.aload_n 0, 1) := by decide +kernel
theorem dX4_law_68 : decode cX4_law 68 = .ok (.getfield 19, 3) := by decide +kernel
theorem dX4_law_71 : decode cX4_law 71 = .ok (.new 164, 3) := by decide +kernel
theorem dX4_law_74 : decode cX4_law 74 = .ok (.dup, 1) := by decide +kernel
theorem dX4_law_75 : decode cX4_law 75 = .ok (.iload_n 1, 1) := by decide +kernel
theorem dX4_law_76 : decode cX4_law 76 = .ok (.iload_n 2, 1) := by decide +kernel
theorem dX4_law_77 : decode cX4_law 77 = .ok (.iload_n 3, 1) := by decide +kernel
theorem dX4_law_78 : decode cX4_law 78 = .ok (.invokespecial 166, 3) := by decide +kernel
theorem dX4_law_81 : decode cX4_law 81 = .ok (.invokevirtual 90, 3) := by decide +kernel
theorem dX4_law_84 : decode cX4_law 84 = .ok (.pop, 1) := by decide +kernel
theorem dX4_law_85 : decode cX4_law 85 = .ok (.aload_n 0, 1) := by decide +kernel
theorem dX4_law_86 : decode cX4_law 86 = .ok (.getfield 19, 3) := by decide +kernel
theorem dX4_law_89 : decode cX4_law 89 = .ok (.invokevirtual 74, 3) := by decide +kernel
theorem dX4_law_92 : decode cX4_law 92 = .ok (.ireturn, 1) := by decide +kernel
theorem dX4_price_0 : decode cX4_price 0 = .ok (.iload_n 1, 1) := by decide +kernel
theorem dX4_price_1 : decode cX4_price 1 = .ok (.aload_n 0, 1) := by decide +kernel
theorem dX4_price_2 : decode cX4_price 2 = .ok (.getfield 29, 3) := by decide +kernel
theorem dX4_price_5 : decode cX4_price 5 = .ok (.aload_n 0, 1) := by decide +kernel
theorem dX4_price_6 : decode cX4_price 6 = .ok (.getfield 29, 3) := by decide +kernel
theorem dX4_price_9 : decode cX4_price 9 = .ok (.bipush 60, 2) := by decide +kernel
theorem dX4_price_11 : decode cX4_price 11 = .ok (.iadd, 1) := by decide +kernel
theorem dX4_price_12 : decode cX4_price 12 = .ok (.invokestatic 52, 3) := by decide +kernel
theorem dX4_price_15 : decode cX4_price 15 = .ok (.ifCond .eq 16, 3) := by decide +kernel
theorem dX4_price_18 : decode cX4_price 18 = .ok (.iload_n 2, 1) := by decide +kernel
theorem dX4_price_19 : decode cX4_price 19 = .ok (.sipush (-1000), 3) := by decide +kernel
theorem dX4_price_22 : decode cX4_price 22 = .ok (.sipush 1000, 3) := by decide +kernel
theorem dX4_price_25 : decode cX4_price 25 = .ok (.invokestatic 52, 3) := by decide +kernel
theorem dX4_price_28 : decode cX4_price 28 = .ok (.ifCond .ne 13, 3) := by decide +kernel
theorem dX4_price_31 : decode cX4_price 31 = .ok (.new 67, 3) := by decide +kernel
theorem dX4_price_34 : decode cX4_price 34 = .ok (.dup, 1) := by decide +kernel
theorem dX4_price_35 : decode cX4_price 35 = .ok (.ldc 169, 2) := by decide +kernel
theorem dX4_price_37 : decode cX4_price 37 = .ok (.invokespecial 71, 3) := by decide +kernel
theorem dX4_price_40 : decode cX4_price 40 = .ok (.athrow, 1) := by decide +kernel
theorem dX4_price_41 : decode cX4_price 41 = .ok (.aload_n 0, 1) := by decide +kernel
theorem dX4_price_42 : decode cX4_price 42 = .ok (.getfield 25, 3) := by decide +kernel
theorem dX4_price_45 : decode cX4_price 45 = .ok (.iload_n 1, 1) := by decide +kernel
theorem dX4_price_46 : decode cX4_price 46 = .ok (.iload_n 2, 1) := by decide +kernel
theorem dX4_price_47 : decode cX4_price 47 = .ok (.invokevirtual 148, 3) := by decide +kernel
theorem dX4_price_50 : decode cX4_price 50 = .ok (.ireturn, 1) := by decide +kernel
theorem dX4_pass_0 : decode cX4_pass 0 = .ok (.iload_n 1, 1) := by decide +kernel
theorem dX4_pass_1 : decode cX4_pass 1 = .ok (.iconst 1, 1) := by decide +kernel
theorem dX4_pass_2 : decode cX4_pass 2 = .ok (.sipush 240, 3) := by decide +kernel
theorem dX4_pass_5 : decode cX4_pass 5 = .ok (.invokestatic 52, 3) := by decide +kernel
theorem dX4_pass_8 : decode cX4_pass 8 = .ok (.ifCond .ne 13, 3) := by decide +kernel
theorem dX4_pass_11 : decode cX4_pass 11 = .ok (.new 67, 3) := by decide +kernel
theorem dX4_pass_14 : decode cX4_pass 14 = .ok (.dup, 1) := by decide +kernel
theorem dX4_pass_15 : decode cX4_pass 15 = .ok (.ldc 171, 2) := by decide +kernel
theorem dX4_pass_17 : decode cX4_pass 17 = .ok (.invokespecial 71, 3) := by decide +kernel
theorem dX4_pass_20 : decode cX4_pass 20 = .ok (.athrow, 1) := by decide +kernel
theorem dX4_pass_21 : decode cX4_pass 21 = .ok (.aload_n 0, 1) := by decide +kernel
theorem dX4_pass_22 : decode cX4_pass 22 = .ok (.getfield 29, 3) := by decide +kernel
theorem dX4_pass_25 : decode cX4_pass 25 = .ok (.iload_n 1, 1) := by decide +kernel
theorem dX4_pass_26 : decode cX4_pass 26 = .ok (.iadd, 1) := by decide +kernel
theorem dX4_pass_27 : decode cX4_pass 27 = .ok (.sipush 9900, 3) := by decide +kernel
theorem dX4_pass_30 : decode cX4_pass 30 = .ok (.if_icmp .le 13, 3) := by decide +kernel
theorem dX4_pass_33 : decode cX4_pass 33 = .ok (.new 78, 3) := by decide +kernel
theorem dX4_pass_36 : decode cX4_pass 36 = .ok (.dup, 1) := by decide +kernel
theorem dX4_pass_37 : decode cX4_pass 37 = .ok (.ldc 173, 2) := by decide +kernel
theorem dX4_pass_39 : decode cX4_pass 39 = .ok (.invokespecial 82, 3) := by decide +kernel
theorem dX4_pass_42 : decode cX4_pass 42 = .ok (.athrow, 1) := by decide +kernel
theorem dX4_pass_43 : decode cX4_pass 43 = .ok (.iconst 0, 1) := by decide +kernel
theorem dX4_pass_44 : decode cX4_pass 44 = .ok (.istore_n 2, 1) := by decide +kernel
theorem dX4_pass_45 : decode cX4_pass 45 = .ok (.iload_n 2, 1) := by decide +kernel
theorem dX4_pass_46 : decode cX4_pass 46 = .ok (.iload_n 1, 1) := by decide +kernel
theorem dX4_pass_47 : decode cX4_pass 47 = .ok (.if_icmp .ge 13, 3) := by decide +kernel
theorem dX4_pass_50 : decode cX4_pass 50 = .ok (.aload_n 0, 1) := by decide +kernel
theorem dX4_pass_51 : decode cX4_pass 51 = .ok (.invokevirtual 175, 3) := by decide +kernel
theorem dX4_pass_54 : decode cX4_pass 54 = .ok (.iinc 2 1, 3) := by decide +kernel
theorem dX4_pass_57 : decode cX4_pass 57 = .ok (.goto (-12), 3) := by decide +kernel
theorem dX4_pass_60 : decode cX4_pass 60 = .ok (.aload_n 0, 1) := by decide +kernel
theorem dX4_pass_61 : decode cX4_pass 61 = .ok (.getfield 29, 3) := by decide +kernel
theorem dX4_pass_64 : decode cX4_pass 64 = .ok (.ireturn, 1) := by decide +kernel
theorem dX4_pressure_0 : decode cX4_pressure 0 = .ok (.aload_n 0, 1) := by decide +kernel
theorem dX4_pressure_1 : decode cX4_pressure 1 = .ok (.iload_n 1, 1) := by decide +kernel
theorem dX4_pressure_2 : decode cX4_pressure 2 = .ok (.invokevirtual 94, 3) := by decide +kernel
theorem dX4_pressure_5 : decode cX4_pressure 5 = .ok (.invokevirtual 178, 3) := by decide +kernel
theorem dX4_pressure_8 : decode cX4_pressure 8 = .ok (.ireturn, 1) := by decide +kernel
theorem dX4_rate_0 : decode cX4_rate 0 = .ok (.aload_n 0, 1) := by decide +kernel
theorem dX4_rate_1 : decode cX4_rate 1 = .ok (.iload_n 1, 1) := by decide +kernel
theorem dX4_rate_2 : decode cX4_rate 2 = .ok (.invokevirtual 94, 3) := by decide +kernel
theorem dX4_rate_5 : decode cX4_rate 5 = .ok (.astore_n 3, 1) := by decide +kernel
theorem dX4_rate_6 : decode cX4_rate 6 = .ok (.iload_n 2, 1) := by decide +kernel
theorem dX4_rate_7 : decode cX4_rate 7 = .ok (.ifCond .eq 10, 3) := by decide +kernel
theorem dX4_rate_10 : decode cX4_rate 10 = .ok (.aload_n 3, 1) := by decide +kernel
theorem dX4_rate_11 : decode cX4_rate 11 = .ok (.invokevirtual 181, 3) := by decide +kernel
theorem dX4_rate_14 : decode cX4_rate 14 = .ok (.goto 7, 3) := by decide +kernel
theorem dX4_rate_17 : decode cX4_rate 17 = .ok (.aload_n 3, 1) := by decide +kernel
theorem dX4_rate_18 : decode cX4_rate 18 = .ok (.invokevirtual 106, 3) := by decide +kernel
theorem dX4_rate_21 : decode cX4_rate 21 = .ok (.ireturn, 1) := by decide +kernel
theorem dX4_mix_0 : decode cX4_mix 0 = .ok (.aload_n 0, 1) := by decide +kernel
theorem dX4_mix_1 : decode cX4_mix 1 = .ok (.iload_n 1, 1) := by decide +kernel
theorem dX4_mix_2 : decode cX4_mix 2 = .ok (.invokevirtual 94, 3) := by decide +kernel
theorem dX4_mix_5 : decode cX4_mix 5 = .ok (.astore_n 2, 1) := by decide +kernel
theorem dX4_mix_6 : decode cX4_mix 6 = .ok (.aload_n 2, 1) := by decide +kernel
theorem dX4_mix_7 : decode cX4_mix 7 = .ok (.getfield 119, 3) := by decide +kernel
theorem dX4_mix_10 : decode cX4_mix 10 = .ok (.ifCond .le 18, 3) := by decide +kernel
theorem dX4_mix_13 : decode cX4_mix 13 = .ok (.aload_n 2, 1) := by decide +kernel
theorem dX4_mix_14 : decode cX4_mix 14 = .ok (.getfield 184, 3) := by decide +kernel
theorem dX4_mix_17 : decode cX4_mix 17 = .ok (.l2f, 1) := by decide +kernel
theorem dX4_mix_18 : decode cX4_mix 18 = .ok (.aload_n 2, 1) := by decide +kernel
theorem dX4_mix_19 : decode cX4_mix 19 = .ok (.getfield 119, 3) := by decide +kernel
theorem dX4_mix_22 : decode cX4_mix 22 = .ok (.i2f, 1) := by decide +kernel
theorem dX4_mix_23 : decode cX4_mix 23 = .ok (.fdiv, 1) := by decide +kernel
theorem dX4_mix_24 : decode cX4_mix 24 = .ok (.f2i, 1) := by decide +kernel
theorem dX4_mix_25 : decode cX4_mix 25 = .ok (.goto 4, 3) := by decide +kernel
theorem dX4_mix_28 : decode cX4_mix 28 = .ok (.iconst 0, 1) := by decide +kernel
theorem dX4_mix_29 : decode cX4_mix 29 = .ok (.ireturn, 1) := by decide +kernel
theorem dX4_ofStore_0 : decode cX4_ofStore 0 = .ok (.aload_n 0, 1) := by decide +kernel
theorem dX4_ofStore_1 : decode cX4_ofStore 1 = .ok (.iload_n 1, 1) := by decide +kernel
theorem dX4_ofStore_2 : decode cX4_ofStore 2 = .ok (.invokevirtual 94, 3) := by decide +kernel
theorem dX4_ofStore_5 : decode cX4_ofStore 5 = .ok (.astore_n 3, 1) := by decide +kernel
theorem dX4_ofStore_6 : decode cX4_ofStore 6 = .ok (.iload_n 2, 1) := by decide +kernel
theorem dX4_ofStore_7 : decode cX4_ofStore 7 = .ok (.tableswitch 82 0 6 #[41, 47, 53, 59, 65, 70, 76], 41) := by decide +kernel
theorem dX4_ofStore_48 : decode cX4_ofStore 48 = .ok (.aload_n 3, 1) := by decide +kernel
theorem dX4_ofStore_49 : decode cX4_ofStore 49 = .ok (.getfield 119, 3) := by decide +kernel
theorem dX4_ofStore_52 : decode cX4_ofStore 52 = .ok (.i2l, 1) := by decide +kernel
theorem dX4_ofStore_53 : decode cX4_ofStore 53 = .ok (.lreturn, 1) := by decide +kernel
theorem dX4_ofStore_54 : decode cX4_ofStore 54 = .ok (.aload_n 3, 1) := by decide +kernel
theorem dX4_ofStore_55 : decode cX4_ofStore 55 = .ok (.invokevirtual 187, 3) := by decide +kernel
theorem dX4_ofStore_58 : decode cX4_ofStore 58 = .ok (.i2l, 1) := by decide +kernel
theorem dX4_ofStore_59 : decode cX4_ofStore 59 = .ok (.lreturn, 1) := by decide +kernel
theorem dX4_ofStore_60 : decode cX4_ofStore 60 = .ok (.aload_n 3, 1) := by decide +kernel
theorem dX4_ofStore_61 : decode cX4_ofStore 61 = .ok (.getfield 122, 3) := by decide +kernel
theorem dX4_ofStore_64 : decode cX4_ofStore 64 = .ok (.i2l, 1) := by decide +kernel
theorem dX4_ofStore_65 : decode cX4_ofStore 65 = .ok (.lreturn, 1) := by decide +kernel
theorem dX4_ofStore_66 : decode cX4_ofStore 66 = .ok (.aload_n 3, 1) := by decide +kernel
theorem dX4_ofStore_67 : decode cX4_ofStore 67 = .ok (.getfield 190, 3) := by decide +kernel
theorem dX4_ofStore_70 : decode cX4_ofStore 70 = .ok (.i2l, 1) := by decide +kernel
theorem dX4_ofStore_71 : decode cX4_ofStore 71 = .ok (.lreturn, 1) := by decide +kernel
theorem dX4_ofStore_72 : decode cX4_ofStore 72 = .ok (.aload_n 3, 1) := by decide +kernel
theorem dX4_ofStore_73 : decode cX4_ofStore 73 = .ok (.getfield 184, 3) := by decide +kernel
theorem dX4_ofStore_76 : decode cX4_ofStore 76 = .ok (.lreturn, 1) := by decide +kernel
theorem dX4_ofStore_77 : decode cX4_ofStore 77 = .ok (.aload_n 3, 1) := by decide +kernel
theorem dX4_ofStore_78 : decode cX4_ofStore 78 = .ok (.invokevirtual 193, 3) := by decide +kernel
theorem dX4_ofStore_81 : decode cX4_ofStore 81 = .ok (.i2l, 1) := by decide +kernel
theorem dX4_ofStore_82 : decode cX4_ofStore 82 = .ok (.lreturn, 1) := by decide +kernel
theorem dX4_ofStore_83 : decode cX4_ofStore 83 = .ok (.aload_n 3, 1) := by decide +kernel
theorem dX4_ofStore_84 : decode cX4_ofStore 84 = .ok (.invokevirtual 196, 3) := by decide +kernel
theorem dX4_ofStore_87 : decode cX4_ofStore 87 = .ok (.i2l, 1) := by decide +kernel
theorem dX4_ofStore_88 : decode cX4_ofStore 88 = .ok (.lreturn, 1) := by decide +kernel
theorem dX4_ofStore_89 : decode cX4_ofStore 89 = .ok (.new 67, 3) := by decide +kernel
theorem dX4_ofStore_92 : decode cX4_ofStore 92 = .ok (.dup, 1) := by decide +kernel
theorem dX4_ofStore_93 : decode cX4_ofStore 93 = .ok (.ldc 199, 2) := by decide +kernel
theorem dX4_ofStore_95 : decode cX4_ofStore 95 = .ok (.invokespecial 71, 3) := by decide +kernel
theorem dX4_ofStore_98 : decode cX4_ofStore 98 = .ok (.athrow, 1) := by decide +kernel
theorem dX4_ofCustomer_0 : decode cX4_ofCustomer 0 = .ok (.aload_n 0, 1) := by decide +kernel
theorem dX4_ofCustomer_1 : decode cX4_ofCustomer 1 = .ok (.iload_n 1, 1) := by decide +kernel
theorem dX4_ofCustomer_2 : decode cX4_ofCustomer 2 = .ok (.invokevirtual 138, 3) := by decide +kernel
theorem dX4_ofCustomer_5 : decode cX4_ofCustomer 5 = .ok (.astore_n 3, 1) := by decide +kernel
theorem dX4_ofCustomer_6 : decode cX4_ofCustomer 6 = .ok (.iload_n 2, 1) := by decide +kernel
theorem dX4_ofCustomer_7 : decode cX4_ofCustomer 7 = .ok (.tableswitch 78 0 5 #[37, 43, 53, 63, 68, 73], 37) := by decide +kernel
theorem dX4_ofCustomer_44 : decode cX4_ofCustomer 44 = .ok (.aload_n 3, 1) := by decide +kernel
theorem dX4_ofCustomer_45 : decode cX4_ofCustomer 45 = .ok (.getfield 153, 3) := by decide +kernel
theorem dX4_ofCustomer_48 : decode cX4_ofCustomer 48 = .ok (.i2l, 1) := by decide +kernel
theorem dX4_ofCustomer_49 : decode cX4_ofCustomer 49 = .ok (.lreturn, 1) := by decide +kernel
theorem dX4_ofCustomer_50 : decode cX4_ofCustomer 50 = .ok (.aload_n 3, 1) := by decide +kernel
theorem dX4_ofCustomer_51 : decode cX4_ofCustomer 51 = .ok (.aload_n 3, 1) := by decide +kernel
theorem dX4_ofCustomer_52 : decode cX4_ofCustomer 52 = .ok (.getfield 153, 3) := by decide +kernel
theorem dX4_ofCustomer_55 : decode cX4_ofCustomer 55 = .ok (.invokevirtual 201, 3) := by decide +kernel
theorem dX4_ofCustomer_58 : decode cX4_ofCustomer 58 = .ok (.i2l, 1) := by decide +kernel
theorem dX4_ofCustomer_59 : decode cX4_ofCustomer 59 = .ok (.lreturn, 1) := by decide +kernel
theorem dX4_ofCustomer_60 : decode cX4_ofCustomer 60 = .ok (.aload_n 3, 1) := by decide +kernel
theorem dX4_ofCustomer_61 : decode cX4_ofCustomer 61 = .ok (.aload_n 3, 1) := by decide +kernel
theorem dX4_ofCustomer_62 : decode cX4_ofCustomer 62 = .ok (.getfield 153, 3) := by decide +kernel
theorem dX4_ofCustomer_65 : decode cX4_ofCustomer 65 = .ok (.invokevirtual 205, 3) := by decide +kernel
theorem dX4_ofCustomer_68 : decode cX4_ofCustomer 68 = .ok (.i2l, 1) := by decide +kernel
theorem dX4_ofCustomer_69 : decode cX4_ofCustomer 69 = .ok (.lreturn, 1) := by decide +kernel
theorem dX4_ofCustomer_70 : decode cX4_ofCustomer 70 = .ok (.aload_n 3, 1) := by decide +kernel
theorem dX4_ofCustomer_71 : decode cX4_ofCustomer 71 = .ok (.getfield 208, 3) := by decide +kernel
theorem dX4_ofCustomer_74 : decode cX4_ofCustomer 74 = .ok (.lreturn, 1) := by decide +kernel
theorem dX4_ofCustomer_75 : decode cX4_ofCustomer 75 = .ok (.aload_n 3, 1) := by decide +kernel
theorem dX4_ofCustomer_76 : decode cX4_ofCustomer 76 = .ok (.getfield 211, 3) := by decide +kernel
theorem dX4_ofCustomer_79 : decode cX4_ofCustomer 79 = .ok (.lreturn, 1) := by decide +kernel
theorem dX4_ofCustomer_80 : decode cX4_ofCustomer 80 = .ok (.aload_n 3, 1) := by decide +kernel
theorem dX4_ofCustomer_81 : decode cX4_ofCustomer 81 = .ok (.getfield 214, 3) := by decide +kernel
theorem dX4_ofCustomer_84 : decode cX4_ofCustomer 84 = .ok (.lreturn, 1) := by decide +kernel
theorem dX4_ofCustomer_85 : decode cX4_ofCustomer 85 = .ok (.new 67, 3) := by decide +kernel
theorem dX4_ofCustomer_88 : decode cX4_ofCustomer 88 = .ok (.dup, 1) := by decide +kernel
theorem dX4_ofCustomer_89 : decode cX4_ofCustomer 89 = .ok (.ldc 199, 2) := by decide +kernel
theorem dX4_ofCustomer_91 : decode cX4_ofCustomer 91 = .ok (.invokespecial 71, 3) := by decide +kernel
theorem dX4_ofCustomer_94 : decode cX4_ofCustomer 94 = .ok (.athrow, 1) := by decide +kernel
theorem dX4_flow_0 : decode cX4_flow 0 = .ok (.aload_n 0, 1) := by decide +kernel
theorem dX4_flow_1 : decode cX4_flow 1 = .ok (.iload_n 1, 1) := by decide +kernel
theorem dX4_flow_2 : decode cX4_flow 2 = .ok (.invokevirtual 138, 3) := by decide +kernel
theorem dX4_flow_5 : decode cX4_flow 5 = .ok (.astore_n 2, 1) := by decide +kernel
theorem dX4_flow_6 : decode cX4_flow 6 = .ok (.aload_n 0, 1) := by decide +kernel
theorem dX4_flow_7 : decode cX4_flow 7 = .ok (.invokevirtual 217, 3) := by decide +kernel
theorem dX4_flow_10 : decode cX4_flow 10 = .ok (.aload_n 2, 1) := by decide +kernel
theorem dX4_flow_11 : decode cX4_flow 11 = .ok (.getfield 220, 3) := by decide +kernel
theorem dX4_flow_14 : decode cX4_flow 14 = .ok (.ireturn, 1) := by decide +kernel
theorem dX4_why_0 : decode cX4_why 0 = .ok (.aload_n 0, 1) := by decide +kernel
theorem dX4_why_1 : decode cX4_why 1 = .ok (.iload_n 1, 1) := by decide +kernel
theorem dX4_why_2 : decode cX4_why 2 = .ok (.invokevirtual 138, 3) := by decide +kernel
theorem dX4_why_5 : decode cX4_why 5 = .ok (.astore_n 2, 1) := by decide +kernel
theorem dX4_why_6 : decode cX4_why 6 = .ok (.aload_n 0, 1) := by decide +kernel
theorem dX4_why_7 : decode cX4_why 7 = .ok (.invokevirtual 217, 3) := by decide +kernel
theorem dX4_why_10 : decode cX4_why 10 = .ok (.aload_n 2, 1) := by decide +kernel
theorem dX4_why_11 : decode cX4_why 11 = .ok (.getfield 223, 3) := by decide +kernel
theorem dX4_why_14 : decode cX4_why 14 = .ok (.ireturn, 1) := by decide +kernel
theorem dX4_worth_0 : decode cX4_worth 0 = .ok (.aload_n 0, 1) := by decide +kernel
theorem dX4_worth_1 : decode cX4_worth 1 = .ok (.iload_n 1, 1) := by decide +kernel
theorem dX4_worth_2 : decode cX4_worth 2 = .ok (.invokevirtual 138, 3) := by decide +kernel
theorem dX4_worth_5 : decode cX4_worth 5 = .ok (.astore_n 3, 1) := by decide +kernel
theorem dX4_worth_6 : decode cX4_worth 6 = .ok (.iload_n 2, 1) := by decide +kernel
theorem dX4_worth_7 : decode cX4_worth 7 = .ok (.iconst 1, 1) := by decide +kernel
theorem dX4_worth_8 : decode cX4_worth 8 = .ok (.bipush 8, 2) := by decide +kernel
theorem dX4_worth_10 : decode cX4_worth 10 = .ok (.invokestatic 52, 3) := by decide +kernel
theorem dX4_worth_13 : decode cX4_worth 13 = .ok (.ifCond .ne 13, 3) := by decide +kernel
theorem dX4_worth_16 : decode cX4_worth 16 = .ok (.new 67, 3) := by decide +kernel
theorem dX4_worth_19 : decode cX4_worth 19 = .ok (.dup, 1) := by decide +kernel
theorem dX4_worth_20 : decode cX4_worth 20 = .ok (.ldc 171, 2) := by decide +kernel
theorem dX4_worth_22 : decode cX4_worth 22 = .ok (.invokespecial 71, 3) := by decide +kernel
theorem dX4_worth_25 : decode cX4_worth 25 = .ok (.athrow, 1) := by decide +kernel
theorem dX4_worth_26 : decode cX4_worth 26 = .ok (.aload_n 3, 1) := by decide +kernel
theorem dX4_worth_27 : decode cX4_worth 27 = .ok (.aload_n 0, 1) := by decide +kernel
theorem dX4_worth_28 : decode cX4_worth 28 = .ok (.getfield 25, 3) := by decide +kernel
theorem dX4_worth_31 : decode cX4_worth 31 = .ok (.aload_n 3, 1) := by decide +kernel
theorem dX4_worth_32 : decode cX4_worth 32 = .ok (.getfield 153, 3) := by decide +kernel
theorem dX4_worth_35 : decode cX4_worth 35 = .ok (.aload_n 0, 1) := by decide +kernel
theorem dX4_worth_36 : decode cX4_worth 36 = .ok (.getfield 29, 3) := by decide +kernel
theorem dX4_worth_39 : decode cX4_worth 39 = .ok (.iload_n 2, 1) := by decide +kernel
theorem dX4_worth_40 : decode cX4_worth 40 = .ok (.invokestatic 226, 3) := by decide +kernel
theorem dX4_worth_43 : decode cX4_worth 43 = .ok (.lreturn, 1) := by decide +kernel
theorem dX4_worthAnew_0 : decode cX4_worthAnew 0 = .ok (.aload_n 0, 1) := by decide +kernel
theorem dX4_worthAnew_1 : decode cX4_worthAnew 1 = .ok (.iload_n 1, 1) := by decide +kernel
theorem dX4_worthAnew_2 : decode cX4_worthAnew 2 = .ok (.invokevirtual 138, 3) := by decide +kernel
theorem dX4_worthAnew_5 : decode cX4_worthAnew 5 = .ok (.astore_n 3, 1) := by decide +kernel
theorem dX4_worthAnew_6 : decode cX4_worthAnew 6 = .ok (.iload_n 2, 1) := by decide +kernel
theorem dX4_worthAnew_7 : decode cX4_worthAnew 7 = .ok (.iconst 1, 1) := by decide +kernel
theorem dX4_worthAnew_8 : decode cX4_worthAnew 8 = .ok (.bipush 8, 2) := by decide +kernel
theorem dX4_worthAnew_10 : decode cX4_worthAnew 10 = .ok (.invokestatic 52, 3) := by decide +kernel
theorem dX4_worthAnew_13 : decode cX4_worthAnew 13 = .ok (.ifCond .ne 13, 3) := by decide +kernel
theorem dX4_worthAnew_16 : decode cX4_worthAnew 16 = .ok (.new 67, 3) := by decide +kernel
theorem dX4_worthAnew_19 : decode cX4_worthAnew 19 = .ok (.dup, 1) := by decide +kernel
theorem dX4_worthAnew_20 : decode cX4_worthAnew 20 = .ok (.ldc 171, 2) := by decide +kernel
theorem dX4_worthAnew_22 : decode cX4_worthAnew 22 = .ok (.invokespecial 71, 3) := by decide +kernel
theorem dX4_worthAnew_25 : decode cX4_worthAnew 25 = .ok (.athrow, 1) := by decide +kernel
theorem dX4_worthAnew_26 : decode cX4_worthAnew 26 = .ok (.iconst 1, 1) := by decide +kernel
theorem dX4_worthAnew_27 : decode cX4_worthAnew 27 = .ok (.istore 4, 2) := by decide +kernel
theorem dX4_worthAnew_29 : decode cX4_worthAnew 29 = .ok (.iconst 0, 1) := by decide +kernel
theorem dX4_worthAnew_30 : decode cX4_worthAnew 30 = .ok (.istore 5, 2) := by decide +kernel
theorem dX4_worthAnew_32 : decode cX4_worthAnew 32 = .ok (.iload 5, 2) := by decide +kernel
theorem dX4_worthAnew_34 : decode cX4_worthAnew 34 = .ok (.iload_n 2, 1) := by decide +kernel
theorem dX4_worthAnew_35 : decode cX4_worthAnew 35 = .ok (.if_icmp .ge 15, 3) := by decide +kernel
theorem dX4_worthAnew_38 : decode cX4_worthAnew 38 = .ok (.iload 4, 2) := by decide +kernel
theorem dX4_worthAnew_40 : decode cX4_worthAnew 40 = .ok (.iconst 3, 1) := by decide +kernel
theorem dX4_worthAnew_41 : decode cX4_worthAnew 41 = .ok (.imul, 1) := by decide +kernel
theorem dX4_worthAnew_42 : decode cX4_worthAnew 42 = .ok (.istore 4, 2) := by decide +kernel
theorem dX4_worthAnew_44 : decode cX4_worthAnew 44 = .ok (.iinc 5 1, 3) := by decide +kernel
theorem dX4_worthAnew_47 : decode cX4_worthAnew 47 = .ok (.goto (-15), 3) := by decide +kernel
theorem dX4_worthAnew_50 : decode cX4_worthAnew 50 = .ok (.lconst 0, 1) := by decide +kernel
theorem dX4_worthAnew_51 : decode cX4_worthAnew 51 = .ok (.lstore 5, 2) := by decide +kernel
theorem dX4_worthAnew_53 : decode cX4_worthAnew 53 = .ok (.iconst 0, 1) := by decide +kernel
theorem dX4_worthAnew_54 : decode cX4_worthAnew 54 = .ok (.istore 7, 2) := by decide +kernel
theorem dX4_worthAnew_56 : decode cX4_worthAnew 56 = .ok (.iload 7, 2) := by decide +kernel
theorem dX4_worthAnew_58 : decode cX4_worthAnew 58 = .ok (.iload 4, 2) := by decide +kernel
theorem dX4_worthAnew_60 : decode cX4_worthAnew 60 = .ok (.if_icmp .ge 24, 3) := by decide +kernel
theorem dX4_worthAnew_63 : decode cX4_worthAnew 63 = .ok (.lload 5, 2) := by decide +kernel
theorem dX4_worthAnew_65 : decode cX4_worthAnew 65 = .ok (.aload_n 0, 1) := by decide +kernel
theorem dX4_worthAnew_66 : decode cX4_worthAnew 66 = .ok (.aload_n 3, 1) := by decide +kernel
theorem dX4_worthAnew_67 : decode cX4_worthAnew 67 = .ok (.iload 7, 2) := by decide +kernel
theorem dX4_worthAnew_69 : decode cX4_worthAnew 69 = .ok (.iload_n 2, 1) := by decide +kernel
theorem dX4_worthAnew_70 : decode cX4_worthAnew 70 = .ok (.invokevirtual 230, 3) := by decide +kernel
theorem dX4_worthAnew_73 : decode cX4_worthAnew 73 = .ok (.invokestatic 234, 3) := by decide +kernel
theorem dX4_worthAnew_76 : decode cX4_worthAnew 76 = .ok (.lstore 5, 2) := by decide +kernel
theorem dX4_worthAnew_78 : decode cX4_worthAnew 78 = .ok (.iinc 7 1, 3) := by decide +kernel
theorem dX4_worthAnew_81 : decode cX4_worthAnew 81 = .ok (.goto (-25), 3) := by decide +kernel
theorem dX4_worthAnew_84 : decode cX4_worthAnew 84 = .ok (.lload 5, 2) := by decide +kernel
theorem dX4_worthAnew_86 : decode cX4_worthAnew 86 = .ok (.lreturn, 1) := by decide +kernel
theorem dX4_of_0 : decode cX4_of 0 = .ok (.iload_n 1, 1) := by decide +kernel
theorem dX4_of_1 : decode cX4_of 1 = .ok (.tableswitch 101 0 7 #[47, 53, 58, 63, 68, 74, 80, 91], 47) := by decide +kernel
theorem dX4_of_48 : decode cX4_of 48 = .ok (.aload_n 0, 1) := by decide +kernel
theorem dX4_of_49 : decode cX4_of 49 = .ok (.getfield 29, 3) := by decide +kernel
theorem dX4_of_52 : decode cX4_of 52 = .ok (.i2l, 1) := by decide +kernel
theorem dX4_of_53 : decode cX4_of 53 = .ok (.lreturn, 1) := by decide +kernel
theorem dX4_of_54 : decode cX4_of 54 = .ok (.aload_n 0, 1) := by decide +kernel
theorem dX4_of_55 : decode cX4_of 55 = .ok (.getfield 42, 3) := by decide +kernel
theorem dX4_of_58 : decode cX4_of 58 = .ok (.lreturn, 1) := by decide +kernel
theorem dX4_of_59 : decode cX4_of 59 = .ok (.aload_n 0, 1) := by decide +kernel
theorem dX4_of_60 : decode cX4_of 60 = .ok (.getfield 46, 3) := by decide +kernel
theorem dX4_of_63 : decode cX4_of 63 = .ok (.lreturn, 1) := by decide +kernel
theorem dX4_of_64 : decode cX4_of 64 = .ok (.aload_n 0, 1) := by decide +kernel
theorem dX4_of_65 : decode cX4_of 65 = .ok (.getfield 49, 3) := by decide +kernel
theorem dX4_of_68 : decode cX4_of 68 = .ok (.lreturn, 1) := by decide +kernel
theorem dX4_of_69 : decode cX4_of 69 = .ok (.aload_n 0, 1) := by decide +kernel
theorem dX4_of_70 : decode cX4_of 70 = .ok (.invokevirtual 240, 3) := by decide +kernel
theorem dX4_of_73 : decode cX4_of 73 = .ok (.i2l, 1) := by decide +kernel
theorem dX4_of_74 : decode cX4_of 74 = .ok (.lreturn, 1) := by decide +kernel
theorem dX4_of_75 : decode cX4_of 75 = .ok (.aload_n 0, 1) := by decide +kernel
theorem dX4_of_76 : decode cX4_of 76 = .ok (.invokevirtual 243, 3) := by decide +kernel
theorem dX4_of_79 : decode cX4_of 79 = .ok (.i2l, 1) := by decide +kernel
theorem dX4_of_80 : decode cX4_of 80 = .ok (.lreturn, 1) := by decide +kernel
theorem dX4_of_81 : decode cX4_of 81 = .ok (.aload_n 0, 1) := by decide +kernel
theorem dX4_of_82 : decode cX4_of 82 = .ok (.invokevirtual 240, 3) := by decide +kernel
theorem dX4_of_85 : decode cX4_of 85 = .ok (.aload_n 0, 1) := by decide +kernel
theorem dX4_of_86 : decode cX4_of 86 = .ok (.invokevirtual 243, 3) := by decide +kernel
theorem dX4_of_89 : decode cX4_of 89 = .ok (.isub, 1) := by decide +kernel
theorem dX4_of_90 : decode cX4_of 90 = .ok (.i2l, 1) := by decide +kernel
theorem dX4_of_91 : decode cX4_of 91 = .ok (.lreturn, 1) := by decide +kernel
theorem dX4_of_92 : decode cX4_of 92 = .ok (.iconst 0, 1) := by decide +kernel
theorem dX4_of_93 : decode cX4_of 93 = .ok (.aload_n 0, 1) := by decide +kernel
theorem dX4_of_94 : decode cX4_of 94 = .ok (.invokevirtual 246, 3) := by decide +kernel
theorem dX4_of_97 : decode cX4_of 97 = .ok (.invokestatic 249, 3) := by decide +kernel
theorem dX4_of_100 : decode cX4_of 100 = .ok (.i2l, 1) := by decide +kernel
theorem dX4_of_101 : decode cX4_of 101 = .ok (.lreturn, 1) := by decide +kernel
theorem dX4_of_102 : decode cX4_of 102 = .ok (.new 67, 3) := by decide +kernel
theorem dX4_of_105 : decode cX4_of 105 = .ok (.dup, 1) := by decide +kernel
theorem dX4_of_106 : decode cX4_of 106 = .ok (.ldc 199, 2) := by decide +kernel
theorem dX4_of_108 : decode cX4_of 108 = .ok (.invokespecial 71, 3) := by decide +kernel
theorem dX4_of_111 : decode cX4_of 111 = .ok (.athrow, 1) := by decide +kernel
theorem dX4_isWithin_0 : decode cX4_isWithin 0 = .ok (.iload_n 0, 1) := by decide +kernel
theorem dX4_isWithin_1 : decode cX4_isWithin 1 = .ok (.iload_n 1, 1) := by decide +kernel
theorem dX4_isWithin_2 : decode cX4_isWithin 2 = .ok (.if_icmp .lt 12, 3) := by decide +kernel
theorem dX4_isWithin_5 : decode cX4_isWithin 5 = .ok (.iload_n 0, 1) := by decide +kernel
theorem dX4_isWithin_6 : decode cX4_isWithin 6 = .ok (.iload_n 2, 1) := by decide +kernel
theorem dX4_isWithin_7 : decode cX4_isWithin 7 = .ok (.if_icmp .gt 7, 3) := by decide +kernel
theorem dX4_isWithin_10 : decode cX4_isWithin 10 = .ok (.iconst 1, 1) := by decide +kernel
theorem dX4_isWithin_11 : decode cX4_isWithin 11 = .ok (.goto 4, 3) := by decide +kernel
theorem dX4_isWithin_14 : decode cX4_isWithin 14 = .ok (.iconst 0, 1) := by decide +kernel
theorem dX4_isWithin_15 : decode cX4_isWithin 15 = .ok (.ireturn, 1) := by decide +kernel
theorem dX4_storeNumbered_0 : decode cX4_storeNumbered 0 = .ok (.iload_n 1, 1) := by decide +kernel
theorem dX4_storeNumbered_1 : decode cX4_storeNumbered 1 = .ok (.ifCond .lt 14, 3) := by decide +kernel
theorem dX4_storeNumbered_4 : decode cX4_storeNumbered 4 = .ok (.iload_n 1, 1) := by decide +kernel
theorem dX4_storeNumbered_5 : decode cX4_storeNumbered 5 = .ok (.aload_n 0, 1) := by decide +kernel
theorem dX4_storeNumbered_6 : decode cX4_storeNumbered 6 = .ok (.getfield 10, 3) := by decide +kernel
theorem dX4_storeNumbered_9 : decode cX4_storeNumbered 9 = .ok (.invokevirtual 74, 3) := by decide +kernel
theorem dX4_storeNumbered_12 : decode cX4_storeNumbered 12 = .ok (.if_icmp .lt 13, 3) := by decide +kernel
theorem dX4_storeNumbered_15 : decode cX4_storeNumbered 15 = .ok (.new 251, 3) := by decide +kernel
theorem dX4_storeNumbered_18 : decode cX4_storeNumbered 18 = .ok (.dup, 1) := by decide +kernel
theorem dX4_storeNumbered_19 : decode cX4_storeNumbered 19 = .ok (.ldc 253, 2) := by decide +kernel
theorem dX4_storeNumbered_21 : decode cX4_storeNumbered 21 = .ok (.invokespecial 255, 3) := by decide +kernel
theorem dX4_storeNumbered_24 : decode cX4_storeNumbered 24 = .ok (.athrow, 1) := by decide +kernel
theorem dX4_storeNumbered_25 : decode cX4_storeNumbered 25 = .ok (.aload_n 0, 1) := by decide +kernel
theorem dX4_storeNumbered_26 : decode cX4_storeNumbered 26 = .ok (.getfield 10, 3) := by decide +kernel
theorem dX4_storeNumbered_29 : decode cX4_storeNumbered 29 = .ok (.iload_n 1, 1) := by decide +kernel
theorem dX4_storeNumbered_30 : decode cX4_storeNumbered 30 = .ok (.invokevirtual 256, 3) := by decide +kernel
theorem dX4_storeNumbered_33 : decode cX4_storeNumbered 33 = .ok (.checkcast 59, 3) := by decide +kernel
theorem dX4_storeNumbered_36 : decode cX4_storeNumbered 36 = .ok (.areturn, 1) := by decide +kernel
theorem dX4_customerNumbered_0 : decode cX4_customerNumbered 0 = .ok (.iload_n 1, 1) := by decide +kernel
theorem dX4_customerNumbered_1 : decode cX4_customerNumbered 1 = .ok (.ifCond .lt 14, 3) := by decide +kernel
theorem dX4_customerNumbered_4 : decode cX4_customerNumbered 4 = .ok (.iload_n 1, 1) := by decide +kernel
theorem dX4_customerNumbered_5 : decode cX4_customerNumbered 5 = .ok (.aload_n 0, 1) := by decide +kernel
theorem dX4_customerNumbered_6 : decode cX4_customerNumbered 6 = .ok (.getfield 16, 3) := by decide +kernel
theorem dX4_customerNumbered_9 : decode cX4_customerNumbered 9 = .ok (.invokevirtual 74, 3) := by decide +kernel
theorem dX4_customerNumbered_12 : decode cX4_customerNumbered 12 = .ok (.if_icmp .lt 14, 3) := by decide +kernel
theorem dX4_customerNumbered_15 : decode cX4_customerNumbered 15 = .ok (.new 251, 3) := by decide +kernel
theorem dX4_customerNumbered_18 : decode cX4_customerNumbered 18 = .ok (.dup, 1) := by decide +kernel
theorem dX4_customerNumbered_19 : decode cX4_customerNumbered 19 = .ok (.ldc_w 260, 3) := by decide +kernel
theorem dX4_customerNumbered_22 : decode cX4_customerNumbered 22 = .ok (.invokespecial 255, 3) := by decide +kernel
theorem dX4_customerNumbered_25 : decode cX4_customerNumbered 25 = .ok (.athrow, 1) := by decide +kernel
theorem dX4_customerNumbered_26 : decode cX4_customerNumbered 26 = .ok (.aload_n 0, 1) := by decide +kernel
theorem dX4_customerNumbered_27 : decode cX4_customerNumbered 27 = .ok (.getfield 16, 3) := by decide +kernel
theorem dX4_customerNumbered_30 : decode cX4_customerNumbered 30 = .ok (.iload_n 1, 1) := by decide +kernel
theorem dX4_customerNumbered_31 : decode cX4_customerNumbered 31 = .ok (.invokevirtual 256, 3) := by decide +kernel
theorem dX4_customerNumbered_34 : decode cX4_customerNumbered 34 = .ok (.checkcast 133, 3) := by decide +kernel
theorem dX4_customerNumbered_37 : decode cX4_customerNumbered 37 = .ok (.areturn, 1) := by decide +kernel
theorem dX4_gasInAllStores_0 : decode cX4_gasInAllStores 0 = .ok (.iconst 0, 1) := by decide +kernel
theorem dX4_gasInAllStores_1 : decode cX4_gasInAllStores 1 = .ok (.istore_n 1, 1) := by decide +kernel
theorem dX4_gasInAllStores_2 : decode cX4_gasInAllStores 2 = .ok (.iconst 0, 1) := by decide +kernel
theorem dX4_gasInAllStores_3 : decode cX4_gasInAllStores 3 = .ok (.istore_n 2, 1) := by decide +kernel
theorem dX4_gasInAllStores_4 : decode cX4_gasInAllStores 4 = .ok (.iload_n 2, 1) := by decide +kernel
theorem dX4_gasInAllStores_5 : decode cX4_gasInAllStores 5 = .ok (.aload_n 0, 1) := by decide +kernel
theorem dX4_gasInAllStores_6 : decode cX4_gasInAllStores 6 = .ok (.getfield 10, 3) := by decide +kernel
theorem dX4_gasInAllStores_9 : decode cX4_gasInAllStores 9 = .ok (.invokevirtual 74, 3) := by decide +kernel
theorem dX4_gasInAllStores_12 : decode cX4_gasInAllStores 12 = .ok (.if_icmp .ge 26, 3) := by decide +kernel
theorem dX4_gasInAllStores_15 : decode cX4_gasInAllStores 15 = .ok (.iload_n 1, 1) := by decide +kernel
theorem dX4_gasInAllStores_16 : decode cX4_gasInAllStores 16 = .ok (.aload_n 0, 1) := by decide +kernel
theorem dX4_gasInAllStores_17 : decode cX4_gasInAllStores 17 = .ok (.getfield 10, 3) := by decide +kernel
theorem dX4_gasInAllStores_20 : decode cX4_gasInAllStores 20 = .ok (.iload_n 2, 1) := by decide +kernel
theorem dX4_gasInAllStores_21 : decode cX4_gasInAllStores 21 = .ok (.invokevirtual 256, 3) := by decide +kernel
theorem dX4_gasInAllStores_24 : decode cX4_gasInAllStores 24 = .ok (.checkcast 59, 3) := by decide +kernel
theorem dX4_gasInAllStores_27 : decode cX4_gasInAllStores 27 = .ok (.getfield 119, 3) := by decide +kernel
theorem dX4_gasInAllStores_30 : decode cX4_gasInAllStores 30 = .ok (.iadd, 1) := by decide +kernel
theorem dX4_gasInAllStores_31 : decode cX4_gasInAllStores 31 = .ok (.istore_n 1, 1) := by decide +kernel
theorem dX4_gasInAllStores_32 : decode cX4_gasInAllStores 32 = .ok (.iinc 2 1, 3) := by decide +kernel
theorem dX4_gasInAllStores_35 : decode cX4_gasInAllStores 35 = .ok (.goto (-31), 3) := by decide +kernel
theorem dX4_gasInAllStores_38 : decode cX4_gasInAllStores 38 = .ok (.iload_n 1, 1) := by decide +kernel
theorem dX4_gasInAllStores_39 : decode cX4_gasInAllStores 39 = .ok (.ireturn, 1) := by decide +kernel
theorem dX4_allInventories_0 : decode cX4_allInventories 0 = .ok (.iconst 0, 1) := by decide +kernel
theorem dX4_allInventories_1 : decode cX4_allInventories 1 = .ok (.istore_n 1, 1) := by decide +kernel
theorem dX4_allInventories_2 : decode cX4_allInventories 2 = .ok (.iconst 0, 1) := by decide +kernel
theorem dX4_allInventories_3 : decode cX4_allInventories 3 = .ok (.istore_n 2, 1) := by decide +kernel
theorem dX4_allInventories_4 : decode cX4_allInventories 4 = .ok (.iload_n 2, 1) := by decide +kernel
theorem dX4_allInventories_5 : decode cX4_allInventories 5 = .ok (.aload_n 0, 1) := by decide +kernel
theorem dX4_allInventories_6 : decode cX4_allInventories 6 = .ok (.getfield 16, 3) := by decide +kernel
theorem dX4_allInventories_9 : decode cX4_allInventories 9 = .ok (.invokevirtual 74, 3) := by decide +kernel
theorem dX4_allInventories_12 : decode cX4_allInventories 12 = .ok (.if_icmp .ge 26, 3) := by decide +kernel
theorem dX4_allInventories_15 : decode cX4_allInventories 15 = .ok (.iload_n 1, 1) := by decide +kernel
theorem dX4_allInventories_16 : decode cX4_allInventories 16 = .ok (.aload_n 0, 1) := by decide +kernel
theorem dX4_allInventories_17 : decode cX4_allInventories 17 = .ok (.getfield 16, 3) := by decide +kernel
theorem dX4_allInventories_20 : decode cX4_allInventories 20 = .ok (.iload_n 2, 1) := by decide +kernel
theorem dX4_allInventories_21 : decode cX4_allInventories 21 = .ok (.invokevirtual 256, 3) := by decide +kernel
theorem dX4_allInventories_24 : decode cX4_allInventories 24 = .ok (.checkcast 133, 3) := by decide +kernel
theorem dX4_allInventories_27 : decode cX4_allInventories 27 = .ok (.getfield 153, 3) := by decide +kernel
theorem dX4_allInventories_30 : decode cX4_allInventories 30 = .ok (.iadd, 1) := by decide +kernel
theorem dX4_allInventories_31 : decode cX4_allInventories 31 = .ok (.istore_n 1, 1) := by decide +kernel
theorem dX4_allInventories_32 : decode cX4_allInventories 32 = .ok (.iinc 2 1, 3) := by decide +kernel
theorem dX4_allInventories_35 : decode cX4_allInventories 35 = .ok (.goto (-31), 3) := by decide +kernel
theorem dX4_allInventories_38 : decode cX4_allInventories 38 = .ok (.iload_n 1, 1) := by decide +kernel
theorem dX4_allInventories_39 : decode cX4_allInventories 39 = .ok (.ireturn, 1) := by decide +kernel
theorem dX4_leastByLaw_0 : decode cX4_leastByLaw 0 = .ok (.aload_n 0, 1) := by decide +kernel
theorem dX4_leastByLaw_1 : decode cX4_leastByLaw 1 = .ok (.getfield 19, 3) := by decide +kernel
theorem dX4_leastByLaw_4 : decode cX4_leastByLaw 4 = .ok (.invokevirtual 74, 3) := by decide +kernel
theorem dX4_leastByLaw_7 : decode cX4_leastByLaw 7 = .ok (.iconst 1, 1) := by decide +kernel
theorem dX4_leastByLaw_8 : decode cX4_leastByLaw 8 = .ok (.isub, 1) := by decide +kernel
theorem dX4_leastByLaw_9 : decode cX4_leastByLaw 9 = .ok (.istore_n 1, 1) := by decide +kernel
theorem dX4_leastByLaw_10 : decode cX4_leastByLaw 10 = .ok (.iload_n 1, 1) := by decide +kernel
theorem dX4_leastByLaw_11 : decode cX4_leastByLaw 11 = .ok (.ifCond .lt 44, 3) := by decide +kernel
theorem dX4_leastByLaw_14 : decode cX4_leastByLaw 14 = .ok (.aload_n 0, 1) := by decide +kernel
theorem dX4_leastByLaw_15 : decode cX4_leastByLaw 15 = .ok (.getfield 19, 3) := by decide +kernel
theorem dX4_leastByLaw_18 : decode cX4_leastByLaw 18 = .ok (.iload_n 1, 1) := by decide +kernel
theorem dX4_leastByLaw_19 : decode cX4_leastByLaw 19 = .ok (.invokevirtual 256, 3) := by decide +kernel
theorem dX4_leastByLaw_22 : decode cX4_leastByLaw 22 = .ok (.checkcast 164, 3) := by decide +kernel
theorem dX4_leastByLaw_25 : decode cX4_leastByLaw 25 = .ok (.astore_n 2, 1) := by decide +kernel
theorem dX4_leastByLaw_26 : decode cX4_leastByLaw 26 = .ok (.aload_n 0, 1) := by decide +kernel
theorem dX4_leastByLaw_27 : decode cX4_leastByLaw 27 = .ok (.getfield 29, 3) := by decide +kernel
theorem dX4_leastByLaw_30 : decode cX4_leastByLaw 30 = .ok (.aload_n 2, 1) := by decide +kernel
theorem dX4_leastByLaw_31 : decode cX4_leastByLaw 31 = .ok (.getfield 262, 3) := by decide +kernel
theorem dX4_leastByLaw_34 : decode cX4_leastByLaw 34 = .ok (.aload_n 2, 1) := by decide +kernel
theorem dX4_leastByLaw_35 : decode cX4_leastByLaw 35 = .ok (.getfield 265, 3) := by decide +kernel
theorem dX4_leastByLaw_38 : decode cX4_leastByLaw 38 = .ok (.invokestatic 52, 3) := by decide +kernel
theorem dX4_leastByLaw_41 : decode cX4_leastByLaw 41 = .ok (.ifCond .eq 8, 3) := by decide +kernel
theorem dX4_leastByLaw_44 : decode cX4_leastByLaw 44 = .ok (.aload_n 2, 1) := by decide +kernel
theorem dX4_leastByLaw_45 : decode cX4_leastByLaw 45 = .ok (.getfield 268, 3) := by decide +kernel
theorem dX4_leastByLaw_48 : decode cX4_leastByLaw 48 = .ok (.ireturn, 1) := by decide +kernel
theorem dX4_leastByLaw_49 : decode cX4_leastByLaw 49 = .ok (.iinc 1 (-1), 3) := by decide +kernel
theorem dX4_leastByLaw_52 : decode cX4_leastByLaw 52 = .ok (.goto (-42), 3) := by decide +kernel
theorem dX4_leastByLaw_55 : decode cX4_leastByLaw 55 = .ok (.iconst (-1), 1) := by decide +kernel
theorem dX4_leastByLaw_56 : decode cX4_leastByLaw 56 = .ok (.ireturn, 1) := by decide +kernel
theorem dX4_planTheHour_0 : decode cX4_planTheHour 0 = .ok (.iconst 0, 1) := by decide +kernel
theorem dX4_planTheHour_1 : decode cX4_planTheHour 1 = .ok (.istore_n 1, 1) := by decide +kernel
theorem dX4_planTheHour_2 : decode cX4_planTheHour 2 = .ok (.iload_n 1, 1) := by decide +kernel
theorem dX4_planTheHour_3 : decode cX4_planTheHour 3 = .ok (.aload_n 0, 1) := by decide +kernel
theorem dX4_planTheHour_4 : decode cX4_planTheHour 4 = .ok (.getfield 16, 3) := by decide +kernel
theorem dX4_planTheHour_7 : decode cX4_planTheHour 7 = .ok (.invokevirtual 74, 3) := by decide +kernel
theorem dX4_planTheHour_10 : decode cX4_planTheHour 10 = .ok (.if_icmp .ge 27, 3) := by decide +kernel
theorem dX4_planTheHour_13 : decode cX4_planTheHour 13 = .ok (.aload_n 0, 1) := by decide +kernel
theorem dX4_planTheHour_14 : decode cX4_planTheHour 14 = .ok (.getfield 16, 3) := by decide +kernel
theorem dX4_planTheHour_17 : decode cX4_planTheHour 17 = .ok (.iload_n 1, 1) := by decide +kernel
theorem dX4_planTheHour_18 : decode cX4_planTheHour 18 = .ok (.invokevirtual 256, 3) := by decide +kernel
theorem dX4_planTheHour_21 : decode cX4_planTheHour 21 = .ok (.checkcast 133, 3) := by decide +kernel
theorem dX4_planTheHour_24 : decode cX4_planTheHour 24 = .ok (.aload_n 0, 1) := by decide +kernel
theorem dX4_planTheHour_25 : decode cX4_planTheHour 25 = .ok (.getfield 29, 3) := by decide +kernel
theorem dX4_planTheHour_28 : decode cX4_planTheHour 28 = .ok (.invokevirtual 271, 3) := by decide +kernel
theorem dX4_planTheHour_31 : decode cX4_planTheHour 31 = .ok (.iinc 1 1, 3) := by decide +kernel
theorem dX4_planTheHour_34 : decode cX4_planTheHour 34 = .ok (.goto (-32), 3) := by decide +kernel
theorem dX4_planTheHour_37 : decode cX4_planTheHour 37 = .ok (.aload_n 0, 1) := by decide +kernel
theorem dX4_planTheHour_38 : decode cX4_planTheHour 38 = .ok (.iconst 0, 1) := by decide +kernel
theorem dX4_planTheHour_39 : decode cX4_planTheHour 39 = .ok (.aload_n 0, 1) := by decide +kernel
theorem dX4_planTheHour_40 : decode cX4_planTheHour 40 = .ok (.invokevirtual 275, 3) := by decide +kernel
theorem dX4_planTheHour_43 : decode cX4_planTheHour 43 = .ok (.iconst 2, 1) := by decide +kernel
theorem dX4_planTheHour_44 : decode cX4_planTheHour 44 = .ok (.invokevirtual 278, 3) := by decide +kernel
theorem dX4_planTheHour_47 : decode cX4_planTheHour 47 = .ok (.aload_n 0, 1) := by decide +kernel
theorem dX4_planTheHour_48 : decode cX4_planTheHour 48 = .ok (.invokevirtual 282, 3) := by decide +kernel
theorem dX4_planTheHour_51 : decode cX4_planTheHour 51 = .ok (.istore_n 1, 1) := by decide +kernel
theorem dX4_planTheHour_52 : decode cX4_planTheHour 52 = .ok (.iload_n 1, 1) := by decide +kernel
theorem dX4_planTheHour_53 : decode cX4_planTheHour 53 = .ok (.ifCond .le 7, 3) := by decide +kernel
theorem dX4_planTheHour_56 : decode cX4_planTheHour 56 = .ok (.iconst 1, 1) := by decide +kernel
theorem dX4_planTheHour_57 : decode cX4_planTheHour 57 = .ok (.goto 4, 3) := by decide +kernel
theorem dX4_planTheHour_60 : decode cX4_planTheHour 60 = .ok (.iconst 0, 1) := by decide +kernel
theorem dX4_planTheHour_61 : decode cX4_planTheHour 61 = .ok (.istore_n 2, 1) := by decide +kernel
theorem dX4_planTheHour_62 : decode cX4_planTheHour 62 = .ok (.aload_n 0, 1) := by decide +kernel
theorem dX4_planTheHour_63 : decode cX4_planTheHour 63 = .ok (.iload_n 2, 1) := by decide +kernel
theorem dX4_planTheHour_64 : decode cX4_planTheHour 64 = .ok (.iload_n 1, 1) := by decide +kernel
theorem dX4_planTheHour_65 : decode cX4_planTheHour 65 = .ok (.invokestatic 285, 3) := by decide +kernel
theorem dX4_planTheHour_68 : decode cX4_planTheHour 68 = .ok (.aload_n 0, 1) := by decide +kernel
theorem dX4_planTheHour_69 : decode cX4_planTheHour 69 = .ok (.iload_n 2, 1) := by decide +kernel
theorem dX4_planTheHour_70 : decode cX4_planTheHour 70 = .ok (.invokevirtual 288, 3) := by decide +kernel
theorem dX4_planTheHour_73 : decode cX4_planTheHour 73 = .ok (.isub, 1) := by decide +kernel
theorem dX4_planTheHour_74 : decode cX4_planTheHour 74 = .ok (.iconst 3, 1) := by decide +kernel
theorem dX4_planTheHour_75 : decode cX4_planTheHour 75 = .ok (.invokevirtual 278, 3) := by decide +kernel
theorem dX4_planTheHour_78 : decode cX4_planTheHour 78 = .ok (.return_, 1) := by decide +kernel
theorem dX4_plannedAboveTheLaw_0 : decode cX4_plannedAboveTheLaw 0 = .ok (.aload_n 0, 1) := by decide +kernel
theorem dX4_plannedAboveTheLaw_1 : decode cX4_plannedAboveTheLaw 1 = .ok (.invokevirtual 246, 3) := by decide +kernel
theorem dX4_plannedAboveTheLaw_4 : decode cX4_plannedAboveTheLaw 4 = .ok (.istore_n 1, 1) := by decide +kernel
theorem dX4_plannedAboveTheLaw_5 : decode cX4_plannedAboveTheLaw 5 = .ok (.iload_n 1, 1) := by decide +kernel
theorem dX4_plannedAboveTheLaw_6 : decode cX4_plannedAboveTheLaw 6 = .ok (.iconst (-1), 1) := by decide +kernel
theorem dX4_plannedAboveTheLaw_7 : decode cX4_plannedAboveTheLaw 7 = .ok (.if_icmp .ne 5, 3) := by decide +kernel
theorem dX4_plannedAboveTheLaw_10 : decode cX4_plannedAboveTheLaw 10 = .ok (.iconst 0, 1) := by decide +kernel
theorem dX4_plannedAboveTheLaw_11 : decode cX4_plannedAboveTheLaw 11 = .ok (.ireturn, 1) := by decide +kernel
theorem dX4_plannedAboveTheLaw_12 : decode cX4_plannedAboveTheLaw 12 = .ok (.iconst 0, 1) := by decide +kernel
theorem dX4_plannedAboveTheLaw_13 : decode cX4_plannedAboveTheLaw 13 = .ok (.istore_n 2, 1) := by decide +kernel
theorem dX4_plannedAboveTheLaw_14 : decode cX4_plannedAboveTheLaw 14 = .ok (.iconst 0, 1) := by decide +kernel
theorem dX4_plannedAboveTheLaw_15 : decode cX4_plannedAboveTheLaw 15 = .ok (.istore_n 3, 1) := by decide +kernel
theorem dX4_plannedAboveTheLaw_16 : decode cX4_plannedAboveTheLaw 16 = .ok (.iload_n 3, 1) := by decide +kernel
theorem dX4_plannedAboveTheLaw_17 : decode cX4_plannedAboveTheLaw 17 = .ok (.aload_n 0, 1) := by decide +kernel
theorem dX4_plannedAboveTheLaw_18 : decode cX4_plannedAboveTheLaw 18 = .ok (.getfield 16, 3) := by decide +kernel
theorem dX4_plannedAboveTheLaw_21 : decode cX4_plannedAboveTheLaw 21 = .ok (.invokevirtual 74, 3) := by decide +kernel
theorem dX4_plannedAboveTheLaw_24 : decode cX4_plannedAboveTheLaw 24 = .ok (.if_icmp .ge 27, 3) := by decide +kernel
theorem dX4_plannedAboveTheLaw_27 : decode cX4_plannedAboveTheLaw 27 = .ok (.iload_n 2, 1) := by decide +kernel
theorem dX4_plannedAboveTheLaw_28 : decode cX4_plannedAboveTheLaw 28 = .ok (.aload_n 0, 1) := by decide +kernel
theorem dX4_plannedAboveTheLaw_29 : decode cX4_plannedAboveTheLaw 29 = .ok (.getfield 16, 3) := by decide +kernel
theorem dX4_plannedAboveTheLaw_32 : decode cX4_plannedAboveTheLaw 32 = .ok (.iload_n 3, 1) := by decide +kernel
theorem dX4_plannedAboveTheLaw_33 : decode cX4_plannedAboveTheLaw 33 = .ok (.invokevirtual 256, 3) := by decide +kernel
theorem dX4_plannedAboveTheLaw_36 : decode cX4_plannedAboveTheLaw 36 = .ok (.checkcast 133, 3) := by decide +kernel
theorem dX4_plannedAboveTheLaw_39 : decode cX4_plannedAboveTheLaw 39 = .ok (.iconst 0, 1) := by decide +kernel
theorem dX4_plannedAboveTheLaw_40 : decode cX4_plannedAboveTheLaw 40 = .ok (.invokevirtual 292, 3) := by decide +kernel
theorem dX4_plannedAboveTheLaw_43 : decode cX4_plannedAboveTheLaw 43 = .ok (.iadd, 1) := by decide +kernel
theorem dX4_plannedAboveTheLaw_44 : decode cX4_plannedAboveTheLaw 44 = .ok (.istore_n 2, 1) := by decide +kernel
theorem dX4_plannedAboveTheLaw_45 : decode cX4_plannedAboveTheLaw 45 = .ok (.iinc 3 1, 3) := by decide +kernel
theorem dX4_plannedAboveTheLaw_48 : decode cX4_plannedAboveTheLaw 48 = .ok (.goto (-32), 3) := by decide +kernel
theorem dX4_plannedAboveTheLaw_51 : decode cX4_plannedAboveTheLaw 51 = .ok (.iload_n 2, 1) := by decide +kernel
theorem dX4_plannedAboveTheLaw_52 : decode cX4_plannedAboveTheLaw 52 = .ok (.iconst 0, 1) := by decide +kernel
theorem dX4_plannedAboveTheLaw_53 : decode cX4_plannedAboveTheLaw 53 = .ok (.aload_n 0, 1) := by decide +kernel
theorem dX4_plannedAboveTheLaw_54 : decode cX4_plannedAboveTheLaw 54 = .ok (.invokevirtual 243, 3) := by decide +kernel
theorem dX4_plannedAboveTheLaw_57 : decode cX4_plannedAboveTheLaw 57 = .ok (.iload_n 1, 1) := by decide +kernel
theorem dX4_plannedAboveTheLaw_58 : decode cX4_plannedAboveTheLaw 58 = .ok (.isub, 1) := by decide +kernel
theorem dX4_plannedAboveTheLaw_59 : decode cX4_plannedAboveTheLaw 59 = .ok (.invokestatic 249, 3) := by decide +kernel
theorem dX4_plannedAboveTheLaw_62 : decode cX4_plannedAboveTheLaw 62 = .ok (.isub, 1) := by decide +kernel
theorem dX4_plannedAboveTheLaw_63 : decode cX4_plannedAboveTheLaw 63 = .ok (.ireturn, 1) := by decide +kernel
theorem dX4_plannedNet_0 : decode cX4_plannedNet 0 = .ok (.iconst 0, 1) := by decide +kernel
theorem dX4_plannedNet_1 : decode cX4_plannedNet 1 = .ok (.istore_n 1, 1) := by decide +kernel
theorem dX4_plannedNet_2 : decode cX4_plannedNet 2 = .ok (.iconst 0, 1) := by decide +kernel
theorem dX4_plannedNet_3 : decode cX4_plannedNet 3 = .ok (.istore_n 2, 1) := by decide +kernel
theorem dX4_plannedNet_4 : decode cX4_plannedNet 4 = .ok (.iload_n 2, 1) := by decide +kernel
theorem dX4_plannedNet_5 : decode cX4_plannedNet 5 = .ok (.aload_n 0, 1) := by decide +kernel
theorem dX4_plannedNet_6 : decode cX4_plannedNet 6 = .ok (.getfield 16, 3) := by decide +kernel
theorem dX4_plannedNet_9 : decode cX4_plannedNet 9 = .ok (.invokevirtual 74, 3) := by decide +kernel
theorem dX4_plannedNet_12 : decode cX4_plannedNet 12 = .ok (.if_icmp .ge 26, 3) := by decide +kernel
theorem dX4_plannedNet_15 : decode cX4_plannedNet 15 = .ok (.iload_n 1, 1) := by decide +kernel
theorem dX4_plannedNet_16 : decode cX4_plannedNet 16 = .ok (.aload_n 0, 1) := by decide +kernel
theorem dX4_plannedNet_17 : decode cX4_plannedNet 17 = .ok (.getfield 16, 3) := by decide +kernel
theorem dX4_plannedNet_20 : decode cX4_plannedNet 20 = .ok (.iload_n 2, 1) := by decide +kernel
theorem dX4_plannedNet_21 : decode cX4_plannedNet 21 = .ok (.invokevirtual 256, 3) := by decide +kernel
theorem dX4_plannedNet_24 : decode cX4_plannedNet 24 = .ok (.checkcast 133, 3) := by decide +kernel
theorem dX4_plannedNet_27 : decode cX4_plannedNet 27 = .ok (.getfield 220, 3) := by decide +kernel
theorem dX4_plannedNet_30 : decode cX4_plannedNet 30 = .ok (.iadd, 1) := by decide +kernel
theorem dX4_plannedNet_31 : decode cX4_plannedNet 31 = .ok (.istore_n 1, 1) := by decide +kernel
theorem dX4_plannedNet_32 : decode cX4_plannedNet 32 = .ok (.iinc 2 1, 3) := by decide +kernel
theorem dX4_plannedNet_35 : decode cX4_plannedNet 35 = .ok (.goto (-31), 3) := by decide +kernel
theorem dX4_plannedNet_38 : decode cX4_plannedNet 38 = .ok (.iload_n 1, 1) := by decide +kernel
theorem dX4_plannedNet_39 : decode cX4_plannedNet 39 = .ok (.ireturn, 1) := by decide +kernel
theorem dX4_capacityOfPlant_0 : decode cX4_capacityOfPlant 0 = .ok (.iload_n 1, 1) := by decide +kernel
theorem dX4_capacityOfPlant_1 : decode cX4_capacityOfPlant 1 = .ok (.ifCond .eq 10, 3) := by decide +kernel
theorem dX4_capacityOfPlant_4 : decode cX4_capacityOfPlant 4 = .ok (.aload_n 0, 1) := by decide +kernel
theorem dX4_capacityOfPlant_5 : decode cX4_capacityOfPlant 5 = .ok (.getfield 39, 3) := by decide +kernel
theorem dX4_capacityOfPlant_8 : decode cX4_capacityOfPlant 8 = .ok (.goto 7, 3) := by decide +kernel
theorem dX4_capacityOfPlant_11 : decode cX4_capacityOfPlant 11 = .ok (.aload_n 0, 1) := by decide +kernel
theorem dX4_capacityOfPlant_12 : decode cX4_capacityOfPlant 12 = .ok (.getfield 36, 3) := by decide +kernel
theorem dX4_capacityOfPlant_15 : decode cX4_capacityOfPlant 15 = .ok (.istore_n 2, 1) := by decide +kernel
theorem dX4_capacityOfPlant_16 : decode cX4_capacityOfPlant 16 = .ok (.aload_n 0, 1) := by decide +kernel
theorem dX4_capacityOfPlant_17 : decode cX4_capacityOfPlant 17 = .ok (.getfield 29, 3) := by decide +kernel
theorem dX4_capacityOfPlant_20 : decode cX4_capacityOfPlant 20 = .ok (.iload_n 2, 1) := by decide +kernel
theorem dX4_capacityOfPlant_21 : decode cX4_capacityOfPlant 21 = .ok (.isub, 1) := by decide +kernel
theorem dX4_capacityOfPlant_22 : decode cX4_capacityOfPlant 22 = .ok (.iconst 2, 1) := by decide +kernel
theorem dX4_capacityOfPlant_23 : decode cX4_capacityOfPlant 23 = .ok (.if_icmp .gt 5, 3) := by decide +kernel
theorem dX4_capacityOfPlant_26 : decode cX4_capacityOfPlant 26 = .ok (.iconst 0, 1) := by decide +kernel
theorem dX4_capacityOfPlant_27 : decode cX4_capacityOfPlant 27 = .ok (.ireturn, 1) := by decide +kernel
theorem dX4_capacityOfPlant_28 : decode cX4_capacityOfPlant 28 = .ok (.iconst 0, 1) := by decide +kernel
theorem dX4_capacityOfPlant_29 : decode cX4_capacityOfPlant 29 = .ok (.istore_n 3, 1) := by decide +kernel
theorem dX4_capacityOfPlant_30 : decode cX4_capacityOfPlant 30 = .ok (.iconst 0, 1) := by decide +kernel
theorem dX4_capacityOfPlant_31 : decode cX4_capacityOfPlant 31 = .ok (.istore 4, 2) := by decide +kernel
theorem dX4_capacityOfPlant_33 : decode cX4_capacityOfPlant 33 = .ok (.iload 4, 2) := by decide +kernel
theorem dX4_capacityOfPlant_35 : decode cX4_capacityOfPlant 35 = .ok (.aload_n 0, 1) := by decide +kernel
theorem dX4_capacityOfPlant_36 : decode cX4_capacityOfPlant 36 = .ok (.getfield 10, 3) := by decide +kernel
theorem dX4_capacityOfPlant_39 : decode cX4_capacityOfPlant 39 = .ok (.invokevirtual 74, 3) := by decide +kernel
theorem dX4_capacityOfPlant_42 : decode cX4_capacityOfPlant 42 = .ok (.if_icmp .ge 43, 3) := by decide +kernel
theorem dX4_capacityOfPlant_45 : decode cX4_capacityOfPlant 45 = .ok (.aload_n 0, 1) := by decide +kernel
theorem dX4_capacityOfPlant_46 : decode cX4_capacityOfPlant 46 = .ok (.getfield 10, 3) := by decide +kernel
theorem dX4_capacityOfPlant_49 : decode cX4_capacityOfPlant 49 = .ok (.iload 4, 2) := by decide +kernel
theorem dX4_capacityOfPlant_51 : decode cX4_capacityOfPlant 51 = .ok (.invokevirtual 256, 3) := by decide +kernel
theorem dX4_capacityOfPlant_54 : decode cX4_capacityOfPlant 54 = .ok (.checkcast 59, 3) := by decide +kernel
theorem dX4_capacityOfPlant_57 : decode cX4_capacityOfPlant 57 = .ok (.astore 5, 2) := by decide +kernel
theorem dX4_capacityOfPlant_59 : decode cX4_capacityOfPlant 59 = .ok (.iload_n 3, 1) := by decide +kernel
theorem dX4_capacityOfPlant_60 : decode cX4_capacityOfPlant 60 = .ok (.iload_n 1, 1) := by decide +kernel
theorem dX4_capacityOfPlant_61 : decode cX4_capacityOfPlant 61 = .ok (.ifCond .eq 11, 3) := by decide +kernel
theorem dX4_capacityOfPlant_64 : decode cX4_capacityOfPlant 64 = .ok (.aload 5, 2) := by decide +kernel
theorem dX4_capacityOfPlant_66 : decode cX4_capacityOfPlant 66 = .ok (.invokevirtual 181, 3) := by decide +kernel
theorem dX4_capacityOfPlant_69 : decode cX4_capacityOfPlant 69 = .ok (.goto 8, 3) := by decide +kernel
theorem dX4_capacityOfPlant_72 : decode cX4_capacityOfPlant 72 = .ok (.aload 5, 2) := by decide +kernel
theorem dX4_capacityOfPlant_74 : decode cX4_capacityOfPlant 74 = .ok (.invokevirtual 106, 3) := by decide +kernel
theorem dX4_capacityOfPlant_77 : decode cX4_capacityOfPlant 77 = .ok (.iadd, 1) := by decide +kernel
theorem dX4_capacityOfPlant_78 : decode cX4_capacityOfPlant 78 = .ok (.istore_n 3, 1) := by decide +kernel
theorem dX4_capacityOfPlant_79 : decode cX4_capacityOfPlant 79 = .ok (.iinc 4 1, 3) := by decide +kernel
theorem dX4_capacityOfPlant_82 : decode cX4_capacityOfPlant 82 = .ok (.goto (-49), 3) := by decide +kernel
theorem dX4_capacityOfPlant_85 : decode cX4_capacityOfPlant 85 = .ok (.iload_n 3, 1) := by decide +kernel
theorem dX4_capacityOfPlant_86 : decode cX4_capacityOfPlant 86 = .ok (.ireturn, 1) := by decide +kernel
theorem dX4_curtail_0 : decode cX4_curtail 0 = .ok (.iload_n 2, 1) := by decide +kernel
theorem dX4_curtail_1 : decode cX4_curtail 1 = .ok (.istore 4, 2) := by decide +kernel
theorem dX4_curtail_3 : decode cX4_curtail 3 = .ok (.iconst 3, 1) := by decide +kernel
theorem dX4_curtail_4 : decode cX4_curtail 4 = .ok (.istore 5, 2) := by decide +kernel
theorem dX4_curtail_6 : decode cX4_curtail 6 = .ok (.iload 5, 2) := by decide +kernel
theorem dX4_curtail_8 : decode cX4_curtail 8 = .ok (.ifCond .lt 74, 3) := by decide +kernel
theorem dX4_curtail_11 : decode cX4_curtail 11 = .ok (.aload_n 0, 1) := by decide +kernel
theorem dX4_curtail_12 : decode cX4_curtail 12 = .ok (.getfield 16, 3) := by decide +kernel
theorem dX4_curtail_15 : decode cX4_curtail 15 = .ok (.invokevirtual 74, 3) := by decide +kernel
theorem dX4_curtail_18 : decode cX4_curtail 18 = .ok (.iconst 1, 1) := by decide +kernel
theorem dX4_curtail_19 : decode cX4_curtail 19 = .ok (.isub, 1) := by decide +kernel
theorem dX4_curtail_20 : decode cX4_curtail 20 = .ok (.istore 6, 2) := by decide +kernel
theorem dX4_curtail_22 : decode cX4_curtail 22 = .ok (.iload 6, 2) := by decide +kernel
theorem dX4_curtail_24 : decode cX4_curtail 24 = .ok (.ifCond .lt 52, 3) := by decide +kernel
theorem dX4_curtail_27 : decode cX4_curtail 27 = .ok (.iload 4, 2) := by decide +kernel
theorem dX4_curtail_29 : decode cX4_curtail 29 = .ok (.ifCond .le 47, 3) := by decide +kernel
theorem dX4_curtail_32 : decode cX4_curtail 32 = .ok (.aload_n 0, 1) := by decide +kernel
theorem dX4_curtail_33 : decode cX4_curtail 33 = .ok (.getfield 16, 3) := by decide +kernel
theorem dX4_curtail_36 : decode cX4_curtail 36 = .ok (.iload 6, 2) := by decide +kernel
theorem dX4_curtail_38 : decode cX4_curtail 38 = .ok (.invokevirtual 256, 3) := by decide +kernel
theorem dX4_curtail_41 : decode cX4_curtail 41 = .ok (.checkcast 133, 3) := by decide +kernel
theorem dX4_curtail_44 : decode cX4_curtail 44 = .ok (.astore 7, 2) := by decide +kernel
theorem dX4_curtail_46 : decode cX4_curtail 46 = .ok (.aload 7, 2) := by decide +kernel
theorem dX4_curtail_48 : decode cX4_curtail 48 = .ok (.getfield 295, 3) := by decide +kernel
theorem dX4_curtail_51 : decode cX4_curtail 51 = .ok (.iload 5, 2) := by decide +kernel
theorem dX4_curtail_53 : decode cX4_curtail 53 = .ok (.if_icmp .ne 17, 3) := by decide +kernel
theorem dX4_curtail_56 : decode cX4_curtail 56 = .ok (.iload 4, 2) := by decide +kernel
theorem dX4_curtail_58 : decode cX4_curtail 58 = .ok (.aload 7, 2) := by decide +kernel
theorem dX4_curtail_60 : decode cX4_curtail 60 = .ok (.iload_n 1, 1) := by decide +kernel
theorem dX4_curtail_61 : decode cX4_curtail 61 = .ok (.iload 4, 2) := by decide +kernel
theorem dX4_curtail_63 : decode cX4_curtail 63 = .ok (.iload_n 3, 1) := by decide +kernel
theorem dX4_curtail_64 : decode cX4_curtail 64 = .ok (.invokevirtual 298, 3) := by decide +kernel
theorem dX4_curtail_67 : decode cX4_curtail 67 = .ok (.isub, 1) := by decide +kernel
theorem dX4_curtail_68 : decode cX4_curtail 68 = .ok (.istore 4, 2) := by decide +kernel
theorem dX4_curtail_70 : decode cX4_curtail 70 = .ok (.iinc 6 (-1), 3) := by decide +kernel
theorem dX4_curtail_73 : decode cX4_curtail 73 = .ok (.goto (-51), 3) := by decide +kernel
theorem dX4_curtail_76 : decode cX4_curtail 76 = .ok (.iinc 5 (-1), 3) := by decide +kernel
theorem dX4_curtail_79 : decode cX4_curtail 79 = .ok (.goto (-73), 3) := by decide +kernel
theorem dX4_curtail_82 : decode cX4_curtail 82 = .ok (.return_, 1) := by decide +kernel
theorem dX4_goOneHour_0 : decode cX4_goOneHour 0 = .ok (.aload_n 0, 1) := by decide +kernel
theorem dX4_goOneHour_1 : decode cX4_goOneHour 1 = .ok (.invokevirtual 217, 3) := by decide +kernel
theorem dX4_goOneHour_4 : decode cX4_goOneHour 4 = .ok (.aload_n 0, 1) := by decide +kernel
theorem dX4_goOneHour_5 : decode cX4_goOneHour 5 = .ok (.invokevirtual 282, 3) := by decide +kernel
theorem dX4_goOneHour_8 : decode cX4_goOneHour 8 = .ok (.istore_n 1, 1) := by decide +kernel
theorem dX4_goOneHour_9 : decode cX4_goOneHour 9 = .ok (.iload_n 1, 1) := by decide +kernel
theorem dX4_goOneHour_10 : decode cX4_goOneHour 10 = .ok (.ifCond .le 11, 3) := by decide +kernel
theorem dX4_goOneHour_13 : decode cX4_goOneHour 13 = .ok (.aload_n 0, 1) := by decide +kernel
theorem dX4_goOneHour_14 : decode cX4_goOneHour 14 = .ok (.iload_n 1, 1) := by decide +kernel
theorem dX4_goOneHour_15 : decode cX4_goOneHour 15 = .ok (.invokevirtual 302, 3) := by decide +kernel
theorem dX4_goOneHour_18 : decode cX4_goOneHour 18 = .ok (.goto 13, 3) := by decide +kernel
theorem dX4_goOneHour_21 : decode cX4_goOneHour 21 = .ok (.iload_n 1, 1) := by decide +kernel
theorem dX4_goOneHour_22 : decode cX4_goOneHour 22 = .ok (.ifCond .ge 9, 3) := by decide +kernel
theorem dX4_goOneHour_25 : decode cX4_goOneHour 25 = .ok (.aload_n 0, 1) := by decide +kernel
theorem dX4_goOneHour_26 : decode cX4_goOneHour 26 = .ok (.iload_n 1, 1) := by decide +kernel
theorem dX4_goOneHour_27 : decode cX4_goOneHour 27 = .ok (.ineg, 1) := by decide +kernel
theorem dX4_goOneHour_28 : decode cX4_goOneHour 28 = .ok (.invokevirtual 305, 3) := by decide +kernel
theorem dX4_goOneHour_31 : decode cX4_goOneHour 31 = .ok (.iconst 0, 1) := by decide +kernel
theorem dX4_goOneHour_32 : decode cX4_goOneHour 32 = .ok (.istore_n 2, 1) := by decide +kernel
theorem dX4_goOneHour_33 : decode cX4_goOneHour 33 = .ok (.iload_n 2, 1) := by decide +kernel
theorem dX4_goOneHour_34 : decode cX4_goOneHour 34 = .ok (.aload_n 0, 1) := by decide +kernel
theorem dX4_goOneHour_35 : decode cX4_goOneHour 35 = .ok (.getfield 16, 3) := by decide +kernel
theorem dX4_goOneHour_38 : decode cX4_goOneHour 38 = .ok (.invokevirtual 74, 3) := by decide +kernel
theorem dX4_goOneHour_41 : decode cX4_goOneHour 41 = .ok (.if_icmp .ge 27, 3) := by decide +kernel
theorem dX4_goOneHour_44 : decode cX4_goOneHour 44 = .ok (.aload_n 0, 1) := by decide +kernel
theorem dX4_goOneHour_45 : decode cX4_goOneHour 45 = .ok (.getfield 16, 3) := by decide +kernel
theorem dX4_goOneHour_48 : decode cX4_goOneHour 48 = .ok (.iload_n 2, 1) := by decide +kernel
theorem dX4_goOneHour_49 : decode cX4_goOneHour 49 = .ok (.invokevirtual 256, 3) := by decide +kernel
theorem dX4_goOneHour_52 : decode cX4_goOneHour 52 = .ok (.checkcast 133, 3) := by decide +kernel
theorem dX4_goOneHour_55 : decode cX4_goOneHour 55 = .ok (.aload_n 0, 1) := by decide +kernel
theorem dX4_goOneHour_56 : decode cX4_goOneHour 56 = .ok (.getfield 29, 3) := by decide +kernel
theorem dX4_goOneHour_59 : decode cX4_goOneHour 59 = .ok (.invokevirtual 308, 3) := by decide +kernel
theorem dX4_goOneHour_62 : decode cX4_goOneHour 62 = .ok (.iinc 2 1, 3) := by decide +kernel
theorem dX4_goOneHour_65 : decode cX4_goOneHour 65 = .ok (.goto (-32), 3) := by decide +kernel
theorem dX4_goOneHour_68 : decode cX4_goOneHour 68 = .ok (.iconst 0, 1) := by decide +kernel
theorem dX4_goOneHour_69 : decode cX4_goOneHour 69 = .ok (.istore_n 2, 1) := by decide +kernel
theorem dX4_goOneHour_70 : decode cX4_goOneHour 70 = .ok (.iload_n 2, 1) := by decide +kernel
theorem dX4_goOneHour_71 : decode cX4_goOneHour 71 = .ok (.aload_n 0, 1) := by decide +kernel
theorem dX4_goOneHour_72 : decode cX4_goOneHour 72 = .ok (.getfield 10, 3) := by decide +kernel
theorem dX4_goOneHour_75 : decode cX4_goOneHour 75 = .ok (.invokevirtual 74, 3) := by decide +kernel
theorem dX4_goOneHour_78 : decode cX4_goOneHour 78 = .ok (.if_icmp .ge 33, 3) := by decide +kernel
theorem dX4_goOneHour_81 : decode cX4_goOneHour 81 = .ok (.aload_n 0, 1) := by decide +kernel
theorem dX4_goOneHour_82 : decode cX4_goOneHour 82 = .ok (.dup, 1) := by decide +kernel
theorem dX4_goOneHour_83 : decode cX4_goOneHour 83 = .ok (.getfield 49, 3) := by decide +kernel
theorem dX4_goOneHour_86 : decode cX4_goOneHour 86 = .ok (.aload_n 0, 1) := by decide +kernel
theorem dX4_goOneHour_87 : decode cX4_goOneHour 87 = .ok (.getfield 10, 3) := by decide +kernel
theorem dX4_goOneHour_90 : decode cX4_goOneHour 90 = .ok (.iload_n 2, 1) := by decide +kernel
theorem dX4_goOneHour_91 : decode cX4_goOneHour 91 = .ok (.invokevirtual 256, 3) := by decide +kernel
theorem dX4_goOneHour_94 : decode cX4_goOneHour 94 = .ok (.checkcast 59, 3) := by decide +kernel
theorem dX4_goOneHour_97 : decode cX4_goOneHour 97 = .ok (.invokevirtual 311, 3) := by decide +kernel
theorem dX4_goOneHour_100 : decode cX4_goOneHour 100 = .ok (.i2l, 1) := by decide +kernel
theorem dX4_goOneHour_101 : decode cX4_goOneHour 101 = .ok (.ladd, 1) := by decide +kernel
theorem dX4_goOneHour_102 : decode cX4_goOneHour 102 = .ok (.putfield 49, 3) := by decide +kernel
theorem dX4_goOneHour_105 : decode cX4_goOneHour 105 = .ok (.iinc 2 1, 3) := by decide +kernel
theorem dX4_goOneHour_108 : decode cX4_goOneHour 108 = .ok (.goto (-38), 3) := by decide +kernel
theorem dX4_goOneHour_111 : decode cX4_goOneHour 111 = .ok (.aload_n 0, 1) := by decide +kernel
theorem dX4_goOneHour_112 : decode cX4_goOneHour 112 = .ok (.getfield 25, 3) := by decide +kernel
theorem dX4_goOneHour_115 : decode cX4_goOneHour 115 = .ok (.aload_n 0, 1) := by decide +kernel
theorem dX4_goOneHour_116 : decode cX4_goOneHour 116 = .ok (.getfield 29, 3) := by decide +kernel
theorem dX4_goOneHour_119 : decode cX4_goOneHour 119 = .ok (.iconst 0, 1) := by decide +kernel
theorem dX4_goOneHour_120 : decode cX4_goOneHour 120 = .ok (.invokevirtual 148, 3) := by decide +kernel
theorem dX4_goOneHour_123 : decode cX4_goOneHour 123 = .ok (.pop, 1) := by decide +kernel
theorem dX4_goOneHour_124 : decode cX4_goOneHour 124 = .ok (.aload_n 0, 1) := by decide +kernel
theorem dX4_goOneHour_125 : decode cX4_goOneHour 125 = .ok (.dup, 1) := by decide +kernel
theorem dX4_goOneHour_126 : decode cX4_goOneHour 126 = .ok (.getfield 29, 3) := by decide +kernel
theorem dX4_goOneHour_129 : decode cX4_goOneHour 129 = .ok (.iconst 1, 1) := by decide +kernel
theorem dX4_goOneHour_130 : decode cX4_goOneHour 130 = .ok (.iadd, 1) := by decide +kernel
theorem dX4_goOneHour_131 : decode cX4_goOneHour 131 = .ok (.putfield 29, 3) := by decide +kernel
theorem dX4_goOneHour_134 : decode cX4_goOneHour 134 = .ok (.aload_n 0, 1) := by decide +kernel
theorem dX4_goOneHour_135 : decode cX4_goOneHour 135 = .ok (.getfield 29, 3) := by decide +kernel
theorem dX4_goOneHour_138 : decode cX4_goOneHour 138 = .ok (.bipush 24, 2) := by decide +kernel
theorem dX4_goOneHour_140 : decode cX4_goOneHour 140 = .ok (.irem, 1) := by decide +kernel
theorem dX4_goOneHour_141 : decode cX4_goOneHour 141 = .ok (.ifCond .ne 7, 3) := by decide +kernel
theorem dX4_goOneHour_144 : decode cX4_goOneHour 144 = .ok (.aload_n 0, 1) := by decide +kernel
theorem dX4_goOneHour_145 : decode cX4_goOneHour 145 = .ok (.invokevirtual 314, 3) := by decide +kernel
theorem dX4_goOneHour_148 : decode cX4_goOneHour 148 = .ok (.return_, 1) := by decide +kernel
theorem dX4_flowIn_0 : decode cX4_flowIn 0 = .ok (.iload_n 1, 1) := by decide +kernel
theorem dX4_flowIn_1 : decode cX4_flowIn 1 = .ok (.istore_n 2, 1) := by decide +kernel
theorem dX4_flowIn_2 : decode cX4_flowIn 2 = .ok (.iconst 0, 1) := by decide +kernel
theorem dX4_flowIn_3 : decode cX4_flowIn 3 = .ok (.istore_n 3, 1) := by decide +kernel
theorem dX4_flowIn_4 : decode cX4_flowIn 4 = .ok (.iload_n 3, 1) := by decide +kernel
theorem dX4_flowIn_5 : decode cX4_flowIn 5 = .ok (.aload_n 0, 1) := by decide +kernel
theorem dX4_flowIn_6 : decode cX4_flowIn 6 = .ok (.getfield 10, 3) := by decide +kernel
theorem dX4_flowIn_9 : decode cX4_flowIn 9 = .ok (.invokevirtual 74, 3) := by decide +kernel
theorem dX4_flowIn_12 : decode cX4_flowIn 12 = .ok (.if_icmp .ge 49, 3) := by decide +kernel
theorem dX4_flowIn_15 : decode cX4_flowIn 15 = .ok (.aload_n 0, 1) := by decide +kernel
theorem dX4_flowIn_16 : decode cX4_flowIn 16 = .ok (.getfield 10, 3) := by decide +kernel
theorem dX4_flowIn_19 : decode cX4_flowIn 19 = .ok (.iload_n 3, 1) := by decide +kernel
theorem dX4_flowIn_20 : decode cX4_flowIn 20 = .ok (.invokevirtual 256, 3) := by decide +kernel
theorem dX4_flowIn_23 : decode cX4_flowIn 23 = .ok (.checkcast 59, 3) := by decide +kernel
theorem dX4_flowIn_26 : decode cX4_flowIn 26 = .ok (.astore 4, 2) := by decide +kernel
theorem dX4_flowIn_28 : decode cX4_flowIn 28 = .ok (.iload_n 2, 1) := by decide +kernel
theorem dX4_flowIn_29 : decode cX4_flowIn 29 = .ok (.aload 4, 2) := by decide +kernel
theorem dX4_flowIn_31 : decode cX4_flowIn 31 = .ok (.invokevirtual 181, 3) := by decide +kernel
theorem dX4_flowIn_34 : decode cX4_flowIn 34 = .ok (.invokestatic 317, 3) := by decide +kernel
theorem dX4_flowIn_37 : decode cX4_flowIn 37 = .ok (.istore 5, 2) := by decide +kernel
theorem dX4_flowIn_39 : decode cX4_flowIn 39 = .ok (.aload 4, 2) := by decide +kernel
theorem dX4_flowIn_41 : decode cX4_flowIn 41 = .ok (.iload 5, 2) := by decide +kernel
theorem dX4_flowIn_43 : decode cX4_flowIn 43 = .ok (.aload_n 0, 1) := by decide +kernel
theorem dX4_flowIn_44 : decode cX4_flowIn 44 = .ok (.getfield 33, 3) := by decide +kernel
theorem dX4_flowIn_47 : decode cX4_flowIn 47 = .ok (.invokevirtual 86, 3) := by decide +kernel
theorem dX4_flowIn_50 : decode cX4_flowIn 50 = .ok (.iload_n 2, 1) := by decide +kernel
theorem dX4_flowIn_51 : decode cX4_flowIn 51 = .ok (.iload 5, 2) := by decide +kernel
theorem dX4_flowIn_53 : decode cX4_flowIn 53 = .ok (.isub, 1) := by decide +kernel
theorem dX4_flowIn_54 : decode cX4_flowIn 54 = .ok (.istore_n 2, 1) := by decide +kernel
theorem dX4_flowIn_55 : decode cX4_flowIn 55 = .ok (.iinc 3 1, 3) := by decide +kernel
theorem dX4_flowIn_58 : decode cX4_flowIn 58 = .ok (.goto (-54), 3) := by decide +kernel
theorem dX4_flowIn_61 : decode cX4_flowIn 61 = .ok (.aload_n 0, 1) := by decide +kernel
theorem dX4_flowIn_62 : decode cX4_flowIn 62 = .ok (.dup, 1) := by decide +kernel
theorem dX4_flowIn_63 : decode cX4_flowIn 63 = .ok (.getfield 42, 3) := by decide +kernel
theorem dX4_flowIn_66 : decode cX4_flowIn 66 = .ok (.iload_n 1, 1) := by decide +kernel
theorem dX4_flowIn_67 : decode cX4_flowIn 67 = .ok (.iload_n 2, 1) := by decide +kernel
theorem dX4_flowIn_68 : decode cX4_flowIn 68 = .ok (.isub, 1) := by decide +kernel
theorem dX4_flowIn_69 : decode cX4_flowIn 69 = .ok (.i2l, 1) := by decide +kernel
theorem dX4_flowIn_70 : decode cX4_flowIn 70 = .ok (.ladd, 1) := by decide +kernel
theorem dX4_flowIn_71 : decode cX4_flowIn 71 = .ok (.putfield 42, 3) := by decide +kernel
theorem dX4_flowIn_74 : decode cX4_flowIn 74 = .ok (.iload_n 2, 1) := by decide +kernel
theorem dX4_flowIn_75 : decode cX4_flowIn 75 = .ok (.iload_n 1, 1) := by decide +kernel
theorem dX4_flowIn_76 : decode cX4_flowIn 76 = .ok (.if_icmp .ge 11, 3) := by decide +kernel
theorem dX4_flowIn_79 : decode cX4_flowIn 79 = .ok (.aload_n 0, 1) := by decide +kernel
theorem dX4_flowIn_80 : decode cX4_flowIn 80 = .ok (.aload_n 0, 1) := by decide +kernel
theorem dX4_flowIn_81 : decode cX4_flowIn 81 = .ok (.getfield 29, 3) := by decide +kernel
theorem dX4_flowIn_84 : decode cX4_flowIn 84 = .ok (.putfield 36, 3) := by decide +kernel
theorem dX4_flowIn_87 : decode cX4_flowIn 87 = .ok (.return_, 1) := by decide +kernel
theorem dX4_flowOut_0 : decode cX4_flowOut 0 = .ok (.iload_n 1, 1) := by decide +kernel
theorem dX4_flowOut_1 : decode cX4_flowOut 1 = .ok (.istore_n 2, 1) := by decide +kernel
theorem dX4_flowOut_2 : decode cX4_flowOut 2 = .ok (.iconst 0, 1) := by decide +kernel
theorem dX4_flowOut_3 : decode cX4_flowOut 3 = .ok (.istore_n 3, 1) := by decide +kernel
theorem dX4_flowOut_4 : decode cX4_flowOut 4 = .ok (.iload_n 3, 1) := by decide +kernel
theorem dX4_flowOut_5 : decode cX4_flowOut 5 = .ok (.aload_n 0, 1) := by decide +kernel
theorem dX4_flowOut_6 : decode cX4_flowOut 6 = .ok (.getfield 10, 3) := by decide +kernel
theorem dX4_flowOut_9 : decode cX4_flowOut 9 = .ok (.invokevirtual 74, 3) := by decide +kernel
theorem dX4_flowOut_12 : decode cX4_flowOut 12 = .ok (.if_icmp .ge 39, 3) := by decide +kernel
theorem dX4_flowOut_15 : decode cX4_flowOut 15 = .ok (.aload_n 0, 1) := by decide +kernel
theorem dX4_flowOut_16 : decode cX4_flowOut 16 = .ok (.getfield 10, 3) := by decide +kernel
theorem dX4_flowOut_19 : decode cX4_flowOut 19 = .ok (.iload_n 3, 1) := by decide +kernel
theorem dX4_flowOut_20 : decode cX4_flowOut 20 = .ok (.invokevirtual 256, 3) := by decide +kernel
theorem dX4_flowOut_23 : decode cX4_flowOut 23 = .ok (.checkcast 59, 3) := by decide +kernel
theorem dX4_flowOut_26 : decode cX4_flowOut 26 = .ok (.astore 4, 2) := by decide +kernel
theorem dX4_flowOut_28 : decode cX4_flowOut 28 = .ok (.iload_n 2, 1) := by decide +kernel
theorem dX4_flowOut_29 : decode cX4_flowOut 29 = .ok (.aload 4, 2) := by decide +kernel
theorem dX4_flowOut_31 : decode cX4_flowOut 31 = .ok (.iload_n 2, 1) := by decide +kernel
theorem dX4_flowOut_32 : decode cX4_flowOut 32 = .ok (.aload 4, 2) := by decide +kernel
theorem dX4_flowOut_34 : decode cX4_flowOut 34 = .ok (.invokevirtual 106, 3) := by decide +kernel
theorem dX4_flowOut_37 : decode cX4_flowOut 37 = .ok (.invokestatic 317, 3) := by decide +kernel
theorem dX4_flowOut_40 : decode cX4_flowOut 40 = .ok (.invokevirtual 320, 3) := by decide +kernel
theorem dX4_flowOut_43 : decode cX4_flowOut 43 = .ok (.isub, 1) := by decide +kernel
theorem dX4_flowOut_44 : decode cX4_flowOut 44 = .ok (.istore_n 2, 1) := by decide +kernel
theorem dX4_flowOut_45 : decode cX4_flowOut 45 = .ok (.iinc 3 1, 3) := by decide +kernel
theorem dX4_flowOut_48 : decode cX4_flowOut 48 = .ok (.goto (-44), 3) := by decide +kernel
theorem dX4_flowOut_51 : decode cX4_flowOut 51 = .ok (.aload_n 0, 1) := by decide +kernel
theorem dX4_flowOut_52 : decode cX4_flowOut 52 = .ok (.dup, 1) := by decide +kernel
theorem dX4_flowOut_53 : decode cX4_flowOut 53 = .ok (.getfield 46, 3) := by decide +kernel
theorem dX4_flowOut_56 : decode cX4_flowOut 56 = .ok (.iload_n 1, 1) := by decide +kernel
theorem dX4_flowOut_57 : decode cX4_flowOut 57 = .ok (.iload_n 2, 1) := by decide +kernel
theorem dX4_flowOut_58 : decode cX4_flowOut 58 = .ok (.isub, 1) := by decide +kernel
theorem dX4_flowOut_59 : decode cX4_flowOut 59 = .ok (.i2l, 1) := by decide +kernel
theorem dX4_flowOut_60 : decode cX4_flowOut 60 = .ok (.ladd, 1) := by decide +kernel
theorem dX4_flowOut_61 : decode cX4_flowOut 61 = .ok (.putfield 46, 3) := by decide +kernel
theorem dX4_flowOut_64 : decode cX4_flowOut 64 = .ok (.iload_n 2, 1) := by decide +kernel
theorem dX4_flowOut_65 : decode cX4_flowOut 65 = .ok (.iload_n 1, 1) := by decide +kernel
theorem dX4_flowOut_66 : decode cX4_flowOut 66 = .ok (.if_icmp .ge 11, 3) := by decide +kernel
theorem dX4_flowOut_69 : decode cX4_flowOut 69 = .ok (.aload_n 0, 1) := by decide +kernel
theorem dX4_flowOut_70 : decode cX4_flowOut 70 = .ok (.aload_n 0, 1) := by decide +kernel
theorem dX4_flowOut_71 : decode cX4_flowOut 71 = .ok (.getfield 29, 3) := by decide +kernel
theorem dX4_flowOut_74 : decode cX4_flowOut 74 = .ok (.putfield 39, 3) := by decide +kernel
theorem dX4_flowOut_77 : decode cX4_flowOut 77 = .ok (.return_, 1) := by decide +kernel
theorem dX4_endTheDay_0 : decode cX4_endTheDay 0 = .ok (.iconst 0, 1) := by decide +kernel
theorem dX4_endTheDay_1 : decode cX4_endTheDay 1 = .ok (.istore_n 1, 1) := by decide +kernel
theorem dX4_endTheDay_2 : decode cX4_endTheDay 2 = .ok (.iload_n 1, 1) := by decide +kernel
theorem dX4_endTheDay_3 : decode cX4_endTheDay 3 = .ok (.aload_n 0, 1) := by decide +kernel
theorem dX4_endTheDay_4 : decode cX4_endTheDay 4 = .ok (.getfield 10, 3) := by decide +kernel
theorem dX4_endTheDay_7 : decode cX4_endTheDay 7 = .ok (.invokevirtual 74, 3) := by decide +kernel
theorem dX4_endTheDay_10 : decode cX4_endTheDay 10 = .ok (.if_icmp .ge 33, 3) := by decide +kernel
theorem dX4_endTheDay_13 : decode cX4_endTheDay 13 = .ok (.aload_n 0, 1) := by decide +kernel
theorem dX4_endTheDay_14 : decode cX4_endTheDay 14 = .ok (.dup, 1) := by decide +kernel
theorem dX4_endTheDay_15 : decode cX4_endTheDay 15 = .ok (.getfield 49, 3) := by decide +kernel
theorem dX4_endTheDay_18 : decode cX4_endTheDay 18 = .ok (.aload_n 0, 1) := by decide +kernel
theorem dX4_endTheDay_19 : decode cX4_endTheDay 19 = .ok (.getfield 10, 3) := by decide +kernel
theorem dX4_endTheDay_22 : decode cX4_endTheDay 22 = .ok (.iload_n 1, 1) := by decide +kernel
theorem dX4_endTheDay_23 : decode cX4_endTheDay 23 = .ok (.invokevirtual 256, 3) := by decide +kernel
theorem dX4_endTheDay_26 : decode cX4_endTheDay 26 = .ok (.checkcast 59, 3) := by decide +kernel
theorem dX4_endTheDay_29 : decode cX4_endTheDay 29 = .ok (.invokevirtual 323, 3) := by decide +kernel
theorem dX4_endTheDay_32 : decode cX4_endTheDay 32 = .ok (.i2l, 1) := by decide +kernel
theorem dX4_endTheDay_33 : decode cX4_endTheDay 33 = .ok (.ladd, 1) := by decide +kernel
theorem dX4_endTheDay_34 : decode cX4_endTheDay 34 = .ok (.putfield 49, 3) := by decide +kernel
theorem dX4_endTheDay_37 : decode cX4_endTheDay 37 = .ok (.iinc 1 1, 3) := by decide +kernel
theorem dX4_endTheDay_40 : decode cX4_endTheDay 40 = .ok (.goto (-38), 3) := by decide +kernel
theorem dX4_endTheDay_43 : decode cX4_endTheDay 43 = .ok (.return_, 1) := by decide +kernel
theorem dX4_bestSum_0 : decode cX4_bestSum 0 = .ok (.iload 4, 2) := by decide +kernel
theorem dX4_bestSum_2 : decode cX4_bestSum 2 = .ok (.ifCond .le 10, 3) := by decide +kernel
theorem dX4_bestSum_5 : decode cX4_bestSum 5 = .ok (.iload 4, 2) := by decide +kernel
theorem dX4_bestSum_7 : decode cX4_bestSum 7 = .ok (.bipush 8, 2) := by decide +kernel
theorem dX4_bestSum_9 : decode cX4_bestSum 9 = .ok (.if_icmp .le 5, 3) := by decide +kernel
theorem dX4_bestSum_12 : decode cX4_bestSum 12 = .ok (.lconst 0, 1) := by decide +kernel
theorem dX4_bestSum_13 : decode cX4_bestSum 13 = .ok (.lreturn, 1) := by decide +kernel
theorem dX4_bestSum_14 : decode cX4_bestSum 14 = .ok (.aload_n 0, 1) := by decide +kernel
theorem dX4_bestSum_15 : decode cX4_bestSum 15 = .ok (.aload_n 1, 1) := by decide +kernel
theorem dX4_bestSum_16 : decode cX4_bestSum 16 = .ok (.iload_n 2, 1) := by decide +kernel
theorem dX4_bestSum_17 : decode cX4_bestSum 17 = .ok (.iload_n 3, 1) := by decide +kernel
theorem dX4_bestSum_18 : decode cX4_bestSum 18 = .ok (.iconst 1, 1) := by decide +kernel
theorem dX4_bestSum_19 : decode cX4_bestSum 19 = .ok (.iadd, 1) := by decide +kernel
theorem dX4_bestSum_20 : decode cX4_bestSum 20 = .ok (.iload 4, 2) := by decide +kernel
theorem dX4_bestSum_22 : decode cX4_bestSum 22 = .ok (.iconst 1, 1) := by decide +kernel
theorem dX4_bestSum_23 : decode cX4_bestSum 23 = .ok (.isub, 1) := by decide +kernel
theorem dX4_bestSum_24 : decode cX4_bestSum 24 = .ok (.invokestatic 226, 3) := by decide +kernel
theorem dX4_bestSum_27 : decode cX4_bestSum 27 = .ok (.lstore 5, 2) := by decide +kernel
theorem dX4_bestSum_29 : decode cX4_bestSum 29 = .ok (.aload_n 1, 1) := by decide +kernel
theorem dX4_bestSum_30 : decode cX4_bestSum 30 = .ok (.iload_n 3, 1) := by decide +kernel
theorem dX4_bestSum_31 : decode cX4_bestSum 31 = .ok (.invokevirtual 326, 3) := by decide +kernel
theorem dX4_bestSum_34 : decode cX4_bestSum 34 = .ok (.i2l, 1) := by decide +kernel
theorem dX4_bestSum_35 : decode cX4_bestSum 35 = .ok (.lstore 7, 2) := by decide +kernel
theorem dX4_bestSum_37 : decode cX4_bestSum 37 = .ok (.aload_n 0, 1) := by decide +kernel
theorem dX4_bestSum_38 : decode cX4_bestSum 38 = .ok (.iload_n 2, 1) := by decide +kernel
theorem dX4_bestSum_39 : decode cX4_bestSum 39 = .ok (.invokevirtual 329, 3) := by decide +kernel
theorem dX4_bestSum_42 : decode cX4_bestSum 42 = .ok (.istore 9, 2) := by decide +kernel
theorem dX4_bestSum_44 : decode cX4_bestSum 44 = .ok (.iload 9, 2) := by decide +kernel
theorem dX4_bestSum_46 : decode cX4_bestSum 46 = .ok (.ifCond .le 33, 3) := by decide +kernel
theorem dX4_bestSum_49 : decode cX4_bestSum 49 = .ok (.lload 5, 2) := by decide +kernel
theorem dX4_bestSum_51 : decode cX4_bestSum 51 = .ok (.aload_n 0, 1) := by decide +kernel
theorem dX4_bestSum_52 : decode cX4_bestSum 52 = .ok (.aload_n 1, 1) := by decide +kernel
theorem dX4_bestSum_53 : decode cX4_bestSum 53 = .ok (.iload_n 2, 1) := by decide +kernel
theorem dX4_bestSum_54 : decode cX4_bestSum 54 = .ok (.iload 9, 2) := by decide +kernel
theorem dX4_bestSum_56 : decode cX4_bestSum 56 = .ok (.iadd, 1) := by decide +kernel
theorem dX4_bestSum_57 : decode cX4_bestSum 57 = .ok (.iload_n 3, 1) := by decide +kernel
theorem dX4_bestSum_58 : decode cX4_bestSum 58 = .ok (.iconst 1, 1) := by decide +kernel
theorem dX4_bestSum_59 : decode cX4_bestSum 59 = .ok (.iadd, 1) := by decide +kernel
theorem dX4_bestSum_60 : decode cX4_bestSum 60 = .ok (.iload 4, 2) := by decide +kernel
theorem dX4_bestSum_62 : decode cX4_bestSum 62 = .ok (.iconst 1, 1) := by decide +kernel
theorem dX4_bestSum_63 : decode cX4_bestSum 63 = .ok (.isub, 1) := by decide +kernel
theorem dX4_bestSum_64 : decode cX4_bestSum 64 = .ok (.invokestatic 226, 3) := by decide +kernel
theorem dX4_bestSum_67 : decode cX4_bestSum 67 = .ok (.iload 9, 2) := by decide +kernel
theorem dX4_bestSum_69 : decode cX4_bestSum 69 = .ok (.i2l, 1) := by decide +kernel
theorem dX4_bestSum_70 : decode cX4_bestSum 70 = .ok (.lload 7, 2) := by decide +kernel
theorem dX4_bestSum_72 : decode cX4_bestSum 72 = .ok (.lmul, 1) := by decide +kernel
theorem dX4_bestSum_73 : decode cX4_bestSum 73 = .ok (.lsub, 1) := by decide +kernel
theorem dX4_bestSum_74 : decode cX4_bestSum 74 = .ok (.invokestatic 234, 3) := by decide +kernel
theorem dX4_bestSum_77 : decode cX4_bestSum 77 = .ok (.lstore 5, 2) := by decide +kernel
theorem dX4_bestSum_79 : decode cX4_bestSum 79 = .ok (.aload_n 0, 1) := by decide +kernel
theorem dX4_bestSum_80 : decode cX4_bestSum 80 = .ok (.iload_n 2, 1) := by decide +kernel
theorem dX4_bestSum_81 : decode cX4_bestSum 81 = .ok (.invokevirtual 332, 3) := by decide +kernel
theorem dX4_bestSum_84 : decode cX4_bestSum 84 = .ok (.istore 10, 2) := by decide +kernel
theorem dX4_bestSum_86 : decode cX4_bestSum 86 = .ok (.iload 10, 2) := by decide +kernel
theorem dX4_bestSum_88 : decode cX4_bestSum 88 = .ok (.ifCond .le 33, 3) := by decide +kernel
theorem dX4_bestSum_91 : decode cX4_bestSum 91 = .ok (.lload 5, 2) := by decide +kernel
theorem dX4_bestSum_93 : decode cX4_bestSum 93 = .ok (.aload_n 0, 1) := by decide +kernel
theorem dX4_bestSum_94 : decode cX4_bestSum 94 = .ok (.aload_n 1, 1) := by decide +kernel
theorem dX4_bestSum_95 : decode cX4_bestSum 95 = .ok (.iload_n 2, 1) := by decide +kernel
theorem dX4_bestSum_96 : decode cX4_bestSum 96 = .ok (.iload 10, 2) := by decide +kernel
theorem dX4_bestSum_98 : decode cX4_bestSum 98 = .ok (.isub, 1) := by decide +kernel
theorem dX4_bestSum_99 : decode cX4_bestSum 99 = .ok (.iload_n 3, 1) := by decide +kernel
theorem dX4_bestSum_100 : decode cX4_bestSum 100 = .ok (.iconst 1, 1) := by decide +kernel
theorem dX4_bestSum_101 : decode cX4_bestSum 101 = .ok (.iadd, 1) := by decide +kernel
theorem dX4_bestSum_102 : decode cX4_bestSum 102 = .ok (.iload 4, 2) := by decide +kernel
theorem dX4_bestSum_104 : decode cX4_bestSum 104 = .ok (.iconst 1, 1) := by decide +kernel
theorem dX4_bestSum_105 : decode cX4_bestSum 105 = .ok (.isub, 1) := by decide +kernel
theorem dX4_bestSum_106 : decode cX4_bestSum 106 = .ok (.invokestatic 226, 3) := by decide +kernel
theorem dX4_bestSum_109 : decode cX4_bestSum 109 = .ok (.iload 10, 2) := by decide +kernel
theorem dX4_bestSum_111 : decode cX4_bestSum 111 = .ok (.i2l, 1) := by decide +kernel
theorem dX4_bestSum_112 : decode cX4_bestSum 112 = .ok (.lload 7, 2) := by decide +kernel
theorem dX4_bestSum_114 : decode cX4_bestSum 114 = .ok (.lmul, 1) := by decide +kernel
theorem dX4_bestSum_115 : decode cX4_bestSum 115 = .ok (.ladd, 1) := by decide +kernel
theorem dX4_bestSum_116 : decode cX4_bestSum 116 = .ok (.invokestatic 234, 3) := by decide +kernel
theorem dX4_bestSum_119 : decode cX4_bestSum 119 = .ok (.lstore 5, 2) := by decide +kernel
theorem dX4_bestSum_121 : decode cX4_bestSum 121 = .ok (.lload 5, 2) := by decide +kernel
theorem dX4_bestSum_123 : decode cX4_bestSum 123 = .ok (.lreturn, 1) := by decide +kernel
theorem dX4_sumOfWay_0 : decode cX4_sumOfWay 0 = .ok (.aload_n 1, 1) := by decide +kernel
theorem dX4_sumOfWay_1 : decode cX4_sumOfWay 1 = .ok (.getfield 153, 3) := by decide +kernel
theorem dX4_sumOfWay_4 : decode cX4_sumOfWay 4 = .ok (.istore 4, 2) := by decide +kernel
theorem dX4_sumOfWay_6 : decode cX4_sumOfWay 6 = .ok (.iload_n 2, 1) := by decide +kernel
theorem dX4_sumOfWay_7 : decode cX4_sumOfWay 7 = .ok (.istore 5, 2) := by decide +kernel
theorem dX4_sumOfWay_9 : decode cX4_sumOfWay 9 = .ok (.lconst 0, 1) := by decide +kernel
theorem dX4_sumOfWay_10 : decode cX4_sumOfWay 10 = .ok (.lstore 6, 2) := by decide +kernel
theorem dX4_sumOfWay_12 : decode cX4_sumOfWay 12 = .ok (.iconst 0, 1) := by decide +kernel
theorem dX4_sumOfWay_13 : decode cX4_sumOfWay 13 = .ok (.istore 8, 2) := by decide +kernel
theorem dX4_sumOfWay_15 : decode cX4_sumOfWay 15 = .ok (.iload 8, 2) := by decide +kernel
theorem dX4_sumOfWay_17 : decode cX4_sumOfWay 17 = .ok (.iload_n 3, 1) := by decide +kernel
theorem dX4_sumOfWay_18 : decode cX4_sumOfWay 18 = .ok (.if_icmp .ge 86, 3) := by decide +kernel
theorem dX4_sumOfWay_21 : decode cX4_sumOfWay 21 = .ok (.iload 5, 2) := by decide +kernel
theorem dX4_sumOfWay_23 : decode cX4_sumOfWay 23 = .ok (.iconst 3, 1) := by decide +kernel
theorem dX4_sumOfWay_24 : decode cX4_sumOfWay 24 = .ok (.irem, 1) := by decide +kernel
theorem dX4_sumOfWay_25 : decode cX4_sumOfWay 25 = .ok (.istore 9, 2) := by decide +kernel
theorem dX4_sumOfWay_27 : decode cX4_sumOfWay 27 = .ok (.iload 5, 2) := by decide +kernel
theorem dX4_sumOfWay_29 : decode cX4_sumOfWay 29 = .ok (.iconst 3, 1) := by decide +kernel
theorem dX4_sumOfWay_30 : decode cX4_sumOfWay 30 = .ok (.idiv, 1) := by decide +kernel
theorem dX4_sumOfWay_31 : decode cX4_sumOfWay 31 = .ok (.istore 5, 2) := by decide +kernel
theorem dX4_sumOfWay_33 : decode cX4_sumOfWay 33 = .ok (.iload 9, 2) := by decide +kernel
theorem dX4_sumOfWay_35 : decode cX4_sumOfWay 35 = .ok (.iconst 1, 1) := by decide +kernel
theorem dX4_sumOfWay_36 : decode cX4_sumOfWay 36 = .ok (.if_icmp .ne 12, 3) := by decide +kernel
theorem dX4_sumOfWay_39 : decode cX4_sumOfWay 39 = .ok (.aload_n 1, 1) := by decide +kernel
theorem dX4_sumOfWay_40 : decode cX4_sumOfWay 40 = .ok (.iload 4, 2) := by decide +kernel
theorem dX4_sumOfWay_42 : decode cX4_sumOfWay 42 = .ok (.invokevirtual 329, 3) := by decide +kernel
theorem dX4_sumOfWay_45 : decode cX4_sumOfWay 45 = .ok (.goto 20, 3) := by decide +kernel
theorem dX4_sumOfWay_48 : decode cX4_sumOfWay 48 = .ok (.iload 9, 2) := by decide +kernel
theorem dX4_sumOfWay_50 : decode cX4_sumOfWay 50 = .ok (.iconst 2, 1) := by decide +kernel
theorem dX4_sumOfWay_51 : decode cX4_sumOfWay 51 = .ok (.if_icmp .ne 13, 3) := by decide +kernel
theorem dX4_sumOfWay_54 : decode cX4_sumOfWay 54 = .ok (.aload_n 1, 1) := by decide +kernel
theorem dX4_sumOfWay_55 : decode cX4_sumOfWay 55 = .ok (.iload 4, 2) := by decide +kernel
theorem dX4_sumOfWay_57 : decode cX4_sumOfWay 57 = .ok (.invokevirtual 332, 3) := by decide +kernel
theorem dX4_sumOfWay_60 : decode cX4_sumOfWay 60 = .ok (.ineg, 1) := by decide +kernel
theorem dX4_sumOfWay_61 : decode cX4_sumOfWay 61 = .ok (.goto 4, 3) := by decide +kernel
theorem dX4_sumOfWay_64 : decode cX4_sumOfWay 64 = .ok (.iconst 0, 1) := by decide +kernel
theorem dX4_sumOfWay_65 : decode cX4_sumOfWay 65 = .ok (.istore 10, 2) := by decide +kernel
theorem dX4_sumOfWay_67 : decode cX4_sumOfWay 67 = .ok (.iload 4, 2) := by decide +kernel
theorem dX4_sumOfWay_69 : decode cX4_sumOfWay 69 = .ok (.iload 10, 2) := by decide +kernel
theorem dX4_sumOfWay_71 : decode cX4_sumOfWay 71 = .ok (.iadd, 1) := by decide +kernel
theorem dX4_sumOfWay_72 : decode cX4_sumOfWay 72 = .ok (.istore 4, 2) := by decide +kernel
theorem dX4_sumOfWay_74 : decode cX4_sumOfWay 74 = .ok (.lload 6, 2) := by decide +kernel
theorem dX4_sumOfWay_76 : decode cX4_sumOfWay 76 = .ok (.iload 10, 2) := by decide +kernel
theorem dX4_sumOfWay_78 : decode cX4_sumOfWay 78 = .ok (.i2l, 1) := by decide +kernel
theorem dX4_sumOfWay_79 : decode cX4_sumOfWay 79 = .ok (.aload_n 0, 1) := by decide +kernel
theorem dX4_sumOfWay_80 : decode cX4_sumOfWay 80 = .ok (.getfield 25, 3) := by decide +kernel
theorem dX4_sumOfWay_83 : decode cX4_sumOfWay 83 = .ok (.aload_n 0, 1) := by decide +kernel
theorem dX4_sumOfWay_84 : decode cX4_sumOfWay 84 = .ok (.getfield 29, 3) := by decide +kernel
theorem dX4_sumOfWay_87 : decode cX4_sumOfWay 87 = .ok (.iload 8, 2) := by decide +kernel
theorem dX4_sumOfWay_89 : decode cX4_sumOfWay 89 = .ok (.iadd, 1) := by decide +kernel
theorem dX4_sumOfWay_90 : decode cX4_sumOfWay 90 = .ok (.invokevirtual 326, 3) := by decide +kernel
theorem dX4_sumOfWay_93 : decode cX4_sumOfWay 93 = .ok (.i2l, 1) := by decide +kernel
theorem dX4_sumOfWay_94 : decode cX4_sumOfWay 94 = .ok (.lmul, 1) := by decide +kernel
theorem dX4_sumOfWay_95 : decode cX4_sumOfWay 95 = .ok (.lsub, 1) := by decide +kernel
theorem dX4_sumOfWay_96 : decode cX4_sumOfWay 96 = .ok (.lstore 6, 2) := by decide +kernel
theorem dX4_sumOfWay_98 : decode cX4_sumOfWay 98 = .ok (.iinc 8 1, 3) := by decide +kernel
theorem dX4_sumOfWay_101 : decode cX4_sumOfWay 101 = .ok (.goto (-86), 3) := by decide +kernel
theorem dX4_sumOfWay_104 : decode cX4_sumOfWay 104 = .ok (.lload 6, 2) := by decide +kernel
theorem dX4_sumOfWay_106 : decode cX4_sumOfWay 106 = .ok (.lreturn, 1) := by decide +kernel
theorem dJ9_floorMod_7cf53_0 : decode cJ9_floorMod_7cf53 0 = .ok (.iload_n 0, 1) := by decide +kernel
theorem dJ9_floorMod_7cf53_1 : decode cJ9_floorMod_7cf53 1 = .ok (.iload_n 1, 1) := by decide +kernel
theorem dJ9_floorMod_7cf53_2 : decode cJ9_floorMod_7cf53 2 = .ok (.irem, 1) := by decide +kernel
theorem dJ9_floorMod_7cf53_3 : decode cJ9_floorMod_7cf53 3 = .ok (.istore_n 2, 1) := by decide +kernel
theorem dJ9_floorMod_7cf53_4 : decode cJ9_floorMod_7cf53 4 = .ok (.iload_n 0, 1) := by decide +kernel
theorem dJ9_floorMod_7cf53_5 : decode cJ9_floorMod_7cf53 5 = .ok (.iload_n 1, 1) := by decide +kernel
theorem dJ9_floorMod_7cf53_6 : decode cJ9_floorMod_7cf53 6 = .ok (.ixor, 1) := by decide +kernel
theorem dJ9_floorMod_7cf53_7 : decode cJ9_floorMod_7cf53 7 = .ok (.ifCond .ge 11, 3) := by decide +kernel
theorem dJ9_floorMod_7cf53_10 : decode cJ9_floorMod_7cf53 10 = .ok (.iload_n 2, 1) := by decide +kernel
theorem dJ9_floorMod_7cf53_11 : decode cJ9_floorMod_7cf53 11 = .ok (.ifCond .eq 7, 3) := by decide +kernel
theorem dJ9_floorMod_7cf53_14 : decode cJ9_floorMod_7cf53 14 = .ok (.iload_n 2, 1) := by decide +kernel
theorem dJ9_floorMod_7cf53_15 : decode cJ9_floorMod_7cf53 15 = .ok (.iload_n 1, 1) := by decide +kernel
theorem dJ9_floorMod_7cf53_16 : decode cJ9_floorMod_7cf53 16 = .ok (.iadd, 1) := by decide +kernel
theorem dJ9_floorMod_7cf53_17 : decode cJ9_floorMod_7cf53 17 = .ok (.ireturn, 1) := by decide +kernel
theorem dJ9_floorMod_7cf53_18 : decode cJ9_floorMod_7cf53 18 = .ok (.iload_n 2, 1) := by decide +kernel
theorem dJ9_floorMod_7cf53_19 : decode cJ9_floorMod_7cf53 19 = .ok (.ireturn, 1) := by decide +kernel
theorem dJ9_abs_0f7a4_0 : decode cJ9_abs_0f7a4 0 = .ok (.iload_n 0, 1) := by decide +kernel
theorem dJ9_abs_0f7a4_1 : decode cJ9_abs_0f7a4 1 = .ok (.ifCond .ge 8, 3) := by decide +kernel
theorem dJ9_abs_0f7a4_4 : decode cJ9_abs_0f7a4 4 = .ok (.iload_n 0, 1) := by decide +kernel
theorem dJ9_abs_0f7a4_5 : decode cJ9_abs_0f7a4 5 = .ok (.ineg, 1) := by decide +kernel
theorem dJ9_abs_0f7a4_6 : decode cJ9_abs_0f7a4 6 = .ok (.goto 4, 3) := by decide +kernel
theorem dJ9_abs_0f7a4_9 : decode cJ9_abs_0f7a4 9 = .ok (.iload_n 0, 1) := by decide +kernel
theorem dJ9_abs_0f7a4_10 : decode cJ9_abs_0f7a4 10 = .ok (.ireturn, 1) := by decide +kernel
theorem dJ9_max_7cf53_0 : decode cJ9_max_7cf53 0 = .ok (.iload_n 0, 1) := by decide +kernel
theorem dJ9_max_7cf53_1 : decode cJ9_max_7cf53 1 = .ok (.iload_n 1, 1) := by decide +kernel
theorem dJ9_max_7cf53_2 : decode cJ9_max_7cf53 2 = .ok (.if_icmp .lt 7, 3) := by decide +kernel
theorem dJ9_max_7cf53_5 : decode cJ9_max_7cf53 5 = .ok (.iload_n 0, 1) := by decide +kernel
theorem dJ9_max_7cf53_6 : decode cJ9_max_7cf53 6 = .ok (.goto 4, 3) := by decide +kernel
theorem dJ9_max_7cf53_9 : decode cJ9_max_7cf53 9 = .ok (.iload_n 1, 1) := by decide +kernel
theorem dJ9_max_7cf53_10 : decode cJ9_max_7cf53 10 = .ok (.ireturn, 1) := by decide +kernel
theorem dJ9_max_f86c9_0 : decode cJ9_max_f86c9 0 = .ok (.lload_n 0, 1) := by decide +kernel
theorem dJ9_max_f86c9_1 : decode cJ9_max_f86c9 1 = .ok (.lload_n 2, 1) := by decide +kernel
theorem dJ9_max_f86c9_2 : decode cJ9_max_f86c9 2 = .ok (.lcmp, 1) := by decide +kernel
theorem dJ9_max_f86c9_3 : decode cJ9_max_f86c9 3 = .ok (.ifCond .lt 7, 3) := by decide +kernel
theorem dJ9_max_f86c9_6 : decode cJ9_max_f86c9 6 = .ok (.lload_n 0, 1) := by decide +kernel
theorem dJ9_max_f86c9_7 : decode cJ9_max_f86c9 7 = .ok (.goto 4, 3) := by decide +kernel
theorem dJ9_max_f86c9_10 : decode cJ9_max_f86c9 10 = .ok (.lload_n 2, 1) := by decide +kernel
theorem dJ9_max_f86c9_11 : decode cJ9_max_f86c9 11 = .ok (.lreturn, 1) := by decide +kernel
theorem dJ9_min_7cf53_0 : decode cJ9_min_7cf53 0 = .ok (.iload_n 0, 1) := by decide +kernel
theorem dJ9_min_7cf53_1 : decode cJ9_min_7cf53 1 = .ok (.iload_n 1, 1) := by decide +kernel
theorem dJ9_min_7cf53_2 : decode cJ9_min_7cf53 2 = .ok (.if_icmp .gt 7, 3) := by decide +kernel
theorem dJ9_min_7cf53_5 : decode cJ9_min_7cf53 5 = .ok (.iload_n 0, 1) := by decide +kernel
theorem dJ9_min_7cf53_6 : decode cJ9_min_7cf53 6 = .ok (.goto 4, 3) := by decide +kernel
theorem dJ9_min_7cf53_9 : decode cJ9_min_7cf53 9 = .ok (.iload_n 1, 1) := by decide +kernel
theorem dJ9_min_7cf53_10 : decode cJ9_min_7cf53 10 = .ok (.ireturn, 1) := by decide +kernel
theorem dJxa1e45_init_da8c8_0 : decode cJxa1e45_init_da8c8 0 = .ok (.aload_n 0, 1) := by decide +kernel
theorem dJxa1e45_init_da8c8_1 : decode cJxa1e45_init_da8c8 1 = .ok (.invokespecial 1, 3) := by decide +kernel
theorem dJxa1e45_init_da8c8_4 : decode cJxa1e45_init_da8c8 4 = .ok (.return_, 1) := by decide +kernel
theorem dJxc12de_init_da8c8_0 : decode cJxc12de_init_da8c8 0 = .ok (.aload_n 0, 1) := by decide +kernel
theorem dJxc12de_init_da8c8_1 : decode cJxc12de_init_da8c8 1 = .ok (.invokespecial 1, 3) := by decide +kernel
theorem dJxc12de_init_da8c8_4 : decode cJxc12de_init_da8c8 4 = .ok (.aload_n 0, 1) := by decide +kernel
theorem dJxc12de_init_da8c8_5 : decode cJxc12de_init_da8c8 5 = .ok (.iconst 0, 1) := by decide +kernel
theorem dJxc12de_init_da8c8_6 : decode cJxc12de_init_da8c8 6 = .ok (.putfield 7, 3) := by decide +kernel
theorem dJxc12de_init_da8c8_9 : decode cJxc12de_init_da8c8 9 = .ok (.return_, 1) := by decide +kernel
theorem dJx4a65c_init_da8c8_0 : decode cJx4a65c_init_da8c8 0 = .ok (.aload_n 0, 1) := by decide +kernel
theorem dJx4a65c_init_da8c8_1 : decode cJx4a65c_init_da8c8 1 = .ok (.invokespecial 1, 3) := by decide +kernel
theorem dJx4a65c_init_da8c8_4 : decode cJx4a65c_init_da8c8 4 = .ok (.aload_n 0, 1) := by decide +kernel
theorem dJx4a65c_init_da8c8_5 : decode cJx4a65c_init_da8c8 5 = .ok (.getstatic 39, 3) := by decide +kernel
theorem dJx4a65c_init_da8c8_8 : decode cJx4a65c_init_da8c8 8 = .ok (.putfield 9, 3) := by decide +kernel
theorem dJx4a65c_init_da8c8_11 : decode cJx4a65c_init_da8c8 11 = .ok (.return_, 1) := by decide +kernel
theorem dJx4a65c_grow_92f84_0 : decode cJx4a65c_grow_92f84 0 = .ok (.aload_n 0, 1) := by decide +kernel
theorem dJx4a65c_grow_92f84_1 : decode cJx4a65c_grow_92f84 1 = .ok (.getfield 9, 3) := by decide +kernel
theorem dJx4a65c_grow_92f84_4 : decode cJx4a65c_grow_92f84 4 = .ok (.arraylength, 1) := by decide +kernel
theorem dJx4a65c_grow_92f84_5 : decode cJx4a65c_grow_92f84 5 = .ok (.istore_n 2, 1) := by decide +kernel
theorem dJx4a65c_grow_92f84_6 : decode cJx4a65c_grow_92f84 6 = .ok (.iload_n 2, 1) := by decide +kernel
theorem dJx4a65c_grow_92f84_7 : decode cJx4a65c_grow_92f84 7 = .ok (.ifCond .gt 13, 3) := by decide +kernel
theorem dJx4a65c_grow_92f84_10 : decode cJx4a65c_grow_92f84 10 = .ok (.aload_n 0, 1) := by decide +kernel
theorem dJx4a65c_grow_92f84_11 : decode cJx4a65c_grow_92f84 11 = .ok (.getfield 9, 3) := by decide +kernel
theorem dJx4a65c_grow_92f84_14 : decode cJx4a65c_grow_92f84 14 = .ok (.getstatic 39, 3) := by decide +kernel
theorem dJx4a65c_grow_92f84_17 : decode cJx4a65c_grow_92f84 17 = .ok (.if_acmp .eq 28, 3) := by decide +kernel
theorem dJx4a65c_grow_92f84_20 : decode cJx4a65c_grow_92f84 20 = .ok (.iload_n 2, 1) := by decide +kernel
theorem dJx4a65c_grow_92f84_21 : decode cJx4a65c_grow_92f84 21 = .ok (.iload_n 1, 1) := by decide +kernel
theorem dJx4a65c_grow_92f84_22 : decode cJx4a65c_grow_92f84 22 = .ok (.iload_n 2, 1) := by decide +kernel
theorem dJx4a65c_grow_92f84_23 : decode cJx4a65c_grow_92f84 23 = .ok (.isub, 1) := by decide +kernel
theorem dJx4a65c_grow_92f84_24 : decode cJx4a65c_grow_92f84 24 = .ok (.iload_n 2, 1) := by decide +kernel
theorem dJx4a65c_grow_92f84_25 : decode cJx4a65c_grow_92f84 25 = .ok (.iconst 1, 1) := by decide +kernel
theorem dJx4a65c_grow_92f84_26 : decode cJx4a65c_grow_92f84 26 = .ok (.ishr, 1) := by decide +kernel
theorem dJx4a65c_grow_92f84_27 : decode cJx4a65c_grow_92f84 27 = .ok (.invokestatic 73, 3) := by decide +kernel
theorem dJx4a65c_grow_92f84_30 : decode cJx4a65c_grow_92f84 30 = .ok (.istore_n 3, 1) := by decide +kernel
theorem dJx4a65c_grow_92f84_31 : decode cJx4a65c_grow_92f84 31 = .ok (.aload_n 0, 1) := by decide +kernel
theorem dJx4a65c_grow_92f84_32 : decode cJx4a65c_grow_92f84 32 = .ok (.aload_n 0, 1) := by decide +kernel
theorem dJx4a65c_grow_92f84_33 : decode cJx4a65c_grow_92f84 33 = .ok (.getfield 9, 3) := by decide +kernel
theorem dJx4a65c_grow_92f84_36 : decode cJx4a65c_grow_92f84 36 = .ok (.iload_n 3, 1) := by decide +kernel
theorem dJx4a65c_grow_92f84_37 : decode cJx4a65c_grow_92f84 37 = .ok (.invokestatic 66, 3) := by decide +kernel
theorem dJx4a65c_grow_92f84_40 : decode cJx4a65c_grow_92f84 40 = .ok (.dup_x1, 1) := by decide +kernel
theorem dJx4a65c_grow_92f84_41 : decode cJx4a65c_grow_92f84 41 = .ok (.putfield 9, 3) := by decide +kernel
theorem dJx4a65c_grow_92f84_44 : decode cJx4a65c_grow_92f84 44 = .ok (.areturn, 1) := by decide +kernel
theorem dJx4a65c_grow_92f84_45 : decode cJx4a65c_grow_92f84 45 = .ok (.aload_n 0, 1) := by decide +kernel
theorem dJx4a65c_grow_92f84_46 : decode cJx4a65c_grow_92f84 46 = .ok (.bipush 10, 2) := by decide +kernel
theorem dJx4a65c_grow_92f84_48 : decode cJx4a65c_grow_92f84 48 = .ok (.iload_n 1, 1) := by decide +kernel
theorem dJx4a65c_grow_92f84_49 : decode cJx4a65c_grow_92f84 49 = .ok (.invokestatic 79, 3) := by decide +kernel
theorem dJx4a65c_grow_92f84_52 : decode cJx4a65c_grow_92f84 52 = .ok (.anewarray 7, 3) := by decide +kernel
theorem dJx4a65c_grow_92f84_55 : decode cJx4a65c_grow_92f84 55 = .ok (.dup_x1, 1) := by decide +kernel
theorem dJx4a65c_grow_92f84_56 : decode cJx4a65c_grow_92f84 56 = .ok (.putfield 9, 3) := by decide +kernel
theorem dJx4a65c_grow_92f84_59 : decode cJx4a65c_grow_92f84 59 = .ok (.areturn, 1) := by decide +kernel
theorem dJx4a65c_grow_d5877_0 : decode cJx4a65c_grow_d5877 0 = .ok (.aload_n 0, 1) := by decide +kernel
theorem dJx4a65c_grow_d5877_1 : decode cJx4a65c_grow_d5877 1 = .ok (.aload_n 0, 1) := by decide +kernel
theorem dJx4a65c_grow_d5877_2 : decode cJx4a65c_grow_d5877 2 = .ok (.getfield 48, 3) := by decide +kernel
theorem dJx4a65c_grow_d5877_5 : decode cJx4a65c_grow_d5877 5 = .ok (.iconst 1, 1) := by decide +kernel
theorem dJx4a65c_grow_d5877_6 : decode cJx4a65c_grow_d5877 6 = .ok (.iadd, 1) := by decide +kernel
theorem dJx4a65c_grow_d5877_7 : decode cJx4a65c_grow_d5877 7 = .ok (.invokevirtual 69, 3) := by decide +kernel
theorem dJx4a65c_grow_d5877_10 : decode cJx4a65c_grow_d5877 10 = .ok (.areturn, 1) := by decide +kernel
theorem dJx4a65c_size_8abf5_0 : decode cJx4a65c_size_8abf5 0 = .ok (.aload_n 0, 1) := by decide +kernel
theorem dJx4a65c_size_8abf5_1 : decode cJx4a65c_size_8abf5 1 = .ok (.getfield 48, 3) := by decide +kernel
theorem dJx4a65c_size_8abf5_4 : decode cJx4a65c_size_8abf5 4 = .ok (.ireturn, 1) := by decide +kernel
theorem dJx4a65c_elementData_915e3_0 : decode cJx4a65c_elementData_915e3 0 = .ok (.aload_n 0, 1) := by decide +kernel
theorem dJx4a65c_elementData_915e3_1 : decode cJx4a65c_elementData_915e3 1 = .ok (.getfield 9, 3) := by decide +kernel
theorem dJx4a65c_elementData_915e3_4 : decode cJx4a65c_elementData_915e3 4 = .ok (.iload_n 1, 1) := by decide +kernel
theorem dJx4a65c_elementData_915e3_5 : decode cJx4a65c_elementData_915e3 5 = .ok (.aaload, 1) := by decide +kernel
theorem dJx4a65c_elementData_915e3_6 : decode cJx4a65c_elementData_915e3 6 = .ok (.areturn, 1) := by decide +kernel
theorem dJx4a65c_get_915e3_0 : decode cJx4a65c_get_915e3 0 = .ok (.iload_n 1, 1) := by decide +kernel
theorem dJx4a65c_get_915e3_1 : decode cJx4a65c_get_915e3 1 = .ok (.aload_n 0, 1) := by decide +kernel
theorem dJx4a65c_get_915e3_2 : decode cJx4a65c_get_915e3 2 = .ok (.getfield 48, 3) := by decide +kernel
theorem dJx4a65c_get_915e3_5 : decode cJx4a65c_get_915e3 5 = .ok (.invokestatic 118, 3) := by decide +kernel
theorem dJx4a65c_get_915e3_8 : decode cJx4a65c_get_915e3 8 = .ok (.pop, 1) := by decide +kernel
theorem dJx4a65c_get_915e3_9 : decode cJx4a65c_get_915e3 9 = .ok (.aload_n 0, 1) := by decide +kernel
theorem dJx4a65c_get_915e3_10 : decode cJx4a65c_get_915e3 10 = .ok (.iload_n 1, 1) := by decide +kernel
theorem dJx4a65c_get_915e3_11 : decode cJx4a65c_get_915e3 11 = .ok (.invokevirtual 123, 3) := by decide +kernel
theorem dJx4a65c_get_915e3_14 : decode cJx4a65c_get_915e3 14 = .ok (.areturn, 1) := by decide +kernel
theorem dJx4a65c_add_72be8_0 : decode cJx4a65c_add_72be8 0 = .ok (.iload_n 3, 1) := by decide +kernel
theorem dJx4a65c_add_72be8_1 : decode cJx4a65c_add_72be8 1 = .ok (.aload_n 2, 1) := by decide +kernel
theorem dJx4a65c_add_72be8_2 : decode cJx4a65c_add_72be8 2 = .ok (.arraylength, 1) := by decide +kernel
theorem dJx4a65c_add_72be8_3 : decode cJx4a65c_add_72be8 3 = .ok (.if_icmp .ne 8, 3) := by decide +kernel
theorem dJx4a65c_add_72be8_6 : decode cJx4a65c_add_72be8 6 = .ok (.aload_n 0, 1) := by decide +kernel
theorem dJx4a65c_add_72be8_7 : decode cJx4a65c_add_72be8 7 = .ok (.invokevirtual 129, 3) := by decide +kernel
theorem dJx4a65c_add_72be8_10 : decode cJx4a65c_add_72be8 10 = .ok (.astore_n 2, 1) := by decide +kernel
theorem dJx4a65c_add_72be8_11 : decode cJx4a65c_add_72be8 11 = .ok (.aload_n 2, 1) := by decide +kernel
theorem dJx4a65c_add_72be8_12 : decode cJx4a65c_add_72be8 12 = .ok (.iload_n 3, 1) := by decide +kernel
theorem dJx4a65c_add_72be8_13 : decode cJx4a65c_add_72be8 13 = .ok (.aload_n 1, 1) := by decide +kernel
theorem dJx4a65c_add_72be8_14 : decode cJx4a65c_add_72be8 14 = .ok (.aastore, 1) := by decide +kernel
theorem dJx4a65c_add_72be8_15 : decode cJx4a65c_add_72be8 15 = .ok (.aload_n 0, 1) := by decide +kernel
theorem dJx4a65c_add_72be8_16 : decode cJx4a65c_add_72be8 16 = .ok (.iload_n 3, 1) := by decide +kernel
theorem dJx4a65c_add_72be8_17 : decode cJx4a65c_add_72be8 17 = .ok (.iconst 1, 1) := by decide +kernel
theorem dJx4a65c_add_72be8_18 : decode cJx4a65c_add_72be8 18 = .ok (.iadd, 1) := by decide +kernel
theorem dJx4a65c_add_72be8_19 : decode cJx4a65c_add_72be8 19 = .ok (.putfield 48, 3) := by decide +kernel
theorem dJx4a65c_add_72be8_22 : decode cJx4a65c_add_72be8 22 = .ok (.return_, 1) := by decide +kernel
theorem dJx4a65c_add_9ea2d_0 : decode cJx4a65c_add_9ea2d 0 = .ok (.aload_n 0, 1) := by decide +kernel
theorem dJx4a65c_add_9ea2d_1 : decode cJx4a65c_add_9ea2d 1 = .ok (.dup, 1) := by decide +kernel
theorem dJx4a65c_add_9ea2d_2 : decode cJx4a65c_add_9ea2d 2 = .ok (.getfield 63, 3) := by decide +kernel
theorem dJx4a65c_add_9ea2d_5 : decode cJx4a65c_add_9ea2d 5 = .ok (.iconst 1, 1) := by decide +kernel
theorem dJx4a65c_add_9ea2d_6 : decode cJx4a65c_add_9ea2d 6 = .ok (.iadd, 1) := by decide +kernel
theorem dJx4a65c_add_9ea2d_7 : decode cJx4a65c_add_9ea2d 7 = .ok (.putfield 63, 3) := by decide +kernel
theorem dJx4a65c_add_9ea2d_10 : decode cJx4a65c_add_9ea2d 10 = .ok (.aload_n 0, 1) := by decide +kernel
theorem dJx4a65c_add_9ea2d_11 : decode cJx4a65c_add_9ea2d 11 = .ok (.aload_n 1, 1) := by decide +kernel
theorem dJx4a65c_add_9ea2d_12 : decode cJx4a65c_add_9ea2d 12 = .ok (.aload_n 0, 1) := by decide +kernel
theorem dJx4a65c_add_9ea2d_13 : decode cJx4a65c_add_9ea2d 13 = .ok (.getfield 9, 3) := by decide +kernel
theorem dJx4a65c_add_9ea2d_16 : decode cJx4a65c_add_9ea2d 16 = .ok (.aload_n 0, 1) := by decide +kernel
theorem dJx4a65c_add_9ea2d_17 : decode cJx4a65c_add_9ea2d 17 = .ok (.getfield 48, 3) := by decide +kernel
theorem dJx4a65c_add_9ea2d_20 : decode cJx4a65c_add_9ea2d 20 = .ok (.invokevirtual 131, 3) := by decide +kernel
theorem dJx4a65c_add_9ea2d_23 : decode cJx4a65c_add_9ea2d 23 = .ok (.iconst 1, 1) := by decide +kernel
theorem dJx4a65c_add_9ea2d_24 : decode cJx4a65c_add_9ea2d 24 = .ok (.ireturn, 1) := by decide +kernel
theorem dJ7_copyOf_1904c_0 : decode cJ7_copyOf_1904c 0 = .ok (.aload_n 0, 1) := by decide +kernel
theorem dJ7_copyOf_1904c_1 : decode cJ7_copyOf_1904c 1 = .ok (.iload_n 1, 1) := by decide +kernel
theorem dJ7_copyOf_1904c_2 : decode cJ7_copyOf_1904c 2 = .ok (.aload_n 0, 1) := by decide +kernel
theorem dJ7_copyOf_1904c_3 : decode cJ7_copyOf_1904c 3 = .ok (.invokevirtual 86, 3) := by decide +kernel
theorem dJ7_copyOf_1904c_6 : decode cJ7_copyOf_1904c 6 = .ok (.invokestatic 300, 3) := by decide +kernel
theorem dJ7_copyOf_1904c_9 : decode cJ7_copyOf_1904c 9 = .ok (.areturn, 1) := by decide +kernel
theorem dJ7_copyOf_6403c_0 : decode cJ7_copyOf_6403c 0 = .ok (.aload_n 2, 1) := by decide +kernel
theorem dJ7_copyOf_6403c_1 : decode cJ7_copyOf_6403c 1 = .ok (.ldc 110, 2) := by decide +kernel
theorem dJ7_copyOf_6403c_3 : decode cJ7_copyOf_6403c 3 = .ok (.if_acmp .ne 10, 3) := by decide +kernel
theorem dJ7_copyOf_6403c_6 : decode cJ7_copyOf_6403c 6 = .ok (.iload_n 1, 1) := by decide +kernel
theorem dJ7_copyOf_6403c_7 : decode cJ7_copyOf_6403c 7 = .ok (.anewarray 2, 3) := by decide +kernel
theorem dJ7_copyOf_6403c_10 : decode cJ7_copyOf_6403c 10 = .ok (.goto 14, 3) := by decide +kernel
theorem dJ7_copyOf_6403c_13 : decode cJ7_copyOf_6403c 13 = .ok (.aload_n 2, 1) := by decide +kernel
theorem dJ7_copyOf_6403c_14 : decode cJ7_copyOf_6403c 14 = .ok (.invokevirtual 90, 3) := by decide +kernel
theorem dJ7_copyOf_6403c_17 : decode cJ7_copyOf_6403c 17 = .ok (.iload_n 1, 1) := by decide +kernel
theorem dJ7_copyOf_6403c_18 : decode cJ7_copyOf_6403c 18 = .ok (.invokestatic 95, 3) := by decide +kernel
theorem dJ7_copyOf_6403c_21 : decode cJ7_copyOf_6403c 21 = .ok (.checkcast 110, 3) := by decide +kernel
theorem dJ7_copyOf_6403c_24 : decode cJ7_copyOf_6403c 24 = .ok (.astore_n 3, 1) := by decide +kernel
theorem dJ7_copyOf_6403c_25 : decode cJ7_copyOf_6403c 25 = .ok (.aload_n 0, 1) := by decide +kernel
theorem dJ7_copyOf_6403c_26 : decode cJ7_copyOf_6403c 26 = .ok (.iconst 0, 1) := by decide +kernel
theorem dJ7_copyOf_6403c_27 : decode cJ7_copyOf_6403c 27 = .ok (.aload_n 3, 1) := by decide +kernel
theorem dJ7_copyOf_6403c_28 : decode cJ7_copyOf_6403c 28 = .ok (.iconst 0, 1) := by decide +kernel
theorem dJ7_copyOf_6403c_29 : decode cJ7_copyOf_6403c 29 = .ok (.aload_n 0, 1) := by decide +kernel
theorem dJ7_copyOf_6403c_30 : decode cJ7_copyOf_6403c 30 = .ok (.arraylength, 1) := by decide +kernel
theorem dJ7_copyOf_6403c_31 : decode cJ7_copyOf_6403c 31 = .ok (.iload_n 1, 1) := by decide +kernel
theorem dJ7_copyOf_6403c_32 : decode cJ7_copyOf_6403c 32 = .ok (.invokestatic 304, 3) := by decide +kernel
theorem dJ7_copyOf_6403c_35 : decode cJ7_copyOf_6403c 35 = .ok (.invokestatic 150, 3) := by decide +kernel
theorem dJ7_copyOf_6403c_38 : decode cJ7_copyOf_6403c 38 = .ok (.aload_n 3, 1) := by decide +kernel
theorem dJ7_copyOf_6403c_39 : decode cJ7_copyOf_6403c 39 = .ok (.areturn, 1) := by decide +kernel
theorem dJ15_checkIndex_7cf53_0 : decode cJ15_checkIndex_7cf53 0 = .ok (.iload_n 0, 1) := by decide +kernel
theorem dJ15_checkIndex_7cf53_1 : decode cJ15_checkIndex_7cf53 1 = .ok (.iload_n 1, 1) := by decide +kernel
theorem dJ15_checkIndex_7cf53_2 : decode cJ15_checkIndex_7cf53 2 = .ok (.aconst_null, 1) := by decide +kernel
theorem dJ15_checkIndex_7cf53_3 : decode cJ15_checkIndex_7cf53 3 = .ok (.invokestatic 105, 3) := by decide +kernel
theorem dJ15_checkIndex_7cf53_6 : decode cJ15_checkIndex_7cf53 6 = .ok (.ireturn, 1) := by decide +kernel
theorem dJ8_newLength_cabcc_0 : decode cJ8_newLength_cabcc 0 = .ok (.iload_n 0, 1) := by decide +kernel
theorem dJ8_newLength_cabcc_1 : decode cJ8_newLength_cabcc 1 = .ok (.iload_n 1, 1) := by decide +kernel
theorem dJ8_newLength_cabcc_2 : decode cJ8_newLength_cabcc 2 = .ok (.iload_n 2, 1) := by decide +kernel
theorem dJ8_newLength_cabcc_3 : decode cJ8_newLength_cabcc 3 = .ok (.invokestatic 194, 3) := by decide +kernel
theorem dJ8_newLength_cabcc_6 : decode cJ8_newLength_cabcc 6 = .ok (.iadd, 1) := by decide +kernel
theorem dJ8_newLength_cabcc_7 : decode cJ8_newLength_cabcc 7 = .ok (.istore_n 3, 1) := by decide +kernel
theorem dJ8_newLength_cabcc_8 : decode cJ8_newLength_cabcc 8 = .ok (.iconst 0, 1) := by decide +kernel
theorem dJ8_newLength_cabcc_9 : decode cJ8_newLength_cabcc 9 = .ok (.iload_n 3, 1) := by decide +kernel
theorem dJ8_newLength_cabcc_10 : decode cJ8_newLength_cabcc 10 = .ok (.if_icmp .ge 11, 3) := by decide +kernel
theorem dJ8_newLength_cabcc_13 : decode cJ8_newLength_cabcc 13 = .ok (.iload_n 3, 1) := by decide +kernel
theorem dJ8_newLength_cabcc_14 : decode cJ8_newLength_cabcc 14 = .ok (.ldc 200, 2) := by decide +kernel
theorem dJ8_newLength_cabcc_16 : decode cJ8_newLength_cabcc 16 = .ok (.if_icmp .gt 5, 3) := by decide +kernel
theorem dJ8_newLength_cabcc_19 : decode cJ8_newLength_cabcc 19 = .ok (.iload_n 3, 1) := by decide +kernel
theorem dJ8_newLength_cabcc_20 : decode cJ8_newLength_cabcc 20 = .ok (.ireturn, 1) := by decide +kernel
theorem dJ8_newLength_cabcc_21 : decode cJ8_newLength_cabcc 21 = .ok (.iload_n 0, 1) := by decide +kernel
theorem dJ8_newLength_cabcc_22 : decode cJ8_newLength_cabcc 22 = .ok (.iload_n 1, 1) := by decide +kernel
theorem dJ8_newLength_cabcc_23 : decode cJ8_newLength_cabcc 23 = .ok (.invokestatic 201, 3) := by decide +kernel
theorem dJ8_newLength_cabcc_26 : decode cJ8_newLength_cabcc 26 = .ok (.ireturn, 1) := by decide +kernel
theorem dJ8_hugeLength_7cf53_0 : decode cJ8_hugeLength_7cf53 0 = .ok (.iload_n 0, 1) := by decide +kernel
theorem dJ8_hugeLength_7cf53_1 : decode cJ8_hugeLength_7cf53 1 = .ok (.iload_n 1, 1) := by decide +kernel
theorem dJ8_hugeLength_7cf53_2 : decode cJ8_hugeLength_7cf53 2 = .ok (.iadd, 1) := by decide +kernel
theorem dJ8_hugeLength_7cf53_3 : decode cJ8_hugeLength_7cf53 3 = .ok (.istore_n 2, 1) := by decide +kernel
theorem dJ8_hugeLength_7cf53_4 : decode cJ8_hugeLength_7cf53 4 = .ok (.iload_n 2, 1) := by decide +kernel
theorem dJ8_hugeLength_7cf53_5 : decode cJ8_hugeLength_7cf53 5 = .ok (.ifCond .ge 44, 3) := by decide +kernel
theorem dJ8_hugeLength_7cf53_8 : decode cJ8_hugeLength_7cf53 8 = .ok (.new 204, 3) := by decide +kernel
theorem dJ8_hugeLength_7cf53_11 : decode cJ8_hugeLength_7cf53 11 = .ok (.dup, 1) := by decide +kernel
theorem dJ8_hugeLength_7cf53_12 : decode cJ8_hugeLength_7cf53 12 = .ok (.new 89, 3) := by decide +kernel
theorem dJ8_hugeLength_7cf53_15 : decode cJ8_hugeLength_7cf53 15 = .ok (.dup, 1) := by decide +kernel
theorem dJ8_hugeLength_7cf53_16 : decode cJ8_hugeLength_7cf53 16 = .ok (.invokespecial 91, 3) := by decide +kernel
theorem dJ8_hugeLength_7cf53_19 : decode cJ8_hugeLength_7cf53 19 = .ok (.ldc 206, 2) := by decide +kernel
theorem dJ8_hugeLength_7cf53_21 : decode cJ8_hugeLength_7cf53 21 = .ok (.invokevirtual 94, 3) := by decide +kernel
theorem dJ8_hugeLength_7cf53_24 : decode cJ8_hugeLength_7cf53 24 = .ok (.iload_n 0, 1) := by decide +kernel
theorem dJ8_hugeLength_7cf53_25 : decode cJ8_hugeLength_7cf53 25 = .ok (.invokevirtual 98, 3) := by decide +kernel
theorem dJ8_hugeLength_7cf53_28 : decode cJ8_hugeLength_7cf53 28 = .ok (.ldc 208, 2) := by decide +kernel
theorem dJ8_hugeLength_7cf53_30 : decode cJ8_hugeLength_7cf53 30 = .ok (.invokevirtual 94, 3) := by decide +kernel
theorem dJ8_hugeLength_7cf53_33 : decode cJ8_hugeLength_7cf53 33 = .ok (.iload_n 1, 1) := by decide +kernel
theorem dJ8_hugeLength_7cf53_34 : decode cJ8_hugeLength_7cf53 34 = .ok (.invokevirtual 98, 3) := by decide +kernel
theorem dJ8_hugeLength_7cf53_37 : decode cJ8_hugeLength_7cf53 37 = .ok (.ldc 210, 2) := by decide +kernel
theorem dJ8_hugeLength_7cf53_39 : decode cJ8_hugeLength_7cf53 39 = .ok (.invokevirtual 94, 3) := by decide +kernel
theorem dJ8_hugeLength_7cf53_42 : decode cJ8_hugeLength_7cf53 42 = .ok (.invokevirtual 101, 3) := by decide +kernel
theorem dJ8_hugeLength_7cf53_45 : decode cJ8_hugeLength_7cf53 45 = .ok (.invokespecial 212, 3) := by decide +kernel
theorem dJ8_hugeLength_7cf53_48 : decode cJ8_hugeLength_7cf53 48 = .ok (.athrow, 1) := by decide +kernel
theorem dJ8_hugeLength_7cf53_49 : decode cJ8_hugeLength_7cf53 49 = .ok (.iload_n 2, 1) := by decide +kernel
theorem dJ8_hugeLength_7cf53_50 : decode cJ8_hugeLength_7cf53 50 = .ok (.ldc 200, 2) := by decide +kernel
theorem dJ8_hugeLength_7cf53_52 : decode cJ8_hugeLength_7cf53 52 = .ok (.if_icmp .gt 6, 3) := by decide +kernel
theorem dJ8_hugeLength_7cf53_55 : decode cJ8_hugeLength_7cf53 55 = .ok (.ldc 200, 2) := by decide +kernel
theorem dJ8_hugeLength_7cf53_57 : decode cJ8_hugeLength_7cf53 57 = .ok (.ireturn, 1) := by decide +kernel
theorem dJ8_hugeLength_7cf53_58 : decode cJ8_hugeLength_7cf53 58 = .ok (.iload_n 2, 1) := by decide +kernel
theorem dJ8_hugeLength_7cf53_59 : decode cJ8_hugeLength_7cf53 59 = .ok (.ireturn, 1) := by decide +kernel
theorem dJ3_checkIndex_8e157_0 : decode cJ3_checkIndex_8e157 0 = .ok (.iload_n 0, 1) := by decide +kernel
theorem dJ3_checkIndex_8e157_1 : decode cJ3_checkIndex_8e157 1 = .ok (.ifCond .lt 8, 3) := by decide +kernel
theorem dJ3_checkIndex_8e157_4 : decode cJ3_checkIndex_8e157 4 = .ok (.iload_n 0, 1) := by decide +kernel
theorem dJ3_checkIndex_8e157_5 : decode cJ3_checkIndex_8e157 5 = .ok (.iload_n 1, 1) := by decide +kernel
theorem dJ3_checkIndex_8e157_6 : decode cJ3_checkIndex_8e157 6 = .ok (.if_icmp .lt 10, 3) := by decide +kernel
theorem dJ3_checkIndex_8e157_9 : decode cJ3_checkIndex_8e157 9 = .ok (.aload_n 2, 1) := by decide +kernel
theorem dJ3_checkIndex_8e157_10 : decode cJ3_checkIndex_8e157 10 = .ok (.iload_n 0, 1) := by decide +kernel
theorem dJ3_checkIndex_8e157_11 : decode cJ3_checkIndex_8e157 11 = .ok (.iload_n 1, 1) := by decide +kernel
theorem dJ3_checkIndex_8e157_12 : decode cJ3_checkIndex_8e157 12 = .ok (.invokestatic 95, 3) := by decide +kernel
theorem dJ3_checkIndex_8e157_15 : decode cJ3_checkIndex_8e157 15 = .ok (.athrow, 1) := by decide +kernel
theorem dJ3_checkIndex_8e157_16 : decode cJ3_checkIndex_8e157 16 = .ok (.iload_n 0, 1) := by decide +kernel
theorem dJ3_checkIndex_8e157_17 : decode cJ3_checkIndex_8e157 17 = .ok (.ireturn, 1) := by decide +kernel
theorem dL_draw_0 : decode cL_draw 0 = .ok (.iload_n 1, 1) := by decide +kernel
theorem dL_draw_1 : decode cL_draw 1 = .ok (.aload_n 0, 1) := by decide +kernel
theorem dL_draw_2 : decode cL_draw 2 = .ok (.arraylength, 1) := by decide +kernel
theorem dL_draw_3 : decode cL_draw 3 = .ok (.if_icmp .ge 12, 3) := by decide +kernel
theorem dL_draw_6 : decode cL_draw 6 = .ok (.aload_n 0, 1) := by decide +kernel
theorem dL_draw_7 : decode cL_draw 7 = .ok (.iload_n 1, 1) := by decide +kernel
theorem dL_draw_8 : decode cL_draw 8 = .ok (.iaload, 1) := by decide +kernel
theorem dL_draw_9 : decode cL_draw 9 = .ok (.ldc 7, 2) := by decide +kernel
theorem dL_draw_11 : decode cL_draw 11 = .ok (.iand, 1) := by decide +kernel
theorem dL_draw_12 : decode cL_draw 12 = .ok (.goto 12, 3) := by decide +kernel
theorem dL_draw_15 : decode cL_draw 15 = .ok (.ldc 8, 2) := by decide +kernel
theorem dL_draw_17 : decode cL_draw 17 = .ok (.iload_n 1, 1) := by decide +kernel
theorem dL_draw_18 : decode cL_draw 18 = .ok (.iconst 2, 1) := by decide +kernel
theorem dL_draw_19 : decode cL_draw 19 = .ok (.iadd, 1) := by decide +kernel
theorem dL_draw_20 : decode cL_draw 20 = .ok (.imul, 1) := by decide +kernel
theorem dL_draw_21 : decode cL_draw 21 = .ok (.ldc 9, 2) := by decide +kernel
theorem dL_draw_23 : decode cL_draw 23 = .ok (.irem, 1) := by decide +kernel
theorem dL_draw_24 : decode cL_draw 24 = .ok (.ireturn, 1) := by decide +kernel
theorem dL_stores_0 : decode cL_stores 0 = .ok (.aload_n 0, 1) := by decide +kernel
theorem dL_stores_1 : decode cL_stores 1 = .ok (.iload_n 1, 1) := by decide +kernel
theorem dL_stores_2 : decode cL_stores 2 = .ok (.iload_n 2, 1) := by decide +kernel
theorem dL_stores_3 : decode cL_stores 3 = .ok (.iload_n 3, 1) := by decide +kernel
theorem dL_stores_4 : decode cL_stores 4 = .ok (.iload 4, 2) := by decide +kernel
theorem dL_stores_6 : decode cL_stores 6 = .ok (.iload 5, 2) := by decide +kernel
theorem dL_stores_8 : decode cL_stores 8 = .ok (.iload 6, 2) := by decide +kernel
theorem dL_stores_10 : decode cL_stores 10 = .ok (.invokevirtual 10, 3) := by decide +kernel
theorem dL_stores_13 : decode cL_stores 13 = .ok (.ireturn, 1) := by decide +kernel
theorem dL_stores_14 : decode cL_stores 14 = .ok (.astore 7, 2) := by decide +kernel
theorem dL_stores_16 : decode cL_stores 16 = .ok (.sipush (-200), 3) := by decide +kernel
theorem dL_stores_19 : decode cL_stores 19 = .ok (.ireturn, 1) := by decide +kernel
theorem dL_stores_20 : decode cL_stores 20 = .ok (.astore 7, 2) := by decide +kernel
theorem dL_stores_22 : decode cL_stores 22 = .ok (.sipush (-300), 3) := by decide +kernel
theorem dL_stores_25 : decode cL_stores 25 = .ok (.ireturn, 1) := by decide +kernel
theorem dL_comes_0 : decode cL_comes 0 = .ok (.aload_n 0, 1) := by decide +kernel
theorem dL_comes_1 : decode cL_comes 1 = .ok (.iload_n 1, 1) := by decide +kernel
theorem dL_comes_2 : decode cL_comes 2 = .ok (.iload_n 2, 1) := by decide +kernel
theorem dL_comes_3 : decode cL_comes 3 = .ok (.iload_n 3, 1) := by decide +kernel
theorem dL_comes_4 : decode cL_comes 4 = .ok (.iload 4, 2) := by decide +kernel
theorem dL_comes_6 : decode cL_comes 6 = .ok (.invokevirtual 20, 3) := by decide +kernel
theorem dL_comes_9 : decode cL_comes 9 = .ok (.ireturn, 1) := by decide +kernel
theorem dL_comes_10 : decode cL_comes 10 = .ok (.astore 5, 2) := by decide +kernel
theorem dL_comes_12 : decode cL_comes 12 = .ok (.sipush (-200), 3) := by decide +kernel
theorem dL_comes_15 : decode cL_comes 15 = .ok (.ireturn, 1) := by decide +kernel
theorem dL_moves_0 : decode cL_moves 0 = .ok (.aload_n 0, 1) := by decide +kernel
theorem dL_moves_1 : decode cL_moves 1 = .ok (.iload_n 1, 1) := by decide +kernel
theorem dL_moves_2 : decode cL_moves 2 = .ok (.iload_n 2, 1) := by decide +kernel
theorem dL_moves_3 : decode cL_moves 3 = .ok (.iload_n 3, 1) := by decide +kernel
theorem dL_moves_4 : decode cL_moves 4 = .ok (.invokevirtual 24, 3) := by decide +kernel
theorem dL_moves_7 : decode cL_moves 7 = .ok (.ireturn, 1) := by decide +kernel
theorem dL_moves_8 : decode cL_moves 8 = .ok (.astore 4, 2) := by decide +kernel
theorem dL_moves_10 : decode cL_moves 10 = .ok (.sipush (-200), 3) := by decide +kernel
theorem dL_moves_13 : decode cL_moves 13 = .ok (.ireturn, 1) := by decide +kernel
theorem dL_moves_14 : decode cL_moves 14 = .ok (.astore 4, 2) := by decide +kernel
theorem dL_moves_16 : decode cL_moves 16 = .ok (.sipush (-300), 3) := by decide +kernel
theorem dL_moves_19 : decode cL_moves 19 = .ok (.ireturn, 1) := by decide +kernel
theorem dL_leaches_0 : decode cL_leaches 0 = .ok (.aload_n 0, 1) := by decide +kernel
theorem dL_leaches_1 : decode cL_leaches 1 = .ok (.iload_n 1, 1) := by decide +kernel
theorem dL_leaches_2 : decode cL_leaches 2 = .ok (.iload_n 2, 1) := by decide +kernel
theorem dL_leaches_3 : decode cL_leaches 3 = .ok (.invokevirtual 28, 3) := by decide +kernel
theorem dL_leaches_6 : decode cL_leaches 6 = .ok (.ireturn, 1) := by decide +kernel
theorem dL_leaches_7 : decode cL_leaches 7 = .ok (.astore_n 3, 1) := by decide +kernel
theorem dL_leaches_8 : decode cL_leaches 8 = .ok (.sipush (-200), 3) := by decide +kernel
theorem dL_leaches_11 : decode cL_leaches 11 = .ok (.ireturn, 1) := by decide +kernel
theorem dL_laws_0 : decode cL_laws 0 = .ok (.aload_n 0, 1) := by decide +kernel
theorem dL_laws_1 : decode cL_laws 1 = .ok (.iload_n 1, 1) := by decide +kernel
theorem dL_laws_2 : decode cL_laws 2 = .ok (.iload_n 2, 1) := by decide +kernel
theorem dL_laws_3 : decode cL_laws 3 = .ok (.iload_n 3, 1) := by decide +kernel
theorem dL_laws_4 : decode cL_laws 4 = .ok (.invokevirtual 32, 3) := by decide +kernel
theorem dL_laws_7 : decode cL_laws 7 = .ok (.ireturn, 1) := by decide +kernel
theorem dL_laws_8 : decode cL_laws 8 = .ok (.astore 4, 2) := by decide +kernel
theorem dL_laws_10 : decode cL_laws 10 = .ok (.sipush (-200), 3) := by decide +kernel
theorem dL_laws_13 : decode cL_laws 13 = .ok (.ireturn, 1) := by decide +kernel
theorem dL_step_0 : decode cL_step 0 = .ok (.aload_n 1, 1) := by decide +kernel
theorem dL_step_1 : decode cL_step 1 = .ok (.iconst 0, 1) := by decide +kernel
theorem dL_step_2 : decode cL_step 2 = .ok (.iaload, 1) := by decide +kernel
theorem dL_step_3 : decode cL_step 3 = .ok (.ifCond .ne 7, 3) := by decide +kernel
theorem dL_step_6 : decode cL_step 6 = .ok (.iconst 0, 1) := by decide +kernel
theorem dL_step_7 : decode cL_step 7 = .ok (.goto 9, 3) := by decide +kernel
theorem dL_step_10 : decode cL_step 10 = .ok (.iload 4, 2) := by decide +kernel
theorem dL_step_12 : decode cL_step 12 = .ok (.aload_n 1, 1) := by decide +kernel
theorem dL_step_13 : decode cL_step 13 = .ok (.iconst 0, 1) := by decide +kernel
theorem dL_step_14 : decode cL_step 14 = .ok (.iaload, 1) := by decide +kernel
theorem dL_step_15 : decode cL_step 15 = .ok (.irem, 1) := by decide +kernel
theorem dL_step_16 : decode cL_step 16 = .ok (.istore 6, 2) := by decide +kernel
theorem dL_step_18 : decode cL_step 18 = .ok (.aload_n 1, 1) := by decide +kernel
theorem dL_step_19 : decode cL_step 19 = .ok (.iconst 1, 1) := by decide +kernel
theorem dL_step_20 : decode cL_step 20 = .ok (.iaload, 1) := by decide +kernel
theorem dL_step_21 : decode cL_step 21 = .ok (.ifCond .ne 7, 3) := by decide +kernel
theorem dL_step_24 : decode cL_step 24 = .ok (.iconst 0, 1) := by decide +kernel
theorem dL_step_25 : decode cL_step 25 = .ok (.goto 9, 3) := by decide +kernel
theorem dL_step_28 : decode cL_step 28 = .ok (.iload 4, 2) := by decide +kernel
theorem dL_step_30 : decode cL_step 30 = .ok (.aload_n 1, 1) := by decide +kernel
theorem dL_step_31 : decode cL_step 31 = .ok (.iconst 1, 1) := by decide +kernel
theorem dL_step_32 : decode cL_step 32 = .ok (.iaload, 1) := by decide +kernel
theorem dL_step_33 : decode cL_step 33 = .ok (.irem, 1) := by decide +kernel
theorem dL_step_34 : decode cL_step 34 = .ok (.istore 7, 2) := by decide +kernel
theorem dL_step_36 : decode cL_step 36 = .ok (.aload_n 1, 1) := by decide +kernel
theorem dL_step_37 : decode cL_step 37 = .ok (.iconst 1, 1) := by decide +kernel
theorem dL_step_38 : decode cL_step 38 = .ok (.iaload, 1) := by decide +kernel
theorem dL_step_39 : decode cL_step 39 = .ok (.ifCond .ne 7, 3) := by decide +kernel
theorem dL_step_42 : decode cL_step 42 = .ok (.iconst 0, 1) := by decide +kernel
theorem dL_step_43 : decode cL_step 43 = .ok (.goto 9, 3) := by decide +kernel
theorem dL_step_46 : decode cL_step 46 = .ok (.iload 5, 2) := by decide +kernel
theorem dL_step_48 : decode cL_step 48 = .ok (.aload_n 1, 1) := by decide +kernel
theorem dL_step_49 : decode cL_step 49 = .ok (.iconst 1, 1) := by decide +kernel
theorem dL_step_50 : decode cL_step 50 = .ok (.iaload, 1) := by decide +kernel
theorem dL_step_51 : decode cL_step 51 = .ok (.irem, 1) := by decide +kernel
theorem dL_step_52 : decode cL_step 52 = .ok (.istore 8, 2) := by decide +kernel
theorem dL_step_54 : decode cL_step 54 = .ok (.aload_n 1, 1) := by decide +kernel
theorem dL_step_55 : decode cL_step 55 = .ok (.iconst 0, 1) := by decide +kernel
theorem dL_step_56 : decode cL_step 56 = .ok (.iaload, 1) := by decide +kernel
theorem dL_step_57 : decode cL_step 57 = .ok (.ifCond .ne 7, 3) := by decide +kernel
theorem dL_step_60 : decode cL_step 60 = .ok (.iconst 0, 1) := by decide +kernel
theorem dL_step_61 : decode cL_step 61 = .ok (.goto 17, 3) := by decide +kernel
theorem dL_step_64 : decode cL_step 64 = .ok (.aload_n 1, 1) := by decide +kernel
theorem dL_step_65 : decode cL_step 65 = .ok (.iconst 1, 1) := by decide +kernel
theorem dL_step_66 : decode cL_step 66 = .ok (.iaload, 1) := by decide +kernel
theorem dL_step_67 : decode cL_step 67 = .ok (.ifCond .ne 7, 3) := by decide +kernel
theorem dL_step_70 : decode cL_step 70 = .ok (.iconst 3, 1) := by decide +kernel
theorem dL_step_71 : decode cL_step 71 = .ok (.goto 7, 3) := by decide +kernel
theorem dL_step_74 : decode cL_step 74 = .ok (.iload_n 3, 1) := by decide +kernel
theorem dL_step_75 : decode cL_step 75 = .ok (.bipush 22, 2) := by decide +kernel
theorem dL_step_77 : decode cL_step 77 = .ok (.irem, 1) := by decide +kernel
theorem dL_step_78 : decode cL_step 78 = .ok (.tableswitch 960 0 15 #[78, 78, 88, 143, 289, 289, 289, 289, 289, 378, 514, 607, 666, 769, 808, 899], 78) := by decide +kernel
theorem dL_step_156 : decode cL_step 156 = .ok (.aload_n 0, 1) := by decide +kernel
theorem dL_step_157 : decode cL_step 157 = .ok (.aload_n 1, 1) := by decide +kernel
theorem dL_step_158 : decode cL_step 158 = .ok (.iload 4, 2) := by decide +kernel
theorem dL_step_160 : decode cL_step 160 = .ok (.iload 5, 2) := by decide +kernel
theorem dL_step_162 : decode cL_step 162 = .ok (.invokestatic 35, 3) := by decide +kernel
theorem dL_step_165 : decode cL_step 165 = .ok (.ireturn, 1) := by decide +kernel
theorem dL_step_166 : decode cL_step 166 = .ok (.aload_n 0, 1) := by decide +kernel
theorem dL_step_167 : decode cL_step 167 = .ok (.iload 6, 2) := by decide +kernel
theorem dL_step_169 : decode cL_step 169 = .ok (.iload 5, 2) := by decide +kernel
theorem dL_step_171 : decode cL_step 171 = .ok (.bipush 101, 2) := by decide +kernel
theorem dL_step_173 : decode cL_step 173 = .ok (.irem, 1) := by decide +kernel
theorem dL_step_174 : decode cL_step 174 = .ok (.iload 5, 2) := by decide +kernel
theorem dL_step_176 : decode cL_step 176 = .ok (.bipush 101, 2) := by decide +kernel
theorem dL_step_178 : decode cL_step 178 = .ok (.idiv, 1) := by decide +kernel
theorem dL_step_179 : decode cL_step 179 = .ok (.sipush 1001, 3) := by decide +kernel
theorem dL_step_182 : decode cL_step 182 = .ok (.irem, 1) := by decide +kernel
theorem dL_step_183 : decode cL_step 183 = .ok (.invokevirtual 41, 3) := by decide +kernel
theorem dL_step_186 : decode cL_step 186 = .ok (.istore 9, 2) := by decide +kernel
theorem dL_step_188 : decode cL_step 188 = .ok (.iload 9, 2) := by decide +kernel
theorem dL_step_190 : decode cL_step 190 = .ok (.ifCond .lt 29, 3) := by decide +kernel
theorem dL_step_193 : decode cL_step 193 = .ok (.iload 9, 2) := by decide +kernel
theorem dL_step_195 : decode cL_step 195 = .ok (.aload_n 0, 1) := by decide +kernel
theorem dL_step_196 : decode cL_step 196 = .ok (.iload 6, 2) := by decide +kernel
theorem dL_step_198 : decode cL_step 198 = .ok (.iconst 0, 1) := by decide +kernel
theorem dL_step_199 : decode cL_step 199 = .ok (.invokevirtual 44, 3) := by decide +kernel
theorem dL_step_202 : decode cL_step 202 = .ok (.if_icmp .ne 17, 3) := by decide +kernel
theorem dL_step_205 : decode cL_step 205 = .ok (.aload_n 0, 1) := by decide +kernel
theorem dL_step_206 : decode cL_step 206 = .ok (.iload 6, 2) := by decide +kernel
theorem dL_step_208 : decode cL_step 208 = .ok (.iconst 1, 1) := by decide +kernel
theorem dL_step_209 : decode cL_step 209 = .ok (.invokevirtual 44, 3) := by decide +kernel
theorem dL_step_212 : decode cL_step 212 = .ok (.ifCond .lt 7, 3) := by decide +kernel
theorem dL_step_215 : decode cL_step 215 = .ok (.iconst 1, 1) := by decide +kernel
theorem dL_step_216 : decode cL_step 216 = .ok (.goto 4, 3) := by decide +kernel
theorem dL_step_219 : decode cL_step 219 = .ok (.iconst 0, 1) := by decide +kernel
theorem dL_step_220 : decode cL_step 220 = .ok (.ireturn, 1) := by decide +kernel
theorem dL_step_221 : decode cL_step 221 = .ok (.aload_n 0, 1) := by decide +kernel
theorem dL_step_222 : decode cL_step 222 = .ok (.iconst 1, 1) := by decide +kernel
theorem dL_step_223 : decode cL_step 223 = .ok (.iload 4, 2) := by decide +kernel
theorem dL_step_225 : decode cL_step 225 = .ok (.ldc 48, 2) := by decide +kernel
theorem dL_step_227 : decode cL_step 227 = .ok (.irem, 1) := by decide +kernel
theorem dL_step_228 : decode cL_step 228 = .ok (.iadd, 1) := by decide +kernel
theorem dL_step_229 : decode cL_step 229 = .ok (.iload 5, 2) := by decide +kernel
theorem dL_step_231 : decode cL_step 231 = .ok (.sipush 5001, 3) := by decide +kernel
theorem dL_step_234 : decode cL_step 234 = .ok (.irem, 1) := by decide +kernel
theorem dL_step_235 : decode cL_step 235 = .ok (.iload 5, 2) := by decide +kernel
theorem dL_step_237 : decode cL_step 237 = .ok (.sipush 5001, 3) := by decide +kernel
theorem dL_step_240 : decode cL_step 240 = .ok (.idiv, 1) := by decide +kernel
theorem dL_step_241 : decode cL_step 241 = .ok (.sipush 5001, 3) := by decide +kernel
theorem dL_step_244 : decode cL_step 244 = .ok (.irem, 1) := by decide +kernel
theorem dL_step_245 : decode cL_step 245 = .ok (.iload 4, 2) := by decide +kernel
theorem dL_step_247 : decode cL_step 247 = .ok (.bipush 7, 2) := by decide +kernel
theorem dL_step_249 : decode cL_step 249 = .ok (.idiv, 1) := by decide +kernel
theorem dL_step_250 : decode cL_step 250 = .ok (.iconst 4, 1) := by decide +kernel
theorem dL_step_251 : decode cL_step 251 = .ok (.irem, 1) := by decide +kernel
theorem dL_step_252 : decode cL_step 252 = .ok (.invokestatic 49, 3) := by decide +kernel
theorem dL_step_255 : decode cL_step 255 = .ok (.istore 10, 2) := by decide +kernel
theorem dL_step_257 : decode cL_step 257 = .ok (.aload_n 1, 1) := by decide +kernel
theorem dL_step_258 : decode cL_step 258 = .ok (.iconst 1, 1) := by decide +kernel
theorem dL_step_259 : decode cL_step 259 = .ok (.dup2, 1) := by decide +kernel
theorem dL_step_260 : decode cL_step 260 = .ok (.iaload, 1) := by decide +kernel
theorem dL_step_261 : decode cL_step 261 = .ok (.iload 10, 2) := by decide +kernel
theorem dL_step_263 : decode cL_step 263 = .ok (.ifCond .ge 7, 3) := by decide +kernel
theorem dL_step_266 : decode cL_step 266 = .ok (.iconst 0, 1) := by decide +kernel
theorem dL_step_267 : decode cL_step 267 = .ok (.goto 4, 3) := by decide +kernel
theorem dL_step_270 : decode cL_step 270 = .ok (.iconst 1, 1) := by decide +kernel
theorem dL_step_271 : decode cL_step 271 = .ok (.iadd, 1) := by decide +kernel
theorem dL_step_272 : decode cL_step 272 = .ok (.iastore, 1) := by decide +kernel
theorem dL_step_273 : decode cL_step 273 = .ok (.iload 10, 2) := by decide +kernel
theorem dL_step_275 : decode cL_step 275 = .ok (.sipush (-200), 3) := by decide +kernel
theorem dL_step_278 : decode cL_step 278 = .ok (.if_icmp .ne 19, 3) := by decide +kernel
theorem dL_step_281 : decode cL_step 281 = .ok (.aload_n 1, 1) := by decide +kernel
theorem dL_step_282 : decode cL_step 282 = .ok (.iconst 1, 1) := by decide +kernel
theorem dL_step_283 : decode cL_step 283 = .ok (.iaload, 1) := by decide +kernel
theorem dL_step_284 : decode cL_step 284 = .ok (.bipush 6, 2) := by decide +kernel
theorem dL_step_286 : decode cL_step 286 = .ok (.if_icmp .ne 7, 3) := by decide +kernel
theorem dL_step_289 : decode cL_step 289 = .ok (.iconst 1, 1) := by decide +kernel
theorem dL_step_290 : decode cL_step 290 = .ok (.goto 76, 3) := by decide +kernel
theorem dL_step_293 : decode cL_step 293 = .ok (.iconst 0, 1) := by decide +kernel
theorem dL_step_294 : decode cL_step 294 = .ok (.goto 72, 3) := by decide +kernel
theorem dL_step_297 : decode cL_step 297 = .ok (.iload 10, 2) := by decide +kernel
theorem dL_step_299 : decode cL_step 299 = .ok (.aload_n 1, 1) := by decide +kernel
theorem dL_step_300 : decode cL_step 300 = .ok (.iconst 1, 1) := by decide +kernel
theorem dL_step_301 : decode cL_step 301 = .ok (.iaload, 1) := by decide +kernel
theorem dL_step_302 : decode cL_step 302 = .ok (.iconst 1, 1) := by decide +kernel
theorem dL_step_303 : decode cL_step 303 = .ok (.isub, 1) := by decide +kernel
theorem dL_step_304 : decode cL_step 304 = .ok (.if_icmp .ne 61, 3) := by decide +kernel
theorem dL_step_307 : decode cL_step 307 = .ok (.aload_n 0, 1) := by decide +kernel
theorem dL_step_308 : decode cL_step 308 = .ok (.iload 10, 2) := by decide +kernel
theorem dL_step_310 : decode cL_step 310 = .ok (.iconst 0, 1) := by decide +kernel
theorem dL_step_311 : decode cL_step 311 = .ok (.invokevirtual 53, 3) := by decide +kernel
theorem dL_step_314 : decode cL_step 314 = .ok (.lconst 0, 1) := by decide +kernel
theorem dL_step_315 : decode cL_step 315 = .ok (.lcmp, 1) := by decide +kernel
theorem dL_step_316 : decode cL_step 316 = .ok (.ifCond .ne 49, 3) := by decide +kernel
theorem dL_step_319 : decode cL_step 319 = .ok (.aload_n 0, 1) := by decide +kernel
theorem dL_step_320 : decode cL_step 320 = .ok (.iload 10, 2) := by decide +kernel
theorem dL_step_322 : decode cL_step 322 = .ok (.iconst 1, 1) := by decide +kernel
theorem dL_step_323 : decode cL_step 323 = .ok (.invokevirtual 53, 3) := by decide +kernel
theorem dL_step_326 : decode cL_step 326 = .ok (.iload 5, 2) := by decide +kernel
theorem dL_step_328 : decode cL_step 328 = .ok (.sipush 5001, 3) := by decide +kernel
theorem dL_step_331 : decode cL_step 331 = .ok (.irem, 1) := by decide +kernel
theorem dL_step_332 : decode cL_step 332 = .ok (.i2l, 1) := by decide +kernel
theorem dL_step_333 : decode cL_step 333 = .ok (.lcmp, 1) := by decide +kernel
theorem dL_step_334 : decode cL_step 334 = .ok (.ifCond .ne 31, 3) := by decide +kernel
theorem dL_step_337 : decode cL_step 337 = .ok (.aload_n 0, 1) := by decide +kernel
theorem dL_step_338 : decode cL_step 338 = .ok (.iload 10, 2) := by decide +kernel
theorem dL_step_340 : decode cL_step 340 = .ok (.iconst 2, 1) := by decide +kernel
theorem dL_step_341 : decode cL_step 341 = .ok (.invokevirtual 53, 3) := by decide +kernel
theorem dL_step_344 : decode cL_step 344 = .ok (.iload 5, 2) := by decide +kernel
theorem dL_step_346 : decode cL_step 346 = .ok (.sipush 5001, 3) := by decide +kernel
theorem dL_step_349 : decode cL_step 349 = .ok (.idiv, 1) := by decide +kernel
theorem dL_step_350 : decode cL_step 350 = .ok (.sipush 5001, 3) := by decide +kernel
theorem dL_step_353 : decode cL_step 353 = .ok (.irem, 1) := by decide +kernel
theorem dL_step_354 : decode cL_step 354 = .ok (.iconst 2, 1) := by decide +kernel
theorem dL_step_355 : decode cL_step 355 = .ok (.idiv, 1) := by decide +kernel
theorem dL_step_356 : decode cL_step 356 = .ok (.i2l, 1) := by decide +kernel
theorem dL_step_357 : decode cL_step 357 = .ok (.lcmp, 1) := by decide +kernel
theorem dL_step_358 : decode cL_step 358 = .ok (.ifCond .ne 7, 3) := by decide +kernel
theorem dL_step_361 : decode cL_step 361 = .ok (.iconst 1, 1) := by decide +kernel
theorem dL_step_362 : decode cL_step 362 = .ok (.goto 4, 3) := by decide +kernel
theorem dL_step_365 : decode cL_step 365 = .ok (.iconst 0, 1) := by decide +kernel
theorem dL_step_366 : decode cL_step 366 = .ok (.ireturn, 1) := by decide +kernel
theorem dL_step_367 : decode cL_step 367 = .ok (.bipush 8, 2) := by decide +kernel
theorem dL_step_369 : decode cL_step 369 = .ok (.iload 7, 2) := by decide +kernel
theorem dL_step_371 : decode cL_step 371 = .ok (.imul, 1) := by decide +kernel
theorem dL_step_372 : decode cL_step 372 = .ok (.aload_n 1, 1) := by decide +kernel
theorem dL_step_373 : decode cL_step 373 = .ok (.iconst 3, 1) := by decide +kernel
theorem dL_step_374 : decode cL_step 374 = .ok (.iaload, 1) := by decide +kernel
theorem dL_step_375 : decode cL_step 375 = .ok (.iconst 2, 1) := by decide +kernel
theorem dL_step_376 : decode cL_step 376 = .ok (.iadd, 1) := by decide +kernel
theorem dL_step_377 : decode cL_step 377 = .ok (.iload 5, 2) := by decide +kernel
theorem dL_step_379 : decode cL_step 379 = .ok (.iconst 5, 1) := by decide +kernel
theorem dL_step_380 : decode cL_step 380 = .ok (.irem, 1) := by decide +kernel
theorem dL_step_381 : decode cL_step 381 = .ok (.iadd, 1) := by decide +kernel
theorem dL_step_382 : decode cL_step 382 = .ok (.bipush 8, 2) := by decide +kernel
theorem dL_step_384 : decode cL_step 384 = .ok (.irem, 1) := by decide +kernel
theorem dL_step_385 : decode cL_step 385 = .ok (.iadd, 1) := by decide +kernel
theorem dL_step_386 : decode cL_step 386 = .ok (.istore 11, 2) := by decide +kernel
theorem dL_step_388 : decode cL_step 388 = .ok (.aload_n 2, 1) := by decide +kernel
theorem dL_step_389 : decode cL_step 389 = .ok (.iload 11, 2) := by decide +kernel
theorem dL_step_391 : decode cL_step 391 = .ok (.iaload, 1) := by decide +kernel
theorem dL_step_392 : decode cL_step 392 = .ok (.istore 12, 2) := by decide +kernel
theorem dL_step_394 : decode cL_step 394 = .ok (.aload_n 2, 1) := by decide +kernel
theorem dL_step_395 : decode cL_step 395 = .ok (.iload 11, 2) := by decide +kernel
theorem dL_step_397 : decode cL_step 397 = .ok (.iload 4, 2) := by decide +kernel
theorem dL_step_399 : decode cL_step 399 = .ok (.iconst 4, 1) := by decide +kernel
theorem dL_step_400 : decode cL_step 400 = .ok (.irem, 1) := by decide +kernel
theorem dL_step_401 : decode cL_step 401 = .ok (.ifCond .ne 15, 3) := by decide +kernel
theorem dL_step_404 : decode cL_step 404 = .ok (.iload 5, 2) := by decide +kernel
theorem dL_step_406 : decode cL_step 406 = .ok (.iconst 5, 1) := by decide +kernel
theorem dL_step_407 : decode cL_step 407 = .ok (.idiv, 1) := by decide +kernel
theorem dL_step_408 : decode cL_step 408 = .ok (.sipush 9000, 3) := by decide +kernel
theorem dL_step_411 : decode cL_step 411 = .ok (.irem, 1) := by decide +kernel
theorem dL_step_412 : decode cL_step 412 = .ok (.ineg, 1) := by decide +kernel
theorem dL_step_413 : decode cL_step 413 = .ok (.goto 11, 3) := by decide +kernel
theorem dL_step_416 : decode cL_step 416 = .ok (.iload 5, 2) := by decide +kernel
theorem dL_step_418 : decode cL_step 418 = .ok (.iconst 5, 1) := by decide +kernel
theorem dL_step_419 : decode cL_step 419 = .ok (.idiv, 1) := by decide +kernel
theorem dL_step_420 : decode cL_step 420 = .ok (.sipush 9000, 3) := by decide +kernel
theorem dL_step_423 : decode cL_step 423 = .ok (.irem, 1) := by decide +kernel
theorem dL_step_424 : decode cL_step 424 = .ok (.iastore, 1) := by decide +kernel
theorem dL_step_425 : decode cL_step 425 = .ok (.aload_n 0, 1) := by decide +kernel
theorem dL_step_426 : decode cL_step 426 = .ok (.iload 7, 2) := by decide +kernel
theorem dL_step_428 : decode cL_step 428 = .ok (.aload_n 1, 1) := by decide +kernel
theorem dL_step_429 : decode cL_step 429 = .ok (.iconst 3, 1) := by decide +kernel
theorem dL_step_430 : decode cL_step 430 = .ok (.iaload, 1) := by decide +kernel
theorem dL_step_431 : decode cL_step 431 = .ok (.iconst 2, 1) := by decide +kernel
theorem dL_step_432 : decode cL_step 432 = .ok (.iadd, 1) := by decide +kernel
theorem dL_step_433 : decode cL_step 433 = .ok (.iload 5, 2) := by decide +kernel
theorem dL_step_435 : decode cL_step 435 = .ok (.iconst 5, 1) := by decide +kernel
theorem dL_step_436 : decode cL_step 436 = .ok (.irem, 1) := by decide +kernel
theorem dL_step_437 : decode cL_step 437 = .ok (.iadd, 1) := by decide +kernel
theorem dL_step_438 : decode cL_step 438 = .ok (.aload_n 2, 1) := by decide +kernel
theorem dL_step_439 : decode cL_step 439 = .ok (.iload 11, 2) := by decide +kernel
theorem dL_step_441 : decode cL_step 441 = .ok (.iaload, 1) := by decide +kernel
theorem dL_step_442 : decode cL_step 442 = .ok (.invokevirtual 57, 3) := by decide +kernel
theorem dL_step_445 : decode cL_step 445 = .ok (.iload 12, 2) := by decide +kernel
theorem dL_step_447 : decode cL_step 447 = .ok (.if_icmp .ne 7, 3) := by decide +kernel
theorem dL_step_450 : decode cL_step 450 = .ok (.iconst 1, 1) := by decide +kernel
theorem dL_step_451 : decode cL_step 451 = .ok (.goto 4, 3) := by decide +kernel
theorem dL_step_454 : decode cL_step 454 = .ok (.iconst 0, 1) := by decide +kernel
theorem dL_step_455 : decode cL_step 455 = .ok (.ireturn, 1) := by decide +kernel
theorem dL_step_456 : decode cL_step 456 = .ok (.aload_n 0, 1) := by decide +kernel
theorem dL_step_457 : decode cL_step 457 = .ok (.iload 7, 2) := by decide +kernel
theorem dL_step_459 : decode cL_step 459 = .ok (.iconst 0, 1) := by decide +kernel
theorem dL_step_460 : decode cL_step 460 = .ok (.invokevirtual 53, 3) := by decide +kernel
theorem dL_step_463 : decode cL_step 463 = .ok (.lstore 13, 2) := by decide +kernel
theorem dL_step_465 : decode cL_step 465 = .ok (.aload_n 0, 1) := by decide +kernel
theorem dL_step_466 : decode cL_step 466 = .ok (.iload 8, 2) := by decide +kernel
theorem dL_step_468 : decode cL_step 468 = .ok (.iconst 0, 1) := by decide +kernel
theorem dL_step_469 : decode cL_step 469 = .ok (.invokevirtual 53, 3) := by decide +kernel
theorem dL_step_472 : decode cL_step 472 = .ok (.lstore 15, 2) := by decide +kernel
theorem dL_step_474 : decode cL_step 474 = .ok (.aload_n 0, 1) := by decide +kernel
theorem dL_step_475 : decode cL_step 475 = .ok (.iload 7, 2) := by decide +kernel
theorem dL_step_477 : decode cL_step 477 = .ok (.iload 8, 2) := by decide +kernel
theorem dL_step_479 : decode cL_step 479 = .ok (.iconst 1, 1) := by decide +kernel
theorem dL_step_480 : decode cL_step 480 = .ok (.iload 5, 2) := by decide +kernel
theorem dL_step_482 : decode cL_step 482 = .ok (.sipush 3000, 3) := by decide +kernel
theorem dL_step_485 : decode cL_step 485 = .ok (.irem, 1) := by decide +kernel
theorem dL_step_486 : decode cL_step 486 = .ok (.iadd, 1) := by decide +kernel
theorem dL_step_487 : decode cL_step 487 = .ok (.invokestatic 60, 3) := by decide +kernel
theorem dL_step_490 : decode cL_step 490 = .ok (.istore 17, 2) := by decide +kernel
theorem dL_step_492 : decode cL_step 492 = .ok (.iload 17, 2) := by decide +kernel
theorem dL_step_494 : decode cL_step 494 = .ok (.sipush (-300), 3) := by decide +kernel
theorem dL_step_497 : decode cL_step 497 = .ok (.if_icmp .ne 18, 3) := by decide +kernel
theorem dL_step_500 : decode cL_step 500 = .ok (.iload 7, 2) := by decide +kernel
theorem dL_step_502 : decode cL_step 502 = .ok (.iload 8, 2) := by decide +kernel
theorem dL_step_504 : decode cL_step 504 = .ok (.if_icmp .ne 7, 3) := by decide +kernel
theorem dL_step_507 : decode cL_step 507 = .ok (.iconst 1, 1) := by decide +kernel
theorem dL_step_508 : decode cL_step 508 = .ok (.goto 83, 3) := by decide +kernel
theorem dL_step_511 : decode cL_step 511 = .ok (.iconst 0, 1) := by decide +kernel
theorem dL_step_512 : decode cL_step 512 = .ok (.goto 79, 3) := by decide +kernel
theorem dL_step_515 : decode cL_step 515 = .ok (.iload 17, 2) := by decide +kernel
theorem dL_step_517 : decode cL_step 517 = .ok (.sipush (-200), 3) := by decide +kernel
theorem dL_step_520 : decode cL_step 520 = .ok (.if_icmp .ne 24, 3) := by decide +kernel
theorem dL_step_523 : decode cL_step 523 = .ok (.aload_n 0, 1) := by decide +kernel
theorem dL_step_524 : decode cL_step 524 = .ok (.iload 7, 2) := by decide +kernel
theorem dL_step_526 : decode cL_step 526 = .ok (.iconst 0, 1) := by decide +kernel
theorem dL_step_527 : decode cL_step 527 = .ok (.invokevirtual 53, 3) := by decide +kernel
theorem dL_step_530 : decode cL_step 530 = .ok (.lload 13, 2) := by decide +kernel
theorem dL_step_532 : decode cL_step 532 = .ok (.lcmp, 1) := by decide +kernel
theorem dL_step_533 : decode cL_step 533 = .ok (.ifCond .ne 7, 3) := by decide +kernel
theorem dL_step_536 : decode cL_step 536 = .ok (.iconst 1, 1) := by decide +kernel
theorem dL_step_537 : decode cL_step 537 = .ok (.goto 54, 3) := by decide +kernel
theorem dL_step_540 : decode cL_step 540 = .ok (.iconst 0, 1) := by decide +kernel
theorem dL_step_541 : decode cL_step 541 = .ok (.goto 50, 3) := by decide +kernel
theorem dL_step_544 : decode cL_step 544 = .ok (.iload 17, 2) := by decide +kernel
theorem dL_step_546 : decode cL_step 546 = .ok (.i2l, 1) := by decide +kernel
theorem dL_step_547 : decode cL_step 547 = .ok (.lload 15, 2) := by decide +kernel
theorem dL_step_549 : decode cL_step 549 = .ok (.lconst 1, 1) := by decide +kernel
theorem dL_step_550 : decode cL_step 550 = .ok (.ladd, 1) := by decide +kernel
theorem dL_step_551 : decode cL_step 551 = .ok (.iload 5, 2) := by decide +kernel
theorem dL_step_553 : decode cL_step 553 = .ok (.sipush 3000, 3) := by decide +kernel
theorem dL_step_556 : decode cL_step 556 = .ok (.irem, 1) := by decide +kernel
theorem dL_step_557 : decode cL_step 557 = .ok (.i2l, 1) := by decide +kernel
theorem dL_step_558 : decode cL_step 558 = .ok (.ladd, 1) := by decide +kernel
theorem dL_step_559 : decode cL_step 559 = .ok (.lcmp, 1) := by decide +kernel
theorem dL_step_560 : decode cL_step 560 = .ok (.ifCond .ne 30, 3) := by decide +kernel
theorem dL_step_563 : decode cL_step 563 = .ok (.aload_n 0, 1) := by decide +kernel
theorem dL_step_564 : decode cL_step 564 = .ok (.iload 7, 2) := by decide +kernel
theorem dL_step_566 : decode cL_step 566 = .ok (.iconst 0, 1) := by decide +kernel
theorem dL_step_567 : decode cL_step 567 = .ok (.invokevirtual 53, 3) := by decide +kernel
theorem dL_step_570 : decode cL_step 570 = .ok (.lload 13, 2) := by decide +kernel
theorem dL_step_572 : decode cL_step 572 = .ok (.lconst 1, 1) := by decide +kernel
theorem dL_step_573 : decode cL_step 573 = .ok (.lsub, 1) := by decide +kernel
theorem dL_step_574 : decode cL_step 574 = .ok (.iload 5, 2) := by decide +kernel
theorem dL_step_576 : decode cL_step 576 = .ok (.sipush 3000, 3) := by decide +kernel
theorem dL_step_579 : decode cL_step 579 = .ok (.irem, 1) := by decide +kernel
theorem dL_step_580 : decode cL_step 580 = .ok (.i2l, 1) := by decide +kernel
theorem dL_step_581 : decode cL_step 581 = .ok (.lsub, 1) := by decide +kernel
theorem dL_step_582 : decode cL_step 582 = .ok (.lcmp, 1) := by decide +kernel
theorem dL_step_583 : decode cL_step 583 = .ok (.ifCond .ne 7, 3) := by decide +kernel
theorem dL_step_586 : decode cL_step 586 = .ok (.iconst 1, 1) := by decide +kernel
theorem dL_step_587 : decode cL_step 587 = .ok (.goto 4, 3) := by decide +kernel
theorem dL_step_590 : decode cL_step 590 = .ok (.iconst 0, 1) := by decide +kernel
theorem dL_step_591 : decode cL_step 591 = .ok (.ireturn, 1) := by decide +kernel
theorem dL_step_592 : decode cL_step 592 = .ok (.aload_n 0, 1) := by decide +kernel
theorem dL_step_593 : decode cL_step 593 = .ok (.aload_n 1, 1) := by decide +kernel
theorem dL_step_594 : decode cL_step 594 = .ok (.iconst 3, 1) := by decide +kernel
theorem dL_step_595 : decode cL_step 595 = .ok (.iaload, 1) := by decide +kernel
theorem dL_step_596 : decode cL_step 596 = .ok (.iload 4, 2) := by decide +kernel
theorem dL_step_598 : decode cL_step 598 = .ok (.bipush 6, 2) := by decide +kernel
theorem dL_step_600 : decode cL_step 600 = .ok (.irem, 1) := by decide +kernel
theorem dL_step_601 : decode cL_step 601 = .ok (.iadd, 1) := by decide +kernel
theorem dL_step_602 : decode cL_step 602 = .ok (.aload_n 1, 1) := by decide +kernel
theorem dL_step_603 : decode cL_step 603 = .ok (.iconst 3, 1) := by decide +kernel
theorem dL_step_604 : decode cL_step 604 = .ok (.iaload, 1) := by decide +kernel
theorem dL_step_605 : decode cL_step 605 = .ok (.iload 4, 2) := by decide +kernel
theorem dL_step_607 : decode cL_step 607 = .ok (.bipush 6, 2) := by decide +kernel
theorem dL_step_609 : decode cL_step 609 = .ok (.irem, 1) := by decide +kernel
theorem dL_step_610 : decode cL_step 610 = .ok (.iadd, 1) := by decide +kernel
theorem dL_step_611 : decode cL_step 611 = .ok (.iload 5, 2) := by decide +kernel
theorem dL_step_613 : decode cL_step 613 = .ok (.bipush 30, 2) := by decide +kernel
theorem dL_step_615 : decode cL_step 615 = .ok (.irem, 1) := by decide +kernel
theorem dL_step_616 : decode cL_step 616 = .ok (.iadd, 1) := by decide +kernel
theorem dL_step_617 : decode cL_step 617 = .ok (.iload 5, 2) := by decide +kernel
theorem dL_step_619 : decode cL_step 619 = .ok (.bipush 30, 2) := by decide +kernel
theorem dL_step_621 : decode cL_step 621 = .ok (.idiv, 1) := by decide +kernel
theorem dL_step_622 : decode cL_step 622 = .ok (.sipush 20000, 3) := by decide +kernel
theorem dL_step_625 : decode cL_step 625 = .ok (.irem, 1) := by decide +kernel
theorem dL_step_626 : decode cL_step 626 = .ok (.invokestatic 64, 3) := by decide +kernel
theorem dL_step_629 : decode cL_step 629 = .ok (.istore 18, 2) := by decide +kernel
theorem dL_step_631 : decode cL_step 631 = .ok (.aload_n 1, 1) := by decide +kernel
theorem dL_step_632 : decode cL_step 632 = .ok (.iconst 2, 1) := by decide +kernel
theorem dL_step_633 : decode cL_step 633 = .ok (.dup2, 1) := by decide +kernel
theorem dL_step_634 : decode cL_step 634 = .ok (.iaload, 1) := by decide +kernel
theorem dL_step_635 : decode cL_step 635 = .ok (.iload 18, 2) := by decide +kernel
theorem dL_step_637 : decode cL_step 637 = .ok (.ifCond .ge 7, 3) := by decide +kernel
theorem dL_step_640 : decode cL_step 640 = .ok (.iconst 0, 1) := by decide +kernel
theorem dL_step_641 : decode cL_step 641 = .ok (.goto 4, 3) := by decide +kernel
theorem dL_step_644 : decode cL_step 644 = .ok (.iconst 1, 1) := by decide +kernel
theorem dL_step_645 : decode cL_step 645 = .ok (.iadd, 1) := by decide +kernel
theorem dL_step_646 : decode cL_step 646 = .ok (.iastore, 1) := by decide +kernel
theorem dL_step_647 : decode cL_step 647 = .ok (.iload 18, 2) := by decide +kernel
theorem dL_step_649 : decode cL_step 649 = .ok (.sipush (-200), 3) := by decide +kernel
theorem dL_step_652 : decode cL_step 652 = .ok (.if_icmp .ne 19, 3) := by decide +kernel
theorem dL_step_655 : decode cL_step 655 = .ok (.aload_n 1, 1) := by decide +kernel
theorem dL_step_656 : decode cL_step 656 = .ok (.iconst 2, 1) := by decide +kernel
theorem dL_step_657 : decode cL_step 657 = .ok (.iaload, 1) := by decide +kernel
theorem dL_step_658 : decode cL_step 658 = .ok (.bipush 20, 2) := by decide +kernel
theorem dL_step_660 : decode cL_step 660 = .ok (.if_icmp .ne 7, 3) := by decide +kernel
theorem dL_step_663 : decode cL_step 663 = .ok (.iconst 1, 1) := by decide +kernel
theorem dL_step_664 : decode cL_step 664 = .ok (.goto 20, 3) := by decide +kernel
theorem dL_step_667 : decode cL_step 667 = .ok (.iconst 0, 1) := by decide +kernel
theorem dL_step_668 : decode cL_step 668 = .ok (.goto 16, 3) := by decide +kernel
theorem dL_step_671 : decode cL_step 671 = .ok (.iload 18, 2) := by decide +kernel
theorem dL_step_673 : decode cL_step 673 = .ok (.aload_n 1, 1) := by decide +kernel
theorem dL_step_674 : decode cL_step 674 = .ok (.iconst 2, 1) := by decide +kernel
theorem dL_step_675 : decode cL_step 675 = .ok (.iaload, 1) := by decide +kernel
theorem dL_step_676 : decode cL_step 676 = .ok (.if_icmp .ne 7, 3) := by decide +kernel
theorem dL_step_679 : decode cL_step 679 = .ok (.iconst 1, 1) := by decide +kernel
theorem dL_step_680 : decode cL_step 680 = .ok (.goto 4, 3) := by decide +kernel
theorem dL_step_683 : decode cL_step 683 = .ok (.iconst 0, 1) := by decide +kernel
theorem dL_step_684 : decode cL_step 684 = .ok (.ireturn, 1) := by decide +kernel
theorem dL_step_685 : decode cL_step 685 = .ok (.iload 5, 2) := by decide +kernel
theorem dL_step_687 : decode cL_step 687 = .ok (.sipush 2001, 3) := by decide +kernel
theorem dL_step_690 : decode cL_step 690 = .ok (.irem, 1) := by decide +kernel
theorem dL_step_691 : decode cL_step 691 = .ok (.sipush 1000, 3) := by decide +kernel
theorem dL_step_694 : decode cL_step 694 = .ok (.isub, 1) := by decide +kernel
theorem dL_step_695 : decode cL_step 695 = .ok (.istore 19, 2) := by decide +kernel
theorem dL_step_697 : decode cL_step 697 = .ok (.aload_n 0, 1) := by decide +kernel
theorem dL_step_698 : decode cL_step 698 = .ok (.aload_n 1, 1) := by decide +kernel
theorem dL_step_699 : decode cL_step 699 = .ok (.iconst 3, 1) := by decide +kernel
theorem dL_step_700 : decode cL_step 700 = .ok (.iaload, 1) := by decide +kernel
theorem dL_step_701 : decode cL_step 701 = .ok (.iload 4, 2) := by decide +kernel
theorem dL_step_703 : decode cL_step 703 = .ok (.bipush 61, 2) := by decide +kernel
theorem dL_step_705 : decode cL_step 705 = .ok (.irem, 1) := by decide +kernel
theorem dL_step_706 : decode cL_step 706 = .ok (.iadd, 1) := by decide +kernel
theorem dL_step_707 : decode cL_step 707 = .ok (.iload 19, 2) := by decide +kernel
theorem dL_step_709 : decode cL_step 709 = .ok (.invokevirtual 67, 3) := by decide +kernel
theorem dL_step_712 : decode cL_step 712 = .ok (.sipush (-1000), 3) := by decide +kernel
theorem dL_step_715 : decode cL_step 715 = .ok (.if_icmp .lt 27, 3) := by decide +kernel
theorem dL_step_718 : decode cL_step 718 = .ok (.aload_n 0, 1) := by decide +kernel
theorem dL_step_719 : decode cL_step 719 = .ok (.aload_n 1, 1) := by decide +kernel
theorem dL_step_720 : decode cL_step 720 = .ok (.iconst 3, 1) := by decide +kernel
theorem dL_step_721 : decode cL_step 721 = .ok (.iaload, 1) := by decide +kernel
theorem dL_step_722 : decode cL_step 722 = .ok (.iload 4, 2) := by decide +kernel
theorem dL_step_724 : decode cL_step 724 = .ok (.bipush 61, 2) := by decide +kernel
theorem dL_step_726 : decode cL_step 726 = .ok (.irem, 1) := by decide +kernel
theorem dL_step_727 : decode cL_step 727 = .ok (.iadd, 1) := by decide +kernel
theorem dL_step_728 : decode cL_step 728 = .ok (.iload 19, 2) := by decide +kernel
theorem dL_step_730 : decode cL_step 730 = .ok (.invokevirtual 67, 3) := by decide +kernel
theorem dL_step_733 : decode cL_step 733 = .ok (.iload 19, 2) := by decide +kernel
theorem dL_step_735 : decode cL_step 735 = .ok (.if_icmp .ne 7, 3) := by decide +kernel
theorem dL_step_738 : decode cL_step 738 = .ok (.iconst 1, 1) := by decide +kernel
theorem dL_step_739 : decode cL_step 739 = .ok (.goto 4, 3) := by decide +kernel
theorem dL_step_742 : decode cL_step 742 = .ok (.iconst 0, 1) := by decide +kernel
theorem dL_step_743 : decode cL_step 743 = .ok (.ireturn, 1) := by decide +kernel
theorem dL_step_744 : decode cL_step 744 = .ok (.aload_n 0, 1) := by decide +kernel
theorem dL_step_745 : decode cL_step 745 = .ok (.iload 6, 2) := by decide +kernel
theorem dL_step_747 : decode cL_step 747 = .ok (.iload 5, 2) := by decide +kernel
theorem dL_step_749 : decode cL_step 749 = .ok (.iconst 5, 1) := by decide +kernel
theorem dL_step_750 : decode cL_step 750 = .ok (.irem, 1) := by decide +kernel
theorem dL_step_751 : decode cL_step 751 = .ok (.ifCond .ne 14, 3) := by decide +kernel
theorem dL_step_754 : decode cL_step 754 = .ok (.iload 5, 2) := by decide +kernel
theorem dL_step_756 : decode cL_step 756 = .ok (.iconst 5, 1) := by decide +kernel
theorem dL_step_757 : decode cL_step 757 = .ok (.idiv, 1) := by decide +kernel
theorem dL_step_758 : decode cL_step 758 = .ok (.sipush 1001, 3) := by decide +kernel
theorem dL_step_761 : decode cL_step 761 = .ok (.irem, 1) := by decide +kernel
theorem dL_step_762 : decode cL_step 762 = .ok (.goto 10, 3) := by decide +kernel
theorem dL_step_765 : decode cL_step 765 = .ok (.iload 5, 2) := by decide +kernel
theorem dL_step_767 : decode cL_step 767 = .ok (.iconst 5, 1) := by decide +kernel
theorem dL_step_768 : decode cL_step 768 = .ok (.idiv, 1) := by decide +kernel
theorem dL_step_769 : decode cL_step 769 = .ok (.bipush 20, 2) := by decide +kernel
theorem dL_step_771 : decode cL_step 771 = .ok (.irem, 1) := by decide +kernel
theorem dL_step_772 : decode cL_step 772 = .ok (.invokevirtual 70, 3) := by decide +kernel
theorem dL_step_775 : decode cL_step 775 = .ok (.istore 20, 2) := by decide +kernel
theorem dL_step_777 : decode cL_step 777 = .ok (.iload 20, 2) := by decide +kernel
theorem dL_step_779 : decode cL_step 779 = .ok (.ifCond .lt 66, 3) := by decide +kernel
theorem dL_step_782 : decode cL_step 782 = .ok (.aload_n 0, 1) := by decide +kernel
theorem dL_step_783 : decode cL_step 783 = .ok (.iload 6, 2) := by decide +kernel
theorem dL_step_785 : decode cL_step 785 = .ok (.iload 5, 2) := by decide +kernel
theorem dL_step_787 : decode cL_step 787 = .ok (.iconst 5, 1) := by decide +kernel
theorem dL_step_788 : decode cL_step 788 = .ok (.irem, 1) := by decide +kernel
theorem dL_step_789 : decode cL_step 789 = .ok (.ifCond .ne 14, 3) := by decide +kernel
theorem dL_step_792 : decode cL_step 792 = .ok (.iload 5, 2) := by decide +kernel
theorem dL_step_794 : decode cL_step 794 = .ok (.iconst 5, 1) := by decide +kernel
theorem dL_step_795 : decode cL_step 795 = .ok (.idiv, 1) := by decide +kernel
theorem dL_step_796 : decode cL_step 796 = .ok (.sipush 1001, 3) := by decide +kernel
theorem dL_step_799 : decode cL_step 799 = .ok (.irem, 1) := by decide +kernel
theorem dL_step_800 : decode cL_step 800 = .ok (.goto 10, 3) := by decide +kernel
theorem dL_step_803 : decode cL_step 803 = .ok (.iload 5, 2) := by decide +kernel
theorem dL_step_805 : decode cL_step 805 = .ok (.iconst 5, 1) := by decide +kernel
theorem dL_step_806 : decode cL_step 806 = .ok (.idiv, 1) := by decide +kernel
theorem dL_step_807 : decode cL_step 807 = .ok (.bipush 20, 2) := by decide +kernel
theorem dL_step_809 : decode cL_step 809 = .ok (.irem, 1) := by decide +kernel
theorem dL_step_810 : decode cL_step 810 = .ok (.invokevirtual 70, 3) := by decide +kernel
theorem dL_step_813 : decode cL_step 813 = .ok (.iload 5, 2) := by decide +kernel
theorem dL_step_815 : decode cL_step 815 = .ok (.iconst 5, 1) := by decide +kernel
theorem dL_step_816 : decode cL_step 816 = .ok (.irem, 1) := by decide +kernel
theorem dL_step_817 : decode cL_step 817 = .ok (.ifCond .ne 14, 3) := by decide +kernel
theorem dL_step_820 : decode cL_step 820 = .ok (.iload 5, 2) := by decide +kernel
theorem dL_step_822 : decode cL_step 822 = .ok (.iconst 5, 1) := by decide +kernel
theorem dL_step_823 : decode cL_step 823 = .ok (.idiv, 1) := by decide +kernel
theorem dL_step_824 : decode cL_step 824 = .ok (.sipush 1001, 3) := by decide +kernel
theorem dL_step_827 : decode cL_step 827 = .ok (.irem, 1) := by decide +kernel
theorem dL_step_828 : decode cL_step 828 = .ok (.goto 10, 3) := by decide +kernel
theorem dL_step_831 : decode cL_step 831 = .ok (.iload 5, 2) := by decide +kernel
theorem dL_step_833 : decode cL_step 833 = .ok (.iconst 5, 1) := by decide +kernel
theorem dL_step_834 : decode cL_step 834 = .ok (.idiv, 1) := by decide +kernel
theorem dL_step_835 : decode cL_step 835 = .ok (.bipush 20, 2) := by decide +kernel
theorem dL_step_837 : decode cL_step 837 = .ok (.irem, 1) := by decide +kernel
theorem dL_step_838 : decode cL_step 838 = .ok (.if_icmp .ne 7, 3) := by decide +kernel
theorem dL_step_841 : decode cL_step 841 = .ok (.iconst 1, 1) := by decide +kernel
theorem dL_step_842 : decode cL_step 842 = .ok (.goto 4, 3) := by decide +kernel
theorem dL_step_845 : decode cL_step 845 = .ok (.iconst 0, 1) := by decide +kernel
theorem dL_step_846 : decode cL_step 846 = .ok (.ireturn, 1) := by decide +kernel
theorem dL_step_847 : decode cL_step 847 = .ok (.aload_n 0, 1) := by decide +kernel
theorem dL_step_848 : decode cL_step 848 = .ok (.iload 5, 2) := by decide +kernel
theorem dL_step_850 : decode cL_step 850 = .ok (.sipush 20001, 3) := by decide +kernel
theorem dL_step_853 : decode cL_step 853 = .ok (.irem, 1) := by decide +kernel
theorem dL_step_854 : decode cL_step 854 = .ok (.invokevirtual 73, 3) := by decide +kernel
theorem dL_step_857 : decode cL_step 857 = .ok (.istore 21, 2) := by decide +kernel
theorem dL_step_859 : decode cL_step 859 = .ok (.iload 21, 2) := by decide +kernel
theorem dL_step_861 : decode cL_step 861 = .ok (.aload_n 1, 1) := by decide +kernel
theorem dL_step_862 : decode cL_step 862 = .ok (.iconst 4, 1) := by decide +kernel
theorem dL_step_863 : decode cL_step 863 = .ok (.iaload, 1) := by decide +kernel
theorem dL_step_864 : decode cL_step 864 = .ok (.if_icmp .ne 7, 3) := by decide +kernel
theorem dL_step_867 : decode cL_step 867 = .ok (.iconst 1, 1) := by decide +kernel
theorem dL_step_868 : decode cL_step 868 = .ok (.goto 4, 3) := by decide +kernel
theorem dL_step_871 : decode cL_step 871 = .ok (.iconst 0, 1) := by decide +kernel
theorem dL_step_872 : decode cL_step 872 = .ok (.istore 22, 2) := by decide +kernel
theorem dL_step_874 : decode cL_step 874 = .ok (.aload_n 1, 1) := by decide +kernel
theorem dL_step_875 : decode cL_step 875 = .ok (.iconst 4, 1) := by decide +kernel
theorem dL_step_876 : decode cL_step 876 = .ok (.iload 5, 2) := by decide +kernel
theorem dL_step_878 : decode cL_step 878 = .ok (.sipush 20001, 3) := by decide +kernel
theorem dL_step_881 : decode cL_step 881 = .ok (.irem, 1) := by decide +kernel
theorem dL_step_882 : decode cL_step 882 = .ok (.iastore, 1) := by decide +kernel
theorem dL_step_883 : decode cL_step 883 = .ok (.iload 22, 2) := by decide +kernel
theorem dL_step_885 : decode cL_step 885 = .ok (.ireturn, 1) := by decide +kernel
theorem dL_step_886 : decode cL_step 886 = .ok (.aload_n 0, 1) := by decide +kernel
theorem dL_step_887 : decode cL_step 887 = .ok (.iload 6, 2) := by decide +kernel
theorem dL_step_889 : decode cL_step 889 = .ok (.iconst 2, 1) := by decide +kernel
theorem dL_step_890 : decode cL_step 890 = .ok (.invokevirtual 77, 3) := by decide +kernel
theorem dL_step_893 : decode cL_step 893 = .ok (.lstore 23, 2) := by decide +kernel
theorem dL_step_895 : decode cL_step 895 = .ok (.aload_n 0, 1) := by decide +kernel
theorem dL_step_896 : decode cL_step 896 = .ok (.iload 6, 2) := by decide +kernel
theorem dL_step_898 : decode cL_step 898 = .ok (.iconst 1, 1) := by decide +kernel
theorem dL_step_899 : decode cL_step 899 = .ok (.iload 5, 2) := by decide +kernel
theorem dL_step_901 : decode cL_step 901 = .ok (.sipush 1000, 3) := by decide +kernel
theorem dL_step_904 : decode cL_step 904 = .ok (.irem, 1) := by decide +kernel
theorem dL_step_905 : decode cL_step 905 = .ok (.iadd, 1) := by decide +kernel
theorem dL_step_906 : decode cL_step 906 = .ok (.invokestatic 80, 3) := by decide +kernel
theorem dL_step_909 : decode cL_step 909 = .ok (.istore 25, 2) := by decide +kernel
theorem dL_step_911 : decode cL_step 911 = .ok (.iload 25, 2) := by decide +kernel
theorem dL_step_913 : decode cL_step 913 = .ok (.sipush (-200), 3) := by decide +kernel
theorem dL_step_916 : decode cL_step 916 = .ok (.if_icmp .ne 24, 3) := by decide +kernel
theorem dL_step_919 : decode cL_step 919 = .ok (.aload_n 0, 1) := by decide +kernel
theorem dL_step_920 : decode cL_step 920 = .ok (.iload 6, 2) := by decide +kernel
theorem dL_step_922 : decode cL_step 922 = .ok (.iconst 2, 1) := by decide +kernel
theorem dL_step_923 : decode cL_step 923 = .ok (.invokevirtual 77, 3) := by decide +kernel
theorem dL_step_926 : decode cL_step 926 = .ok (.lload 23, 2) := by decide +kernel
theorem dL_step_928 : decode cL_step 928 = .ok (.lcmp, 1) := by decide +kernel
theorem dL_step_929 : decode cL_step 929 = .ok (.ifCond .ne 7, 3) := by decide +kernel
theorem dL_step_932 : decode cL_step 932 = .ok (.iconst 1, 1) := by decide +kernel
theorem dL_step_933 : decode cL_step 933 = .ok (.goto 43, 3) := by decide +kernel
theorem dL_step_936 : decode cL_step 936 = .ok (.iconst 0, 1) := by decide +kernel
theorem dL_step_937 : decode cL_step 937 = .ok (.goto 39, 3) := by decide +kernel
theorem dL_step_940 : decode cL_step 940 = .ok (.iload 25, 2) := by decide +kernel
theorem dL_step_942 : decode cL_step 942 = .ok (.i2l, 1) := by decide +kernel
theorem dL_step_943 : decode cL_step 943 = .ok (.lload 23, 2) := by decide +kernel
theorem dL_step_945 : decode cL_step 945 = .ok (.lconst 1, 1) := by decide +kernel
theorem dL_step_946 : decode cL_step 946 = .ok (.ladd, 1) := by decide +kernel
theorem dL_step_947 : decode cL_step 947 = .ok (.iload 5, 2) := by decide +kernel
theorem dL_step_949 : decode cL_step 949 = .ok (.sipush 1000, 3) := by decide +kernel
theorem dL_step_952 : decode cL_step 952 = .ok (.irem, 1) := by decide +kernel
theorem dL_step_953 : decode cL_step 953 = .ok (.i2l, 1) := by decide +kernel
theorem dL_step_954 : decode cL_step 954 = .ok (.ladd, 1) := by decide +kernel
theorem dL_step_955 : decode cL_step 955 = .ok (.lcmp, 1) := by decide +kernel
theorem dL_step_956 : decode cL_step 956 = .ok (.ifCond .ne 19, 3) := by decide +kernel
theorem dL_step_959 : decode cL_step 959 = .ok (.aload_n 0, 1) := by decide +kernel
theorem dL_step_960 : decode cL_step 960 = .ok (.iload 6, 2) := by decide +kernel
theorem dL_step_962 : decode cL_step 962 = .ok (.iconst 0, 1) := by decide +kernel
theorem dL_step_963 : decode cL_step 963 = .ok (.invokevirtual 77, 3) := by decide +kernel
theorem dL_step_966 : decode cL_step 966 = .ok (.lconst 0, 1) := by decide +kernel
theorem dL_step_967 : decode cL_step 967 = .ok (.lcmp, 1) := by decide +kernel
theorem dL_step_968 : decode cL_step 968 = .ok (.ifCond .ne 7, 3) := by decide +kernel
theorem dL_step_971 : decode cL_step 971 = .ok (.iconst 1, 1) := by decide +kernel
theorem dL_step_972 : decode cL_step 972 = .ok (.goto 4, 3) := by decide +kernel
theorem dL_step_975 : decode cL_step 975 = .ok (.iconst 0, 1) := by decide +kernel
theorem dL_step_976 : decode cL_step 976 = .ok (.ireturn, 1) := by decide +kernel
theorem dL_step_977 : decode cL_step 977 = .ok (.iconst 1, 1) := by decide +kernel
theorem dL_step_978 : decode cL_step 978 = .ok (.iload 5, 2) := by decide +kernel
theorem dL_step_980 : decode cL_step 980 = .ok (.iconst 3, 1) := by decide +kernel
theorem dL_step_981 : decode cL_step 981 = .ok (.irem, 1) := by decide +kernel
theorem dL_step_982 : decode cL_step 982 = .ok (.iadd, 1) := by decide +kernel
theorem dL_step_983 : decode cL_step 983 = .ok (.istore 26, 2) := by decide +kernel
theorem dL_step_985 : decode cL_step 985 = .ok (.aload_n 0, 1) := by decide +kernel
theorem dL_step_986 : decode cL_step 986 = .ok (.iload 7, 2) := by decide +kernel
theorem dL_step_988 : decode cL_step 988 = .ok (.iload 26, 2) := by decide +kernel
theorem dL_step_990 : decode cL_step 990 = .ok (.invokevirtual 84, 3) := by decide +kernel
theorem dL_step_993 : decode cL_step 993 = .ok (.lstore 27, 2) := by decide +kernel
theorem dL_step_995 : decode cL_step 995 = .ok (.lload 27, 2) := by decide +kernel
theorem dL_step_997 : decode cL_step 997 = .ok (.lconst 0, 1) := by decide +kernel
theorem dL_step_998 : decode cL_step 998 = .ok (.lcmp, 1) := by decide +kernel
theorem dL_step_999 : decode cL_step 999 = .ok (.ifCond .lt 37, 3) := by decide +kernel
theorem dL_step_1002 : decode cL_step 1002 = .ok (.lload 27, 2) := by decide +kernel
theorem dL_step_1004 : decode cL_step 1004 = .ok (.aload_n 0, 1) := by decide +kernel
theorem dL_step_1005 : decode cL_step 1005 = .ok (.iload 7, 2) := by decide +kernel
theorem dL_step_1007 : decode cL_step 1007 = .ok (.iload 26, 2) := by decide +kernel
theorem dL_step_1009 : decode cL_step 1009 = .ok (.invokevirtual 87, 3) := by decide +kernel
theorem dL_step_1012 : decode cL_step 1012 = .ok (.lcmp, 1) := by decide +kernel
theorem dL_step_1013 : decode cL_step 1013 = .ok (.ifCond .ne 23, 3) := by decide +kernel
theorem dL_step_1016 : decode cL_step 1016 = .ok (.lload 27, 2) := by decide +kernel
theorem dL_step_1018 : decode cL_step 1018 = .ok (.aload_n 0, 1) := by decide +kernel
theorem dL_step_1019 : decode cL_step 1019 = .ok (.iload 7, 2) := by decide +kernel
theorem dL_step_1021 : decode cL_step 1021 = .ok (.iload 26, 2) := by decide +kernel
theorem dL_step_1023 : decode cL_step 1023 = .ok (.iconst 1, 1) := by decide +kernel
theorem dL_step_1024 : decode cL_step 1024 = .ok (.iadd, 1) := by decide +kernel
theorem dL_step_1025 : decode cL_step 1025 = .ok (.invokevirtual 84, 3) := by decide +kernel
theorem dL_step_1028 : decode cL_step 1028 = .ok (.lcmp, 1) := by decide +kernel
theorem dL_step_1029 : decode cL_step 1029 = .ok (.ifCond .gt 7, 3) := by decide +kernel
theorem dL_step_1032 : decode cL_step 1032 = .ok (.iconst 1, 1) := by decide +kernel
theorem dL_step_1033 : decode cL_step 1033 = .ok (.goto 4, 3) := by decide +kernel
theorem dL_step_1036 : decode cL_step 1036 = .ok (.iconst 0, 1) := by decide +kernel
theorem dL_step_1037 : decode cL_step 1037 = .ok (.ireturn, 1) := by decide +kernel
theorem dL_step_1038 : decode cL_step 1038 = .ok (.aload_n 0, 1) := by decide +kernel
theorem dL_step_1039 : decode cL_step 1039 = .ok (.aload_n 1, 1) := by decide +kernel
theorem dL_step_1040 : decode cL_step 1040 = .ok (.aload_n 2, 1) := by decide +kernel
theorem dL_step_1041 : decode cL_step 1041 = .ok (.iload 5, 2) := by decide +kernel
theorem dL_step_1043 : decode cL_step 1043 = .ok (.bipush 7, 2) := by decide +kernel
theorem dL_step_1045 : decode cL_step 1045 = .ok (.irem, 1) := by decide +kernel
theorem dL_step_1046 : decode cL_step 1046 = .ok (.ifCond .ne 13, 3) := by decide +kernel
theorem dL_step_1049 : decode cL_step 1049 = .ok (.iconst 1, 1) := by decide +kernel
theorem dL_step_1050 : decode cL_step 1050 = .ok (.iload 4, 2) := by decide +kernel
theorem dL_step_1052 : decode cL_step 1052 = .ok (.bipush 24, 2) := by decide +kernel
theorem dL_step_1054 : decode cL_step 1054 = .ok (.irem, 1) := by decide +kernel
theorem dL_step_1055 : decode cL_step 1055 = .ok (.iadd, 1) := by decide +kernel
theorem dL_step_1056 : decode cL_step 1056 = .ok (.goto 9, 3) := by decide +kernel
theorem dL_step_1059 : decode cL_step 1059 = .ok (.iconst 1, 1) := by decide +kernel
theorem dL_step_1060 : decode cL_step 1060 = .ok (.iload 4, 2) := by decide +kernel
theorem dL_step_1062 : decode cL_step 1062 = .ok (.iconst 3, 1) := by decide +kernel
theorem dL_step_1063 : decode cL_step 1063 = .ok (.irem, 1) := by decide +kernel
theorem dL_step_1064 : decode cL_step 1064 = .ok (.iadd, 1) := by decide +kernel
theorem dL_step_1065 : decode cL_step 1065 = .ok (.invokestatic 90, 3) := by decide +kernel
theorem dL_step_1068 : decode cL_step 1068 = .ok (.ireturn, 1) := by decide +kernel
theorem dL_isTaken_0 : decode cL_isTaken 0 = .ok (.iconst 1, 1) := by decide +kernel
theorem dL_isTaken_1 : decode cL_isTaken 1 = .ok (.iload_n 2, 1) := by decide +kernel
theorem dL_isTaken_2 : decode cL_isTaken 2 = .ok (.sipush 20000, 3) := by decide +kernel
theorem dL_isTaken_5 : decode cL_isTaken 5 = .ok (.irem, 1) := by decide +kernel
theorem dL_isTaken_6 : decode cL_isTaken 6 = .ok (.iadd, 1) := by decide +kernel
theorem dL_isTaken_7 : decode cL_isTaken 7 = .ok (.istore 4, 2) := by decide +kernel
theorem dL_isTaken_9 : decode cL_isTaken 9 = .ok (.iload_n 3, 1) := by decide +kernel
theorem dL_isTaken_10 : decode cL_isTaken 10 = .ok (.bipush 100, 2) := by decide +kernel
theorem dL_isTaken_12 : decode cL_isTaken 12 = .ok (.irem, 1) := by decide +kernel
theorem dL_isTaken_13 : decode cL_isTaken 13 = .ok (.istore 5, 2) := by decide +kernel
theorem dL_isTaken_15 : decode cL_isTaken 15 = .ok (.iload 5, 2) := by decide +kernel
theorem dL_isTaken_17 : decode cL_isTaken 17 = .ok (.iload_n 3, 1) := by decide +kernel
theorem dL_isTaken_18 : decode cL_isTaken 18 = .ok (.bipush 100, 2) := by decide +kernel
theorem dL_isTaken_20 : decode cL_isTaken 20 = .ok (.idiv, 1) := by decide +kernel
theorem dL_isTaken_21 : decode cL_isTaken 21 = .ok (.sipush 300, 3) := by decide +kernel
theorem dL_isTaken_24 : decode cL_isTaken 24 = .ok (.irem, 1) := by decide +kernel
theorem dL_isTaken_25 : decode cL_isTaken 25 = .ok (.iadd, 1) := by decide +kernel
theorem dL_isTaken_26 : decode cL_isTaken 26 = .ok (.istore 6, 2) := by decide +kernel
theorem dL_isTaken_28 : decode cL_isTaken 28 = .ok (.aload_n 0, 1) := by decide +kernel
theorem dL_isTaken_29 : decode cL_isTaken 29 = .ok (.iconst 1, 1) := by decide +kernel
theorem dL_isTaken_30 : decode cL_isTaken 30 = .ok (.invokevirtual 94, 3) := by decide +kernel
theorem dL_isTaken_33 : decode cL_isTaken 33 = .ok (.lstore 7, 2) := by decide +kernel
theorem dL_isTaken_35 : decode cL_isTaken 35 = .ok (.iload 6, 2) := by decide +kernel
theorem dL_isTaken_37 : decode cL_isTaken 37 = .ok (.iload 4, 2) := by decide +kernel
theorem dL_isTaken_39 : decode cL_isTaken 39 = .ok (.imul, 1) := by decide +kernel
theorem dL_isTaken_40 : decode cL_isTaken 40 = .ok (.bipush 100, 2) := by decide +kernel
theorem dL_isTaken_42 : decode cL_isTaken 42 = .ok (.idiv, 1) := by decide +kernel
theorem dL_isTaken_43 : decode cL_isTaken 43 = .ok (.istore 9, 2) := by decide +kernel
theorem dL_isTaken_45 : decode cL_isTaken 45 = .ok (.aload_n 0, 1) := by decide +kernel
theorem dL_isTaken_46 : decode cL_isTaken 46 = .ok (.iload_n 2, 1) := by decide +kernel
theorem dL_isTaken_47 : decode cL_isTaken 47 = .ok (.iconst 3, 1) := by decide +kernel
theorem dL_isTaken_48 : decode cL_isTaken 48 = .ok (.irem, 1) := by decide +kernel
theorem dL_isTaken_49 : decode cL_isTaken 49 = .ok (.iload 4, 2) := by decide +kernel
theorem dL_isTaken_51 : decode cL_isTaken 51 = .ok (.iload 9, 2) := by decide +kernel
theorem dL_isTaken_53 : decode cL_isTaken 53 = .ok (.iload 5, 2) := by decide +kernel
theorem dL_isTaken_55 : decode cL_isTaken 55 = .ok (.iload 6, 2) := by decide +kernel
theorem dL_isTaken_57 : decode cL_isTaken 57 = .ok (.iload_n 2, 1) := by decide +kernel
theorem dL_isTaken_58 : decode cL_isTaken 58 = .ok (.iconst 3, 1) := by decide +kernel
theorem dL_isTaken_59 : decode cL_isTaken 59 = .ok (.irem, 1) := by decide +kernel
theorem dL_isTaken_60 : decode cL_isTaken 60 = .ok (.iconst 2, 1) := by decide +kernel
theorem dL_isTaken_61 : decode cL_isTaken 61 = .ok (.if_icmp .ne 16, 3) := by decide +kernel
theorem dL_isTaken_64 : decode cL_isTaken 64 = .ok (.iload 9, 2) := by decide +kernel
theorem dL_isTaken_66 : decode cL_isTaken 66 = .ok (.iconst 2, 1) := by decide +kernel
theorem dL_isTaken_67 : decode cL_isTaken 67 = .ok (.idiv, 1) := by decide +kernel
theorem dL_isTaken_68 : decode cL_isTaken 68 = .ok (.iload_n 3, 1) := by decide +kernel
theorem dL_isTaken_69 : decode cL_isTaken 69 = .ok (.sipush 500, 3) := by decide +kernel
theorem dL_isTaken_72 : decode cL_isTaken 72 = .ok (.irem, 1) := by decide +kernel
theorem dL_isTaken_73 : decode cL_isTaken 73 = .ok (.iadd, 1) := by decide +kernel
theorem dL_isTaken_74 : decode cL_isTaken 74 = .ok (.goto 12, 3) := by decide +kernel
theorem dL_isTaken_77 : decode cL_isTaken 77 = .ok (.iload_n 3, 1) := by decide +kernel
theorem dL_isTaken_78 : decode cL_isTaken 78 = .ok (.sipush 30000, 3) := by decide +kernel
theorem dL_isTaken_81 : decode cL_isTaken 81 = .ok (.idiv, 1) := by decide +kernel
theorem dL_isTaken_82 : decode cL_isTaken 82 = .ok (.sipush 300, 3) := by decide +kernel
theorem dL_isTaken_85 : decode cL_isTaken 85 = .ok (.irem, 1) := by decide +kernel
theorem dL_isTaken_86 : decode cL_isTaken 86 = .ok (.invokestatic 98, 3) := by decide +kernel
theorem dL_isTaken_89 : decode cL_isTaken 89 = .ok (.istore 10, 2) := by decide +kernel
theorem dL_isTaken_91 : decode cL_isTaken 91 = .ok (.iload 10, 2) := by decide +kernel
theorem dL_isTaken_93 : decode cL_isTaken 93 = .ok (.ifCond .ge 54, 3) := by decide +kernel
theorem dL_isTaken_96 : decode cL_isTaken 96 = .ok (.aload_n 0, 1) := by decide +kernel
theorem dL_isTaken_97 : decode cL_isTaken 97 = .ok (.iconst 1, 1) := by decide +kernel
theorem dL_isTaken_98 : decode cL_isTaken 98 = .ok (.invokevirtual 94, 3) := by decide +kernel
theorem dL_isTaken_101 : decode cL_isTaken 101 = .ok (.lload 7, 2) := by decide +kernel
theorem dL_isTaken_103 : decode cL_isTaken 103 = .ok (.lcmp, 1) := by decide +kernel
theorem dL_isTaken_104 : decode cL_isTaken 104 = .ok (.ifCond .ne 41, 3) := by decide +kernel
theorem dL_isTaken_107 : decode cL_isTaken 107 = .ok (.iload 10, 2) := by decide +kernel
theorem dL_isTaken_109 : decode cL_isTaken 109 = .ok (.sipush (-200), 3) := by decide +kernel
theorem dL_isTaken_112 : decode cL_isTaken 112 = .ok (.if_icmp .ne 13, 3) := by decide +kernel
theorem dL_isTaken_115 : decode cL_isTaken 115 = .ok (.aload_n 1, 1) := by decide +kernel
theorem dL_isTaken_116 : decode cL_isTaken 116 = .ok (.iconst 0, 1) := by decide +kernel
theorem dL_isTaken_117 : decode cL_isTaken 117 = .ok (.iaload, 1) := by decide +kernel
theorem dL_isTaken_118 : decode cL_isTaken 118 = .ok (.iconst 5, 1) := by decide +kernel
theorem dL_isTaken_119 : decode cL_isTaken 119 = .ok (.if_icmp .ne 26, 3) := by decide +kernel
theorem dL_isTaken_122 : decode cL_isTaken 122 = .ok (.goto 19, 3) := by decide +kernel
theorem dL_isTaken_125 : decode cL_isTaken 125 = .ok (.iload 5, 2) := by decide +kernel
theorem dL_isTaken_127 : decode cL_isTaken 127 = .ok (.iload 4, 2) := by decide +kernel
theorem dL_isTaken_129 : decode cL_isTaken 129 = .ok (.imul, 1) := by decide +kernel
theorem dL_isTaken_130 : decode cL_isTaken 130 = .ok (.bipush 99, 2) := by decide +kernel
theorem dL_isTaken_132 : decode cL_isTaken 132 = .ok (.iadd, 1) := by decide +kernel
theorem dL_isTaken_133 : decode cL_isTaken 133 = .ok (.bipush 100, 2) := by decide +kernel
theorem dL_isTaken_135 : decode cL_isTaken 135 = .ok (.idiv, 1) := by decide +kernel
theorem dL_isTaken_136 : decode cL_isTaken 136 = .ok (.iload 9, 2) := by decide +kernel
theorem dL_isTaken_138 : decode cL_isTaken 138 = .ok (.if_icmp .le 7, 3) := by decide +kernel
theorem dL_isTaken_141 : decode cL_isTaken 141 = .ok (.iconst 1, 1) := by decide +kernel
theorem dL_isTaken_142 : decode cL_isTaken 142 = .ok (.goto 4, 3) := by decide +kernel
theorem dL_isTaken_145 : decode cL_isTaken 145 = .ok (.iconst 0, 1) := by decide +kernel
theorem dL_isTaken_146 : decode cL_isTaken 146 = .ok (.ireturn, 1) := by decide +kernel
theorem dL_isTaken_147 : decode cL_isTaken 147 = .ok (.aload_n 1, 1) := by decide +kernel
theorem dL_isTaken_148 : decode cL_isTaken 148 = .ok (.iconst 0, 1) := by decide +kernel
theorem dL_isTaken_149 : decode cL_isTaken 149 = .ok (.dup2, 1) := by decide +kernel
theorem dL_isTaken_150 : decode cL_isTaken 150 = .ok (.iaload, 1) := by decide +kernel
theorem dL_isTaken_151 : decode cL_isTaken 151 = .ok (.iconst 1, 1) := by decide +kernel
theorem dL_isTaken_152 : decode cL_isTaken 152 = .ok (.iadd, 1) := by decide +kernel
theorem dL_isTaken_153 : decode cL_isTaken 153 = .ok (.iastore, 1) := by decide +kernel
theorem dL_isTaken_154 : decode cL_isTaken 154 = .ok (.iload 10, 2) := by decide +kernel
theorem dL_isTaken_156 : decode cL_isTaken 156 = .ok (.aload_n 1, 1) := by decide +kernel
theorem dL_isTaken_157 : decode cL_isTaken 157 = .ok (.iconst 0, 1) := by decide +kernel
theorem dL_isTaken_158 : decode cL_isTaken 158 = .ok (.iaload, 1) := by decide +kernel
theorem dL_isTaken_159 : decode cL_isTaken 159 = .ok (.iconst 1, 1) := by decide +kernel
theorem dL_isTaken_160 : decode cL_isTaken 160 = .ok (.isub, 1) := by decide +kernel
theorem dL_isTaken_161 : decode cL_isTaken 161 = .ok (.if_icmp .ne 90, 3) := by decide +kernel
theorem dL_isTaken_164 : decode cL_isTaken 164 = .ok (.aload_n 0, 1) := by decide +kernel
theorem dL_isTaken_165 : decode cL_isTaken 165 = .ok (.iconst 1, 1) := by decide +kernel
theorem dL_isTaken_166 : decode cL_isTaken 166 = .ok (.invokevirtual 94, 3) := by decide +kernel
theorem dL_isTaken_169 : decode cL_isTaken 169 = .ok (.lload 7, 2) := by decide +kernel
theorem dL_isTaken_171 : decode cL_isTaken 171 = .ok (.iload 9, 2) := by decide +kernel
theorem dL_isTaken_173 : decode cL_isTaken 173 = .ok (.i2l, 1) := by decide +kernel
theorem dL_isTaken_174 : decode cL_isTaken 174 = .ok (.ladd, 1) := by decide +kernel
theorem dL_isTaken_175 : decode cL_isTaken 175 = .ok (.lcmp, 1) := by decide +kernel
theorem dL_isTaken_176 : decode cL_isTaken 176 = .ok (.ifCond .ne 75, 3) := by decide +kernel
theorem dL_isTaken_179 : decode cL_isTaken 179 = .ok (.aload_n 0, 1) := by decide +kernel
theorem dL_isTaken_180 : decode cL_isTaken 180 = .ok (.iload 10, 2) := by decide +kernel
theorem dL_isTaken_182 : decode cL_isTaken 182 = .ok (.iconst 0, 1) := by decide +kernel
theorem dL_isTaken_183 : decode cL_isTaken 183 = .ok (.invokevirtual 77, 3) := by decide +kernel
theorem dL_isTaken_186 : decode cL_isTaken 186 = .ok (.iload 9, 2) := by decide +kernel
theorem dL_isTaken_188 : decode cL_isTaken 188 = .ok (.i2l, 1) := by decide +kernel
theorem dL_isTaken_189 : decode cL_isTaken 189 = .ok (.lcmp, 1) := by decide +kernel
theorem dL_isTaken_190 : decode cL_isTaken 190 = .ok (.ifCond .ne 61, 3) := by decide +kernel
theorem dL_isTaken_193 : decode cL_isTaken 193 = .ok (.aload_n 0, 1) := by decide +kernel
theorem dL_isTaken_194 : decode cL_isTaken 194 = .ok (.iload 10, 2) := by decide +kernel
theorem dL_isTaken_196 : decode cL_isTaken 196 = .ok (.bipush 6, 2) := by decide +kernel
theorem dL_isTaken_198 : decode cL_isTaken 198 = .ok (.invokevirtual 77, 3) := by decide +kernel
theorem dL_isTaken_201 : decode cL_isTaken 201 = .ok (.iload 9, 2) := by decide +kernel
theorem dL_isTaken_203 : decode cL_isTaken 203 = .ok (.i2l, 1) := by decide +kernel
theorem dL_isTaken_204 : decode cL_isTaken 204 = .ok (.lcmp, 1) := by decide +kernel
theorem dL_isTaken_205 : decode cL_isTaken 205 = .ok (.ifCond .ne 46, 3) := by decide +kernel
theorem dL_isTaken_208 : decode cL_isTaken 208 = .ok (.aload_n 0, 1) := by decide +kernel
theorem dL_isTaken_209 : decode cL_isTaken 209 = .ok (.iload 10, 2) := by decide +kernel
theorem dL_isTaken_211 : decode cL_isTaken 211 = .ok (.iconst 4, 1) := by decide +kernel
theorem dL_isTaken_212 : decode cL_isTaken 212 = .ok (.invokevirtual 77, 3) := by decide +kernel
theorem dL_isTaken_215 : decode cL_isTaken 215 = .ok (.iload 9, 2) := by decide +kernel
theorem dL_isTaken_217 : decode cL_isTaken 217 = .ok (.i2l, 1) := by decide +kernel
theorem dL_isTaken_218 : decode cL_isTaken 218 = .ok (.aload_n 1, 1) := by decide +kernel
theorem dL_isTaken_219 : decode cL_isTaken 219 = .ok (.iconst 4, 1) := by decide +kernel
theorem dL_isTaken_220 : decode cL_isTaken 220 = .ok (.iaload, 1) := by decide +kernel
theorem dL_isTaken_221 : decode cL_isTaken 221 = .ok (.i2l, 1) := by decide +kernel
theorem dL_isTaken_222 : decode cL_isTaken 222 = .ok (.lmul, 1) := by decide +kernel
theorem dL_isTaken_223 : decode cL_isTaken 223 = .ok (.lcmp, 1) := by decide +kernel
theorem dL_isTaken_224 : decode cL_isTaken 224 = .ok (.ifCond .ne 27, 3) := by decide +kernel
theorem dL_isTaken_227 : decode cL_isTaken 227 = .ok (.aload_n 0, 1) := by decide +kernel
theorem dL_isTaken_228 : decode cL_isTaken 228 = .ok (.iload 10, 2) := by decide +kernel
theorem dL_isTaken_230 : decode cL_isTaken 230 = .ok (.iconst 1, 1) := by decide +kernel
theorem dL_isTaken_231 : decode cL_isTaken 231 = .ok (.invokevirtual 44, 3) := by decide +kernel
theorem dL_isTaken_234 : decode cL_isTaken 234 = .ok (.ifCond .ne 17, 3) := by decide +kernel
theorem dL_isTaken_237 : decode cL_isTaken 237 = .ok (.aload_n 0, 1) := by decide +kernel
theorem dL_isTaken_238 : decode cL_isTaken 238 = .ok (.iload 10, 2) := by decide +kernel
theorem dL_isTaken_240 : decode cL_isTaken 240 = .ok (.iconst 0, 1) := by decide +kernel
theorem dL_isTaken_241 : decode cL_isTaken 241 = .ok (.invokevirtual 44, 3) := by decide +kernel
theorem dL_isTaken_244 : decode cL_isTaken 244 = .ok (.ifCond .ne 7, 3) := by decide +kernel
theorem dL_isTaken_247 : decode cL_isTaken 247 = .ok (.iconst 1, 1) := by decide +kernel
theorem dL_isTaken_248 : decode cL_isTaken 248 = .ok (.goto 4, 3) := by decide +kernel
theorem dL_isTaken_251 : decode cL_isTaken 251 = .ok (.iconst 0, 1) := by decide +kernel
theorem dL_isTaken_252 : decode cL_isTaken 252 = .ok (.ireturn, 1) := by decide +kernel
theorem dL_areHours_0 : decode cL_areHours 0 = .ok (.iconst 1, 1) := by decide +kernel
theorem dL_areHours_1 : decode cL_areHours 1 = .ok (.istore 4, 2) := by decide +kernel
theorem dL_areHours_3 : decode cL_areHours 3 = .ok (.iconst 0, 1) := by decide +kernel
theorem dL_areHours_4 : decode cL_areHours 4 = .ok (.istore 5, 2) := by decide +kernel
theorem dL_areHours_6 : decode cL_areHours 6 = .ok (.iload 5, 2) := by decide +kernel
theorem dL_areHours_8 : decode cL_areHours 8 = .ok (.iload_n 3, 1) := by decide +kernel
theorem dL_areHours_9 : decode cL_areHours 9 = .ok (.if_icmp .ge 456, 3) := by decide +kernel
theorem dL_areHours_12 : decode cL_areHours 12 = .ok (.iload 4, 2) := by decide +kernel
theorem dL_areHours_14 : decode cL_areHours 14 = .ok (.ifCond .eq 451, 3) := by decide +kernel
theorem dL_areHours_17 : decode cL_areHours 17 = .ok (.lconst 0, 1) := by decide +kernel
theorem dL_areHours_18 : decode cL_areHours 18 = .ok (.lstore 6, 2) := by decide +kernel
theorem dL_areHours_20 : decode cL_areHours 20 = .ok (.aload_n 0, 1) := by decide +kernel
theorem dL_areHours_21 : decode cL_areHours 21 = .ok (.iconst 1, 1) := by decide +kernel
theorem dL_areHours_22 : decode cL_areHours 22 = .ok (.invokevirtual 94, 3) := by decide +kernel
theorem dL_areHours_25 : decode cL_areHours 25 = .ok (.aload_n 0, 1) := by decide +kernel
theorem dL_areHours_26 : decode cL_areHours 26 = .ok (.iconst 2, 1) := by decide +kernel
theorem dL_areHours_27 : decode cL_areHours 27 = .ok (.invokevirtual 94, 3) := by decide +kernel
theorem dL_areHours_30 : decode cL_areHours 30 = .ok (.ladd, 1) := by decide +kernel
theorem dL_areHours_31 : decode cL_areHours 31 = .ok (.lstore 8, 2) := by decide +kernel
theorem dL_areHours_33 : decode cL_areHours 33 = .ok (.bipush 6, 2) := by decide +kernel
theorem dL_areHours_35 : decode cL_areHours 35 = .ok (.newarray .int, 2) := by decide +kernel
theorem dL_areHours_37 : decode cL_areHours 37 = .ok (.astore 10, 2) := by decide +kernel
theorem dL_areHours_39 : decode cL_areHours 39 = .ok (.bipush 6, 2) := by decide +kernel
theorem dL_areHours_41 : decode cL_areHours 41 = .ok (.newarray .long, 2) := by decide +kernel
theorem dL_areHours_43 : decode cL_areHours 43 = .ok (.astore 11, 2) := by decide +kernel
theorem dL_areHours_45 : decode cL_areHours 45 = .ok (.iconst 0, 1) := by decide +kernel
theorem dL_areHours_46 : decode cL_areHours 46 = .ok (.istore 12, 2) := by decide +kernel
theorem dL_areHours_48 : decode cL_areHours 48 = .ok (.iload 12, 2) := by decide +kernel
theorem dL_areHours_50 : decode cL_areHours 50 = .ok (.aload_n 1, 1) := by decide +kernel
theorem dL_areHours_51 : decode cL_areHours 51 = .ok (.iconst 1, 1) := by decide +kernel
theorem dL_areHours_52 : decode cL_areHours 52 = .ok (.iaload, 1) := by decide +kernel
theorem dL_areHours_53 : decode cL_areHours 53 = .ok (.if_icmp .ge 192, 3) := by decide +kernel
theorem dL_areHours_56 : decode cL_areHours 56 = .ok (.iload 4, 2) := by decide +kernel
theorem dL_areHours_58 : decode cL_areHours 58 = .ok (.ifCond .eq 187, 3) := by decide +kernel
theorem dL_areHours_61 : decode cL_areHours 61 = .ok (.aload_n 2, 1) := by decide +kernel
theorem dL_areHours_62 : decode cL_areHours 62 = .ok (.bipush 8, 2) := by decide +kernel
theorem dL_areHours_64 : decode cL_areHours 64 = .ok (.iload 12, 2) := by decide +kernel
theorem dL_areHours_66 : decode cL_areHours 66 = .ok (.imul, 1) := by decide +kernel
theorem dL_areHours_67 : decode cL_areHours 67 = .ok (.aload_n 1, 1) := by decide +kernel
theorem dL_areHours_68 : decode cL_areHours 68 = .ok (.iconst 3, 1) := by decide +kernel
theorem dL_areHours_69 : decode cL_areHours 69 = .ok (.iaload, 1) := by decide +kernel
theorem dL_areHours_70 : decode cL_areHours 70 = .ok (.bipush 8, 2) := by decide +kernel
theorem dL_areHours_72 : decode cL_areHours 72 = .ok (.irem, 1) := by decide +kernel
theorem dL_areHours_73 : decode cL_areHours 73 = .ok (.iadd, 1) := by decide +kernel
theorem dL_areHours_74 : decode cL_areHours 74 = .ok (.iaload, 1) := by decide +kernel
theorem dL_areHours_75 : decode cL_areHours 75 = .ok (.istore 13, 2) := by decide +kernel
theorem dL_areHours_77 : decode cL_areHours 77 = .ok (.aload 10, 2) := by decide +kernel
theorem dL_areHours_79 : decode cL_areHours 79 = .ok (.iload 12, 2) := by decide +kernel
theorem dL_areHours_81 : decode cL_areHours 81 = .ok (.aload_n 0, 1) := by decide +kernel
theorem dL_areHours_82 : decode cL_areHours 82 = .ok (.iload 12, 2) := by decide +kernel
theorem dL_areHours_84 : decode cL_areHours 84 = .ok (.invokevirtual 102, 3) := by decide +kernel
theorem dL_areHours_87 : decode cL_areHours 87 = .ok (.iastore, 1) := by decide +kernel
theorem dL_areHours_88 : decode cL_areHours 88 = .ok (.aload 11, 2) := by decide +kernel
theorem dL_areHours_90 : decode cL_areHours 90 = .ok (.iload 12, 2) := by decide +kernel
theorem dL_areHours_92 : decode cL_areHours 92 = .ok (.aload_n 0, 1) := by decide +kernel
theorem dL_areHours_93 : decode cL_areHours 93 = .ok (.iload 12, 2) := by decide +kernel
theorem dL_areHours_95 : decode cL_areHours 95 = .ok (.iconst 0, 1) := by decide +kernel
theorem dL_areHours_96 : decode cL_areHours 96 = .ok (.invokevirtual 53, 3) := by decide +kernel
theorem dL_areHours_99 : decode cL_areHours 99 = .ok (.lastore, 1) := by decide +kernel
theorem dL_areHours_100 : decode cL_areHours 100 = .ok (.aload_n 0, 1) := by decide +kernel
theorem dL_areHours_101 : decode cL_areHours 101 = .ok (.iload 12, 2) := by decide +kernel
theorem dL_areHours_103 : decode cL_areHours 103 = .ok (.invokevirtual 105, 3) := by decide +kernel
theorem dL_areHours_106 : decode cL_areHours 106 = .ok (.istore 14, 2) := by decide +kernel
theorem dL_areHours_108 : decode cL_areHours 108 = .ok (.lload 6, 2) := by decide +kernel
theorem dL_areHours_110 : decode cL_areHours 110 = .ok (.aload 10, 2) := by decide +kernel
theorem dL_areHours_112 : decode cL_areHours 112 = .ok (.iload 12, 2) := by decide +kernel
theorem dL_areHours_114 : decode cL_areHours 114 = .ok (.iaload, 1) := by decide +kernel
theorem dL_areHours_115 : decode cL_areHours 115 = .ok (.i2l, 1) := by decide +kernel
theorem dL_areHours_116 : decode cL_areHours 116 = .ok (.ladd, 1) := by decide +kernel
theorem dL_areHours_117 : decode cL_areHours 117 = .ok (.lstore 6, 2) := by decide +kernel
theorem dL_areHours_119 : decode cL_areHours 119 = .ok (.iload 14, 2) := by decide +kernel
theorem dL_areHours_121 : decode cL_areHours 121 = .ok (.ifCond .lt 100, 3) := by decide +kernel
theorem dL_areHours_124 : decode cL_areHours 124 = .ok (.iload 14, 2) := by decide +kernel
theorem dL_areHours_126 : decode cL_areHours 126 = .ok (.iconst 4, 1) := by decide +kernel
theorem dL_areHours_127 : decode cL_areHours 127 = .ok (.if_icmp .ge 94, 3) := by decide +kernel
theorem dL_areHours_130 : decode cL_areHours 130 = .ok (.iload 14, 2) := by decide +kernel
theorem dL_areHours_132 : decode cL_areHours 132 = .ok (.ifCond .ne 7, 3) := by decide +kernel
theorem dL_areHours_135 : decode cL_areHours 135 = .ok (.iconst 1, 1) := by decide +kernel
theorem dL_areHours_136 : decode cL_areHours 136 = .ok (.goto 4, 3) := by decide +kernel
theorem dL_areHours_139 : decode cL_areHours 139 = .ok (.iconst 0, 1) := by decide +kernel
theorem dL_areHours_140 : decode cL_areHours 140 = .ok (.aload 10, 2) := by decide +kernel
theorem dL_areHours_142 : decode cL_areHours 142 = .ok (.iload 12, 2) := by decide +kernel
theorem dL_areHours_144 : decode cL_areHours 144 = .ok (.iaload, 1) := by decide +kernel
theorem dL_areHours_145 : decode cL_areHours 145 = .ok (.iload 13, 2) := by decide +kernel
theorem dL_areHours_147 : decode cL_areHours 147 = .ok (.if_icmp .ne 7, 3) := by decide +kernel
theorem dL_areHours_150 : decode cL_areHours 150 = .ok (.iconst 1, 1) := by decide +kernel
theorem dL_areHours_151 : decode cL_areHours 151 = .ok (.goto 4, 3) := by decide +kernel
theorem dL_areHours_154 : decode cL_areHours 154 = .ok (.iconst 0, 1) := by decide +kernel
theorem dL_areHours_155 : decode cL_areHours 155 = .ok (.if_icmp .ne 66, 3) := by decide +kernel
theorem dL_areHours_158 : decode cL_areHours 158 = .ok (.iload 13, 2) := by decide +kernel
theorem dL_areHours_160 : decode cL_areHours 160 = .ok (.ifCond .lt 24, 3) := by decide +kernel
theorem dL_areHours_163 : decode cL_areHours 163 = .ok (.aload 10, 2) := by decide +kernel
theorem dL_areHours_165 : decode cL_areHours 165 = .ok (.iload 12, 2) := by decide +kernel
theorem dL_areHours_167 : decode cL_areHours 167 = .ok (.iaload, 1) := by decide +kernel
theorem dL_areHours_168 : decode cL_areHours 168 = .ok (.ifCond .lt 53, 3) := by decide +kernel
theorem dL_areHours_171 : decode cL_areHours 171 = .ok (.aload 10, 2) := by decide +kernel
theorem dL_areHours_173 : decode cL_areHours 173 = .ok (.iload 12, 2) := by decide +kernel
theorem dL_areHours_175 : decode cL_areHours 175 = .ok (.iaload, 1) := by decide +kernel
theorem dL_areHours_176 : decode cL_areHours 176 = .ok (.iload 13, 2) := by decide +kernel
theorem dL_areHours_178 : decode cL_areHours 178 = .ok (.if_icmp .gt 43, 3) := by decide +kernel
theorem dL_areHours_181 : decode cL_areHours 181 = .ok (.goto 21, 3) := by decide +kernel
theorem dL_areHours_184 : decode cL_areHours 184 = .ok (.aload 10, 2) := by decide +kernel
theorem dL_areHours_186 : decode cL_areHours 186 = .ok (.iload 12, 2) := by decide +kernel
theorem dL_areHours_188 : decode cL_areHours 188 = .ok (.iaload, 1) := by decide +kernel
theorem dL_areHours_189 : decode cL_areHours 189 = .ok (.ifCond .gt 32, 3) := by decide +kernel
theorem dL_areHours_192 : decode cL_areHours 192 = .ok (.aload 10, 2) := by decide +kernel
theorem dL_areHours_194 : decode cL_areHours 194 = .ok (.iload 12, 2) := by decide +kernel
theorem dL_areHours_196 : decode cL_areHours 196 = .ok (.iaload, 1) := by decide +kernel
theorem dL_areHours_197 : decode cL_areHours 197 = .ok (.iload 13, 2) := by decide +kernel
theorem dL_areHours_199 : decode cL_areHours 199 = .ok (.if_icmp .lt 22, 3) := by decide +kernel
theorem dL_areHours_202 : decode cL_areHours 202 = .ok (.aload 10, 2) := by decide +kernel
theorem dL_areHours_204 : decode cL_areHours 204 = .ok (.iload 12, 2) := by decide +kernel
theorem dL_areHours_206 : decode cL_areHours 206 = .ok (.iaload, 1) := by decide +kernel
theorem dL_areHours_207 : decode cL_areHours 207 = .ok (.iconst 1, 1) := by decide +kernel
theorem dL_areHours_208 : decode cL_areHours 208 = .ok (.if_icmp .lt 9, 3) := by decide +kernel
theorem dL_areHours_211 : decode cL_areHours 211 = .ok (.iload 14, 2) := by decide +kernel
theorem dL_areHours_213 : decode cL_areHours 213 = .ok (.iconst 2, 1) := by decide +kernel
theorem dL_areHours_214 : decode cL_areHours 214 = .ok (.if_icmp .eq 7, 3) := by decide +kernel
theorem dL_areHours_217 : decode cL_areHours 217 = .ok (.iconst 1, 1) := by decide +kernel
theorem dL_areHours_218 : decode cL_areHours 218 = .ok (.goto 4, 3) := by decide +kernel
theorem dL_areHours_221 : decode cL_areHours 221 = .ok (.iconst 0, 1) := by decide +kernel
theorem dL_areHours_222 : decode cL_areHours 222 = .ok (.istore 4, 2) := by decide +kernel
theorem dL_areHours_224 : decode cL_areHours 224 = .ok (.aload_n 2, 1) := by decide +kernel
theorem dL_areHours_225 : decode cL_areHours 225 = .ok (.bipush 8, 2) := by decide +kernel
theorem dL_areHours_227 : decode cL_areHours 227 = .ok (.iload 12, 2) := by decide +kernel
theorem dL_areHours_229 : decode cL_areHours 229 = .ok (.imul, 1) := by decide +kernel
theorem dL_areHours_230 : decode cL_areHours 230 = .ok (.aload_n 1, 1) := by decide +kernel
theorem dL_areHours_231 : decode cL_areHours 231 = .ok (.iconst 3, 1) := by decide +kernel
theorem dL_areHours_232 : decode cL_areHours 232 = .ok (.iaload, 1) := by decide +kernel
theorem dL_areHours_233 : decode cL_areHours 233 = .ok (.bipush 8, 2) := by decide +kernel
theorem dL_areHours_235 : decode cL_areHours 235 = .ok (.irem, 1) := by decide +kernel
theorem dL_areHours_236 : decode cL_areHours 236 = .ok (.iadd, 1) := by decide +kernel
theorem dL_areHours_237 : decode cL_areHours 237 = .ok (.iconst 0, 1) := by decide +kernel
theorem dL_areHours_238 : decode cL_areHours 238 = .ok (.iastore, 1) := by decide +kernel
theorem dL_areHours_239 : decode cL_areHours 239 = .ok (.iinc 12 1, 3) := by decide +kernel
theorem dL_areHours_242 : decode cL_areHours 242 = .ok (.goto (-194), 3) := by decide +kernel
theorem dL_areHours_245 : decode cL_areHours 245 = .ok (.aload_n 0, 1) := by decide +kernel
theorem dL_areHours_246 : decode cL_areHours 246 = .ok (.bipush 7, 2) := by decide +kernel
theorem dL_areHours_248 : decode cL_areHours 248 = .ok (.invokevirtual 94, 3) := by decide +kernel
theorem dL_areHours_251 : decode cL_areHours 251 = .ok (.lstore 12, 2) := by decide +kernel
theorem dL_areHours_253 : decode cL_areHours 253 = .ok (.aload_n 0, 1) := by decide +kernel
theorem dL_areHours_254 : decode cL_areHours 254 = .ok (.iconst 5, 1) := by decide +kernel
theorem dL_areHours_255 : decode cL_areHours 255 = .ok (.invokevirtual 94, 3) := by decide +kernel
theorem dL_areHours_258 : decode cL_areHours 258 = .ok (.lstore 14, 2) := by decide +kernel
theorem dL_areHours_260 : decode cL_areHours 260 = .ok (.aload_n 1, 1) := by decide +kernel
theorem dL_areHours_261 : decode cL_areHours 261 = .ok (.iconst 3, 1) := by decide +kernel
theorem dL_areHours_262 : decode cL_areHours 262 = .ok (.dup2, 1) := by decide +kernel
theorem dL_areHours_263 : decode cL_areHours 263 = .ok (.iaload, 1) := by decide +kernel
theorem dL_areHours_264 : decode cL_areHours 264 = .ok (.iconst 1, 1) := by decide +kernel
theorem dL_areHours_265 : decode cL_areHours 265 = .ok (.iadd, 1) := by decide +kernel
theorem dL_areHours_266 : decode cL_areHours 266 = .ok (.iastore, 1) := by decide +kernel
theorem dL_areHours_267 : decode cL_areHours 267 = .ok (.iload 4, 2) := by decide +kernel
theorem dL_areHours_269 : decode cL_areHours 269 = .ok (.ifCond .eq 65, 3) := by decide +kernel
theorem dL_areHours_272 : decode cL_areHours 272 = .ok (.aload_n 0, 1) := by decide +kernel
theorem dL_areHours_273 : decode cL_areHours 273 = .ok (.iconst 1, 1) := by decide +kernel
theorem dL_areHours_274 : decode cL_areHours 274 = .ok (.invokevirtual 108, 3) := by decide +kernel
theorem dL_areHours_277 : decode cL_areHours 277 = .ok (.aload_n 1, 1) := by decide +kernel
theorem dL_areHours_278 : decode cL_areHours 278 = .ok (.iconst 3, 1) := by decide +kernel
theorem dL_areHours_279 : decode cL_areHours 279 = .ok (.iaload, 1) := by decide +kernel
theorem dL_areHours_280 : decode cL_areHours 280 = .ok (.if_icmp .ne 54, 3) := by decide +kernel
theorem dL_areHours_283 : decode cL_areHours 283 = .ok (.aload_n 0, 1) := by decide +kernel
theorem dL_areHours_284 : decode cL_areHours 284 = .ok (.iconst 1, 1) := by decide +kernel
theorem dL_areHours_285 : decode cL_areHours 285 = .ok (.invokevirtual 94, 3) := by decide +kernel
theorem dL_areHours_288 : decode cL_areHours 288 = .ok (.aload_n 0, 1) := by decide +kernel
theorem dL_areHours_289 : decode cL_areHours 289 = .ok (.iconst 2, 1) := by decide +kernel
theorem dL_areHours_290 : decode cL_areHours 290 = .ok (.invokevirtual 94, 3) := by decide +kernel
theorem dL_areHours_293 : decode cL_areHours 293 = .ok (.ladd, 1) := by decide +kernel
theorem dL_areHours_294 : decode cL_areHours 294 = .ok (.lload 8, 2) := by decide +kernel
theorem dL_areHours_296 : decode cL_areHours 296 = .ok (.lload 6, 2) := by decide +kernel
theorem dL_areHours_298 : decode cL_areHours 298 = .ok (.lconst 0, 1) := by decide +kernel
theorem dL_areHours_299 : decode cL_areHours 299 = .ok (.lcmp, 1) := by decide +kernel
theorem dL_areHours_300 : decode cL_areHours 300 = .ok (.ifCond .ge 9, 3) := by decide +kernel
theorem dL_areHours_303 : decode cL_areHours 303 = .ok (.lload 6, 2) := by decide +kernel
theorem dL_areHours_305 : decode cL_areHours 305 = .ok (.lneg, 1) := by decide +kernel
theorem dL_areHours_306 : decode cL_areHours 306 = .ok (.goto 5, 3) := by decide +kernel
theorem dL_areHours_309 : decode cL_areHours 309 = .ok (.lload 6, 2) := by decide +kernel
theorem dL_areHours_311 : decode cL_areHours 311 = .ok (.ladd, 1) := by decide +kernel
theorem dL_areHours_312 : decode cL_areHours 312 = .ok (.lcmp, 1) := by decide +kernel
theorem dL_areHours_313 : decode cL_areHours 313 = .ok (.ifCond .ne 21, 3) := by decide +kernel
theorem dL_areHours_316 : decode cL_areHours 316 = .ok (.aload_n 0, 1) := by decide +kernel
theorem dL_areHours_317 : decode cL_areHours 317 = .ok (.iconst 5, 1) := by decide +kernel
theorem dL_areHours_318 : decode cL_areHours 318 = .ok (.invokevirtual 94, 3) := by decide +kernel
theorem dL_areHours_321 : decode cL_areHours 321 = .ok (.lload 14, 2) := by decide +kernel
theorem dL_areHours_323 : decode cL_areHours 323 = .ok (.lload 6, 2) := by decide +kernel
theorem dL_areHours_325 : decode cL_areHours 325 = .ok (.ladd, 1) := by decide +kernel
theorem dL_areHours_326 : decode cL_areHours 326 = .ok (.lcmp, 1) := by decide +kernel
theorem dL_areHours_327 : decode cL_areHours 327 = .ok (.ifCond .ne 7, 3) := by decide +kernel
theorem dL_areHours_330 : decode cL_areHours 330 = .ok (.iconst 1, 1) := by decide +kernel
theorem dL_areHours_331 : decode cL_areHours 331 = .ok (.goto 4, 3) := by decide +kernel
theorem dL_areHours_334 : decode cL_areHours 334 = .ok (.iconst 0, 1) := by decide +kernel
theorem dL_areHours_335 : decode cL_areHours 335 = .ok (.istore 4, 2) := by decide +kernel
theorem dL_areHours_337 : decode cL_areHours 337 = .ok (.iconst 0, 1) := by decide +kernel
theorem dL_areHours_338 : decode cL_areHours 338 = .ok (.istore 16, 2) := by decide +kernel
theorem dL_areHours_340 : decode cL_areHours 340 = .ok (.iload 16, 2) := by decide +kernel
theorem dL_areHours_342 : decode cL_areHours 342 = .ok (.aload_n 1, 1) := by decide +kernel
theorem dL_areHours_343 : decode cL_areHours 343 = .ok (.iconst 1, 1) := by decide +kernel
theorem dL_areHours_344 : decode cL_areHours 344 = .ok (.iaload, 1) := by decide +kernel
theorem dL_areHours_345 : decode cL_areHours 345 = .ok (.if_icmp .ge 56, 3) := by decide +kernel
theorem dL_areHours_348 : decode cL_areHours 348 = .ok (.iload 4, 2) := by decide +kernel
theorem dL_areHours_350 : decode cL_areHours 350 = .ok (.ifCond .eq 51, 3) := by decide +kernel
theorem dL_areHours_353 : decode cL_areHours 353 = .ok (.aload_n 0, 1) := by decide +kernel
theorem dL_areHours_354 : decode cL_areHours 354 = .ok (.iload 16, 2) := by decide +kernel
theorem dL_areHours_356 : decode cL_areHours 356 = .ok (.iconst 0, 1) := by decide +kernel
theorem dL_areHours_357 : decode cL_areHours 357 = .ok (.invokevirtual 53, 3) := by decide +kernel
theorem dL_areHours_360 : decode cL_areHours 360 = .ok (.aload 11, 2) := by decide +kernel
theorem dL_areHours_362 : decode cL_areHours 362 = .ok (.iload 16, 2) := by decide +kernel
theorem dL_areHours_364 : decode cL_areHours 364 = .ok (.laload, 1) := by decide +kernel
theorem dL_areHours_365 : decode cL_areHours 365 = .ok (.aload 10, 2) := by decide +kernel
theorem dL_areHours_367 : decode cL_areHours 367 = .ok (.iload 16, 2) := by decide +kernel
theorem dL_areHours_369 : decode cL_areHours 369 = .ok (.iaload, 1) := by decide +kernel
theorem dL_areHours_370 : decode cL_areHours 370 = .ok (.i2l, 1) := by decide +kernel
theorem dL_areHours_371 : decode cL_areHours 371 = .ok (.ladd, 1) := by decide +kernel
theorem dL_areHours_372 : decode cL_areHours 372 = .ok (.lcmp, 1) := by decide +kernel
theorem dL_areHours_373 : decode cL_areHours 373 = .ok (.ifCond .ne 19, 3) := by decide +kernel
theorem dL_areHours_376 : decode cL_areHours 376 = .ok (.aload_n 0, 1) := by decide +kernel
theorem dL_areHours_377 : decode cL_areHours 377 = .ok (.iload 16, 2) := by decide +kernel
theorem dL_areHours_379 : decode cL_areHours 379 = .ok (.iconst 0, 1) := by decide +kernel
theorem dL_areHours_380 : decode cL_areHours 380 = .ok (.invokevirtual 53, 3) := by decide +kernel
theorem dL_areHours_383 : decode cL_areHours 383 = .ok (.lconst 0, 1) := by decide +kernel
theorem dL_areHours_384 : decode cL_areHours 384 = .ok (.lcmp, 1) := by decide +kernel
theorem dL_areHours_385 : decode cL_areHours 385 = .ok (.ifCond .lt 7, 3) := by decide +kernel
theorem dL_areHours_388 : decode cL_areHours 388 = .ok (.iconst 1, 1) := by decide +kernel
theorem dL_areHours_389 : decode cL_areHours 389 = .ok (.goto 4, 3) := by decide +kernel
theorem dL_areHours_392 : decode cL_areHours 392 = .ok (.iconst 0, 1) := by decide +kernel
theorem dL_areHours_393 : decode cL_areHours 393 = .ok (.istore 4, 2) := by decide +kernel
theorem dL_areHours_395 : decode cL_areHours 395 = .ok (.iinc 16 1, 3) := by decide +kernel
theorem dL_areHours_398 : decode cL_areHours 398 = .ok (.goto (-58), 3) := by decide +kernel
theorem dL_areHours_401 : decode cL_areHours 401 = .ok (.iload 4, 2) := by decide +kernel
theorem dL_areHours_403 : decode cL_areHours 403 = .ok (.ifCond .eq 53, 3) := by decide +kernel
theorem dL_areHours_406 : decode cL_areHours 406 = .ok (.lload 12, 2) := by decide +kernel
theorem dL_areHours_408 : decode cL_areHours 408 = .ok (.lconst 0, 1) := by decide +kernel
theorem dL_areHours_409 : decode cL_areHours 409 = .ok (.lcmp, 1) := by decide +kernel
theorem dL_areHours_410 : decode cL_areHours 410 = .ok (.ifCond .eq 34, 3) := by decide +kernel
theorem dL_areHours_413 : decode cL_areHours 413 = .ok (.aload_n 0, 1) := by decide +kernel
theorem dL_areHours_414 : decode cL_areHours 414 = .ok (.iconst 5, 1) := by decide +kernel
theorem dL_areHours_415 : decode cL_areHours 415 = .ok (.invokevirtual 94, 3) := by decide +kernel
theorem dL_areHours_418 : decode cL_areHours 418 = .ok (.lload 14, 2) := by decide +kernel
theorem dL_areHours_420 : decode cL_areHours 420 = .ok (.lload 12, 2) := by decide +kernel
theorem dL_areHours_422 : decode cL_areHours 422 = .ok (.lcmp, 1) := by decide +kernel
theorem dL_areHours_423 : decode cL_areHours 423 = .ok (.ifCond .ge 8, 3) := by decide +kernel
theorem dL_areHours_426 : decode cL_areHours 426 = .ok (.lload 14, 2) := by decide +kernel
theorem dL_areHours_428 : decode cL_areHours 428 = .ok (.goto 5, 3) := by decide +kernel
theorem dL_areHours_431 : decode cL_areHours 431 = .ok (.lload 12, 2) := by decide +kernel
theorem dL_areHours_433 : decode cL_areHours 433 = .ok (.lcmp, 1) := by decide +kernel
theorem dL_areHours_434 : decode cL_areHours 434 = .ok (.ifCond .ge 10, 3) := by decide +kernel
theorem dL_areHours_437 : decode cL_areHours 437 = .ok (.lload 6, 2) := by decide +kernel
theorem dL_areHours_439 : decode cL_areHours 439 = .ok (.lconst 0, 1) := by decide +kernel
theorem dL_areHours_440 : decode cL_areHours 440 = .ok (.lcmp, 1) := by decide +kernel
theorem dL_areHours_441 : decode cL_areHours 441 = .ok (.ifCond .lt 15, 3) := by decide +kernel
theorem dL_areHours_444 : decode cL_areHours 444 = .ok (.aload_n 0, 1) := by decide +kernel
theorem dL_areHours_445 : decode cL_areHours 445 = .ok (.aload_n 1, 1) := by decide +kernel
theorem dL_areHours_446 : decode cL_areHours 446 = .ok (.invokestatic 111, 3) := by decide +kernel
theorem dL_areHours_449 : decode cL_areHours 449 = .ok (.ifCond .eq 7, 3) := by decide +kernel
theorem dL_areHours_452 : decode cL_areHours 452 = .ok (.iconst 1, 1) := by decide +kernel
theorem dL_areHours_453 : decode cL_areHours 453 = .ok (.goto 4, 3) := by decide +kernel
theorem dL_areHours_456 : decode cL_areHours 456 = .ok (.iconst 0, 1) := by decide +kernel
theorem dL_areHours_457 : decode cL_areHours 457 = .ok (.istore 4, 2) := by decide +kernel
theorem dL_areHours_459 : decode cL_areHours 459 = .ok (.iinc 5 1, 3) := by decide +kernel
theorem dL_areHours_462 : decode cL_areHours 462 = .ok (.goto (-456), 3) := by decide +kernel
theorem dL_areHours_465 : decode cL_areHours 465 = .ok (.iload 4, 2) := by decide +kernel
theorem dL_areHours_467 : decode cL_areHours 467 = .ok (.ireturn, 1) := by decide +kernel
theorem dL_areStores_0 : decode cL_areStores 0 = .ok (.aload_n 0, 1) := by decide +kernel
theorem dL_areStores_1 : decode cL_areStores 1 = .ok (.iconst 1, 1) := by decide +kernel
theorem dL_areStores_2 : decode cL_areStores 2 = .ok (.invokevirtual 94, 3) := by decide +kernel
theorem dL_areStores_5 : decode cL_areStores 5 = .ok (.aload_n 0, 1) := by decide +kernel
theorem dL_areStores_6 : decode cL_areStores 6 = .ok (.iconst 2, 1) := by decide +kernel
theorem dL_areStores_7 : decode cL_areStores 7 = .ok (.invokevirtual 94, 3) := by decide +kernel
theorem dL_areStores_10 : decode cL_areStores 10 = .ok (.aload_n 0, 1) := by decide +kernel
theorem dL_areStores_11 : decode cL_areStores 11 = .ok (.iconst 3, 1) := by decide +kernel
theorem dL_areStores_12 : decode cL_areStores 12 = .ok (.invokevirtual 94, 3) := by decide +kernel
theorem dL_areStores_15 : decode cL_areStores 15 = .ok (.ladd, 1) := by decide +kernel
theorem dL_areStores_16 : decode cL_areStores 16 = .ok (.aload_n 0, 1) := by decide +kernel
theorem dL_areStores_17 : decode cL_areStores 17 = .ok (.iconst 4, 1) := by decide +kernel
theorem dL_areStores_18 : decode cL_areStores 18 = .ok (.invokevirtual 94, 3) := by decide +kernel
theorem dL_areStores_21 : decode cL_areStores 21 = .ok (.ladd, 1) := by decide +kernel
theorem dL_areStores_22 : decode cL_areStores 22 = .ok (.lcmp, 1) := by decide +kernel
theorem dL_areStores_23 : decode cL_areStores 23 = .ok (.ifCond .ne 41, 3) := by decide +kernel
theorem dL_areStores_26 : decode cL_areStores 26 = .ok (.aload_n 0, 1) := by decide +kernel
theorem dL_areStores_27 : decode cL_areStores 27 = .ok (.bipush 6, 2) := by decide +kernel
theorem dL_areStores_29 : decode cL_areStores 29 = .ok (.invokevirtual 94, 3) := by decide +kernel
theorem dL_areStores_32 : decode cL_areStores 32 = .ok (.aload_n 0, 1) := by decide +kernel
theorem dL_areStores_33 : decode cL_areStores 33 = .ok (.iconst 4, 1) := by decide +kernel
theorem dL_areStores_34 : decode cL_areStores 34 = .ok (.invokevirtual 94, 3) := by decide +kernel
theorem dL_areStores_37 : decode cL_areStores 37 = .ok (.aload_n 0, 1) := by decide +kernel
theorem dL_areStores_38 : decode cL_areStores 38 = .ok (.iconst 5, 1) := by decide +kernel
theorem dL_areStores_39 : decode cL_areStores 39 = .ok (.invokevirtual 94, 3) := by decide +kernel
theorem dL_areStores_42 : decode cL_areStores 42 = .ok (.lsub, 1) := by decide +kernel
theorem dL_areStores_43 : decode cL_areStores 43 = .ok (.lcmp, 1) := by decide +kernel
theorem dL_areStores_44 : decode cL_areStores 44 = .ok (.ifCond .ne 20, 3) := by decide +kernel
theorem dL_areStores_47 : decode cL_areStores 47 = .ok (.aload_n 0, 1) := by decide +kernel
theorem dL_areStores_48 : decode cL_areStores 48 = .ok (.iconst 0, 1) := by decide +kernel
theorem dL_areStores_49 : decode cL_areStores 49 = .ok (.invokevirtual 94, 3) := by decide +kernel
theorem dL_areStores_52 : decode cL_areStores 52 = .ok (.aload_n 1, 1) := by decide +kernel
theorem dL_areStores_53 : decode cL_areStores 53 = .ok (.iconst 3, 1) := by decide +kernel
theorem dL_areStores_54 : decode cL_areStores 54 = .ok (.iaload, 1) := by decide +kernel
theorem dL_areStores_55 : decode cL_areStores 55 = .ok (.i2l, 1) := by decide +kernel
theorem dL_areStores_56 : decode cL_areStores 56 = .ok (.lcmp, 1) := by decide +kernel
theorem dL_areStores_57 : decode cL_areStores 57 = .ok (.ifCond .ne 7, 3) := by decide +kernel
theorem dL_areStores_60 : decode cL_areStores 60 = .ok (.iconst 1, 1) := by decide +kernel
theorem dL_areStores_61 : decode cL_areStores 61 = .ok (.goto 4, 3) := by decide +kernel
theorem dL_areStores_64 : decode cL_areStores 64 = .ok (.iconst 0, 1) := by decide +kernel
theorem dL_areStores_65 : decode cL_areStores 65 = .ok (.istore_n 2, 1) := by decide +kernel
theorem dL_areStores_66 : decode cL_areStores 66 = .ok (.lconst 0, 1) := by decide +kernel
theorem dL_areStores_67 : decode cL_areStores 67 = .ok (.lstore_n 3, 1) := by decide +kernel
theorem dL_areStores_68 : decode cL_areStores 68 = .ok (.iconst 0, 1) := by decide +kernel
theorem dL_areStores_69 : decode cL_areStores 69 = .ok (.istore 5, 2) := by decide +kernel
theorem dL_areStores_71 : decode cL_areStores 71 = .ok (.iload 5, 2) := by decide +kernel
theorem dL_areStores_73 : decode cL_areStores 73 = .ok (.aload_n 1, 1) := by decide +kernel
theorem dL_areStores_74 : decode cL_areStores 74 = .ok (.iconst 0, 1) := by decide +kernel
theorem dL_areStores_75 : decode cL_areStores 75 = .ok (.iaload, 1) := by decide +kernel
theorem dL_areStores_76 : decode cL_areStores 76 = .ok (.if_icmp .ge 156, 3) := by decide +kernel
theorem dL_areStores_79 : decode cL_areStores 79 = .ok (.iload_n 2, 1) := by decide +kernel
theorem dL_areStores_80 : decode cL_areStores 80 = .ok (.ifCond .eq 152, 3) := by decide +kernel
theorem dL_areStores_83 : decode cL_areStores 83 = .ok (.aload_n 0, 1) := by decide +kernel
theorem dL_areStores_84 : decode cL_areStores 84 = .ok (.iload 5, 2) := by decide +kernel
theorem dL_areStores_86 : decode cL_areStores 86 = .ok (.iconst 0, 1) := by decide +kernel
theorem dL_areStores_87 : decode cL_areStores 87 = .ok (.invokevirtual 77, 3) := by decide +kernel
theorem dL_areStores_90 : decode cL_areStores 90 = .ok (.lstore 6, 2) := by decide +kernel
theorem dL_areStores_92 : decode cL_areStores 92 = .ok (.lload_n 3, 1) := by decide +kernel
theorem dL_areStores_93 : decode cL_areStores 93 = .ok (.lload 6, 2) := by decide +kernel
theorem dL_areStores_95 : decode cL_areStores 95 = .ok (.ladd, 1) := by decide +kernel
theorem dL_areStores_96 : decode cL_areStores 96 = .ok (.lstore_n 3, 1) := by decide +kernel
theorem dL_areStores_97 : decode cL_areStores 97 = .ok (.lload 6, 2) := by decide +kernel
theorem dL_areStores_99 : decode cL_areStores 99 = .ok (.lconst 0, 1) := by decide +kernel
theorem dL_areStores_100 : decode cL_areStores 100 = .ok (.lcmp, 1) := by decide +kernel
theorem dL_areStores_101 : decode cL_areStores 101 = .ok (.ifCond .lt 123, 3) := by decide +kernel
theorem dL_areStores_104 : decode cL_areStores 104 = .ok (.lload 6, 2) := by decide +kernel
theorem dL_areStores_106 : decode cL_areStores 106 = .ok (.aload_n 0, 1) := by decide +kernel
theorem dL_areStores_107 : decode cL_areStores 107 = .ok (.iload 5, 2) := by decide +kernel
theorem dL_areStores_109 : decode cL_areStores 109 = .ok (.bipush 6, 2) := by decide +kernel
theorem dL_areStores_111 : decode cL_areStores 111 = .ok (.invokevirtual 77, 3) := by decide +kernel
theorem dL_areStores_114 : decode cL_areStores 114 = .ok (.lcmp, 1) := by decide +kernel
theorem dL_areStores_115 : decode cL_areStores 115 = .ok (.ifCond .gt 109, 3) := by decide +kernel
theorem dL_areStores_118 : decode cL_areStores 118 = .ok (.aload_n 0, 1) := by decide +kernel
theorem dL_areStores_119 : decode cL_areStores 119 = .ok (.iload 5, 2) := by decide +kernel
theorem dL_areStores_121 : decode cL_areStores 121 = .ok (.iconst 1, 1) := by decide +kernel
theorem dL_areStores_122 : decode cL_areStores 122 = .ok (.invokevirtual 77, 3) := by decide +kernel
theorem dL_areStores_125 : decode cL_areStores 125 = .ok (.aload_n 0, 1) := by decide +kernel
theorem dL_areStores_126 : decode cL_areStores 126 = .ok (.iload 5, 2) := by decide +kernel
theorem dL_areStores_128 : decode cL_areStores 128 = .ok (.iconst 2, 1) := by decide +kernel
theorem dL_areStores_129 : decode cL_areStores 129 = .ok (.invokevirtual 77, 3) := by decide +kernel
theorem dL_areStores_132 : decode cL_areStores 132 = .ok (.aload_n 0, 1) := by decide +kernel
theorem dL_areStores_133 : decode cL_areStores 133 = .ok (.iload 5, 2) := by decide +kernel
theorem dL_areStores_135 : decode cL_areStores 135 = .ok (.iconst 3, 1) := by decide +kernel
theorem dL_areStores_136 : decode cL_areStores 136 = .ok (.invokevirtual 77, 3) := by decide +kernel
theorem dL_areStores_139 : decode cL_areStores 139 = .ok (.lsub, 1) := by decide +kernel
theorem dL_areStores_140 : decode cL_areStores 140 = .ok (.lcmp, 1) := by decide +kernel
theorem dL_areStores_141 : decode cL_areStores 141 = .ok (.ifCond .ne 83, 3) := by decide +kernel
theorem dL_areStores_144 : decode cL_areStores 144 = .ok (.aload_n 0, 1) := by decide +kernel
theorem dL_areStores_145 : decode cL_areStores 145 = .ok (.iload 5, 2) := by decide +kernel
theorem dL_areStores_147 : decode cL_areStores 147 = .ok (.iconst 1, 1) := by decide +kernel
theorem dL_areStores_148 : decode cL_areStores 148 = .ok (.invokevirtual 77, 3) := by decide +kernel
theorem dL_areStores_151 : decode cL_areStores 151 = .ok (.lconst 0, 1) := by decide +kernel
theorem dL_areStores_152 : decode cL_areStores 152 = .ok (.lcmp, 1) := by decide +kernel
theorem dL_areStores_153 : decode cL_areStores 153 = .ok (.ifCond .le 71, 3) := by decide +kernel
theorem dL_areStores_156 : decode cL_areStores 156 = .ok (.aload_n 0, 1) := by decide +kernel
theorem dL_areStores_157 : decode cL_areStores 157 = .ok (.iload 5, 2) := by decide +kernel
theorem dL_areStores_159 : decode cL_areStores 159 = .ok (.iconst 4, 1) := by decide +kernel
theorem dL_areStores_160 : decode cL_areStores 160 = .ok (.invokevirtual 77, 3) := by decide +kernel
theorem dL_areStores_163 : decode cL_areStores 163 = .ok (.lconst 0, 1) := by decide +kernel
theorem dL_areStores_164 : decode cL_areStores 164 = .ok (.lcmp, 1) := by decide +kernel
theorem dL_areStores_165 : decode cL_areStores 165 = .ok (.ifCond .lt 59, 3) := by decide +kernel
theorem dL_areStores_168 : decode cL_areStores 168 = .ok (.aload_n 0, 1) := by decide +kernel
theorem dL_areStores_169 : decode cL_areStores 169 = .ok (.iload 5, 2) := by decide +kernel
theorem dL_areStores_171 : decode cL_areStores 171 = .ok (.invokevirtual 115, 3) := by decide +kernel
theorem dL_areStores_174 : decode cL_areStores 174 = .ok (.i2l, 1) := by decide +kernel
theorem dL_areStores_175 : decode cL_areStores 175 = .ok (.ldc2_w 118, 3) := by decide +kernel
theorem dL_areStores_178 : decode cL_areStores 178 = .ok (.lload 6, 2) := by decide +kernel
theorem dL_areStores_180 : decode cL_areStores 180 = .ok (.lmul, 1) := by decide +kernel
theorem dL_areStores_181 : decode cL_areStores 181 = .ok (.aload_n 0, 1) := by decide +kernel
theorem dL_areStores_182 : decode cL_areStores 182 = .ok (.iload 5, 2) := by decide +kernel
theorem dL_areStores_184 : decode cL_areStores 184 = .ok (.iconst 1, 1) := by decide +kernel
theorem dL_areStores_185 : decode cL_areStores 185 = .ok (.invokevirtual 77, 3) := by decide +kernel
theorem dL_areStores_188 : decode cL_areStores 188 = .ok (.ldiv, 1) := by decide +kernel
theorem dL_areStores_189 : decode cL_areStores 189 = .ok (.lcmp, 1) := by decide +kernel
theorem dL_areStores_190 : decode cL_areStores 190 = .ok (.ifCond .ne 34, 3) := by decide +kernel
theorem dL_areStores_193 : decode cL_areStores 193 = .ok (.lload 6, 2) := by decide +kernel
theorem dL_areStores_195 : decode cL_areStores 195 = .ok (.lconst 0, 1) := by decide +kernel
theorem dL_areStores_196 : decode cL_areStores 196 = .ok (.lcmp, 1) := by decide +kernel
theorem dL_areStores_197 : decode cL_areStores 197 = .ok (.ifCond .gt 12, 3) := by decide +kernel
theorem dL_areStores_200 : decode cL_areStores 200 = .ok (.aload_n 0, 1) := by decide +kernel
theorem dL_areStores_201 : decode cL_areStores 201 = .ok (.iload 5, 2) := by decide +kernel
theorem dL_areStores_203 : decode cL_areStores 203 = .ok (.invokevirtual 120, 3) := by decide +kernel
theorem dL_areStores_206 : decode cL_areStores 206 = .ok (.ifCond .ne 18, 3) := by decide +kernel
theorem dL_areStores_209 : decode cL_areStores 209 = .ok (.aload_n 0, 1) := by decide +kernel
theorem dL_areStores_210 : decode cL_areStores 210 = .ok (.iload 5, 2) := by decide +kernel
theorem dL_areStores_212 : decode cL_areStores 212 = .ok (.invokevirtual 120, 3) := by decide +kernel
theorem dL_areStores_215 : decode cL_areStores 215 = .ok (.ldc 48, 2) := by decide +kernel
theorem dL_areStores_217 : decode cL_areStores 217 = .ok (.if_icmp .gt 7, 3) := by decide +kernel
theorem dL_areStores_220 : decode cL_areStores 220 = .ok (.iconst 1, 1) := by decide +kernel
theorem dL_areStores_221 : decode cL_areStores 221 = .ok (.goto 4, 3) := by decide +kernel
theorem dL_areStores_224 : decode cL_areStores 224 = .ok (.iconst 0, 1) := by decide +kernel
theorem dL_areStores_225 : decode cL_areStores 225 = .ok (.istore_n 2, 1) := by decide +kernel
theorem dL_areStores_226 : decode cL_areStores 226 = .ok (.iinc 5 1, 3) := by decide +kernel
theorem dL_areStores_229 : decode cL_areStores 229 = .ok (.goto (-158), 3) := by decide +kernel
theorem dL_areStores_232 : decode cL_areStores 232 = .ok (.iload_n 2, 1) := by decide +kernel
theorem dL_areStores_233 : decode cL_areStores 233 = .ok (.ifCond .eq 17, 3) := by decide +kernel
theorem dL_areStores_236 : decode cL_areStores 236 = .ok (.aload_n 0, 1) := by decide +kernel
theorem dL_areStores_237 : decode cL_areStores 237 = .ok (.iconst 4, 1) := by decide +kernel
theorem dL_areStores_238 : decode cL_areStores 238 = .ok (.invokevirtual 94, 3) := by decide +kernel
theorem dL_areStores_241 : decode cL_areStores 241 = .ok (.lload_n 3, 1) := by decide +kernel
theorem dL_areStores_242 : decode cL_areStores 242 = .ok (.lcmp, 1) := by decide +kernel
theorem dL_areStores_243 : decode cL_areStores 243 = .ok (.ifCond .ne 7, 3) := by decide +kernel
theorem dL_areStores_246 : decode cL_areStores 246 = .ok (.iconst 1, 1) := by decide +kernel
theorem dL_areStores_247 : decode cL_areStores 247 = .ok (.goto 4, 3) := by decide +kernel
theorem dL_areStores_250 : decode cL_areStores 250 = .ok (.iconst 0, 1) := by decide +kernel
theorem dL_areStores_251 : decode cL_areStores 251 = .ok (.ireturn, 1) := by decide +kernel
theorem dL_law_0 : decode cL_law 0 = .ok (.new 11, 3) := by decide +kernel
theorem dL_law_3 : decode cL_law 3 = .ok (.dup, 1) := by decide +kernel
theorem dL_law_4 : decode cL_law 4 = .ok (.invokespecial 123, 3) := by decide +kernel
theorem dL_law_7 : decode cL_law 7 = .ok (.astore_n 1, 1) := by decide +kernel
theorem dL_law_8 : decode cL_law 8 = .ok (.iconst 5, 1) := by decide +kernel
theorem dL_law_9 : decode cL_law 9 = .ok (.newarray .int, 2) := by decide +kernel
theorem dL_law_11 : decode cL_law 11 = .ok (.astore_n 2, 1) := by decide +kernel
theorem dL_law_12 : decode cL_law 12 = .ok (.bipush 48, 2) := by decide +kernel
theorem dL_law_14 : decode cL_law 14 = .ok (.newarray .int, 2) := by decide +kernel
theorem dL_law_16 : decode cL_law 16 = .ok (.astore_n 3, 1) := by decide +kernel
theorem dL_law_17 : decode cL_law 17 = .ok (.aload_n 2, 1) := by decide +kernel
theorem dL_law_18 : decode cL_law 18 = .ok (.iconst 4, 1) := by decide +kernel
theorem dL_law_19 : decode cL_law 19 = .ok (.sipush 10000, 3) := by decide +kernel
theorem dL_law_22 : decode cL_law 22 = .ok (.iastore, 1) := by decide +kernel
theorem dL_law_23 : decode cL_law 23 = .ok (.aload_n 1, 1) := by decide +kernel
theorem dL_law_24 : decode cL_law 24 = .ok (.iconst 0, 1) := by decide +kernel
theorem dL_law_25 : decode cL_law 25 = .ok (.invokevirtual 94, 3) := by decide +kernel
theorem dL_law_28 : decode cL_law 28 = .ok (.lconst 0, 1) := by decide +kernel
theorem dL_law_29 : decode cL_law 29 = .ok (.lcmp, 1) := by decide +kernel
theorem dL_law_30 : decode cL_law 30 = .ok (.ifCond .ne 28, 3) := by decide +kernel
theorem dL_law_33 : decode cL_law 33 = .ok (.aload_n 1, 1) := by decide +kernel
theorem dL_law_34 : decode cL_law 34 = .ok (.iconst 4, 1) := by decide +kernel
theorem dL_law_35 : decode cL_law 35 = .ok (.invokevirtual 94, 3) := by decide +kernel
theorem dL_law_38 : decode cL_law 38 = .ok (.lconst 0, 1) := by decide +kernel
theorem dL_law_39 : decode cL_law 39 = .ok (.lcmp, 1) := by decide +kernel
theorem dL_law_40 : decode cL_law 40 = .ok (.ifCond .ne 18, 3) := by decide +kernel
theorem dL_law_43 : decode cL_law 43 = .ok (.aload_n 1, 1) := by decide +kernel
theorem dL_law_44 : decode cL_law 44 = .ok (.bipush 7, 2) := by decide +kernel
theorem dL_law_46 : decode cL_law 46 = .ok (.invokevirtual 94, 3) := by decide +kernel
theorem dL_law_49 : decode cL_law 49 = .ok (.lconst 0, 1) := by decide +kernel
theorem dL_law_50 : decode cL_law 50 = .ok (.lcmp, 1) := by decide +kernel
theorem dL_law_51 : decode cL_law 51 = .ok (.ifCond .ne 7, 3) := by decide +kernel
theorem dL_law_54 : decode cL_law 54 = .ok (.iconst 1, 1) := by decide +kernel
theorem dL_law_55 : decode cL_law 55 = .ok (.goto 4, 3) := by decide +kernel
theorem dL_law_58 : decode cL_law 58 = .ok (.iconst 0, 1) := by decide +kernel
theorem dL_law_59 : decode cL_law 59 = .ok (.istore 4, 2) := by decide +kernel
theorem dL_law_61 : decode cL_law 61 = .ok (.aload_n 0, 1) := by decide +kernel
theorem dL_law_62 : decode cL_law 62 = .ok (.arraylength, 1) := by decide +kernel
theorem dL_law_63 : decode cL_law 63 = .ok (.iconst 3, 1) := by decide +kernel
theorem dL_law_64 : decode cL_law 64 = .ok (.idiv, 1) := by decide +kernel
theorem dL_law_65 : decode cL_law 65 = .ok (.bipush 50, 2) := by decide +kernel
theorem dL_law_67 : decode cL_law 67 = .ok (.if_icmp .le 8, 3) := by decide +kernel
theorem dL_law_70 : decode cL_law 70 = .ok (.bipush 50, 2) := by decide +kernel
theorem dL_law_72 : decode cL_law 72 = .ok (.goto 7, 3) := by decide +kernel
theorem dL_law_75 : decode cL_law 75 = .ok (.aload_n 0, 1) := by decide +kernel
theorem dL_law_76 : decode cL_law 76 = .ok (.arraylength, 1) := by decide +kernel
theorem dL_law_77 : decode cL_law 77 = .ok (.iconst 3, 1) := by decide +kernel
theorem dL_law_78 : decode cL_law 78 = .ok (.idiv, 1) := by decide +kernel
theorem dL_law_79 : decode cL_law 79 = .ok (.istore 5, 2) := by decide +kernel
theorem dL_law_81 : decode cL_law 81 = .ok (.iconst 0, 1) := by decide +kernel
theorem dL_law_82 : decode cL_law 82 = .ok (.istore 6, 2) := by decide +kernel
theorem dL_law_84 : decode cL_law 84 = .ok (.iload 6, 2) := by decide +kernel
theorem dL_law_86 : decode cL_law 86 = .ok (.iload 5, 2) := by decide +kernel
theorem dL_law_88 : decode cL_law 88 = .ok (.if_icmp .ge 66, 3) := by decide +kernel
theorem dL_law_91 : decode cL_law 91 = .ok (.iload 4, 2) := by decide +kernel
theorem dL_law_93 : decode cL_law 93 = .ok (.ifCond .eq 61, 3) := by decide +kernel
theorem dL_law_96 : decode cL_law 96 = .ok (.aload_n 1, 1) := by decide +kernel
theorem dL_law_97 : decode cL_law 97 = .ok (.aload_n 2, 1) := by decide +kernel
theorem dL_law_98 : decode cL_law 98 = .ok (.aload_n 3, 1) := by decide +kernel
theorem dL_law_99 : decode cL_law 99 = .ok (.aload_n 0, 1) := by decide +kernel
theorem dL_law_100 : decode cL_law 100 = .ok (.iconst 3, 1) := by decide +kernel
theorem dL_law_101 : decode cL_law 101 = .ok (.iload 6, 2) := by decide +kernel
theorem dL_law_103 : decode cL_law 103 = .ok (.imul, 1) := by decide +kernel
theorem dL_law_104 : decode cL_law 104 = .ok (.invokestatic 124, 3) := by decide +kernel
theorem dL_law_107 : decode cL_law 107 = .ok (.aload_n 0, 1) := by decide +kernel
theorem dL_law_108 : decode cL_law 108 = .ok (.iconst 3, 1) := by decide +kernel
theorem dL_law_109 : decode cL_law 109 = .ok (.iload 6, 2) := by decide +kernel
theorem dL_law_111 : decode cL_law 111 = .ok (.imul, 1) := by decide +kernel
theorem dL_law_112 : decode cL_law 112 = .ok (.iconst 1, 1) := by decide +kernel
theorem dL_law_113 : decode cL_law 113 = .ok (.iadd, 1) := by decide +kernel
theorem dL_law_114 : decode cL_law 114 = .ok (.invokestatic 124, 3) := by decide +kernel
theorem dL_law_117 : decode cL_law 117 = .ok (.aload_n 0, 1) := by decide +kernel
theorem dL_law_118 : decode cL_law 118 = .ok (.iconst 3, 1) := by decide +kernel
theorem dL_law_119 : decode cL_law 119 = .ok (.iload 6, 2) := by decide +kernel
theorem dL_law_121 : decode cL_law 121 = .ok (.imul, 1) := by decide +kernel
theorem dL_law_122 : decode cL_law 122 = .ok (.iconst 2, 1) := by decide +kernel
theorem dL_law_123 : decode cL_law 123 = .ok (.iadd, 1) := by decide +kernel
theorem dL_law_124 : decode cL_law 124 = .ok (.invokestatic 124, 3) := by decide +kernel
theorem dL_law_127 : decode cL_law 127 = .ok (.invokestatic 128, 3) := by decide +kernel
theorem dL_law_130 : decode cL_law 130 = .ok (.ifCond .eq 15, 3) := by decide +kernel
theorem dL_law_133 : decode cL_law 133 = .ok (.aload_n 1, 1) := by decide +kernel
theorem dL_law_134 : decode cL_law 134 = .ok (.aload_n 2, 1) := by decide +kernel
theorem dL_law_135 : decode cL_law 135 = .ok (.invokestatic 111, 3) := by decide +kernel
theorem dL_law_138 : decode cL_law 138 = .ok (.ifCond .eq 7, 3) := by decide +kernel
theorem dL_law_141 : decode cL_law 141 = .ok (.iconst 1, 1) := by decide +kernel
theorem dL_law_142 : decode cL_law 142 = .ok (.goto 4, 3) := by decide +kernel
theorem dL_law_145 : decode cL_law 145 = .ok (.iconst 0, 1) := by decide +kernel
theorem dL_law_146 : decode cL_law 146 = .ok (.istore 4, 2) := by decide +kernel
theorem dL_law_148 : decode cL_law 148 = .ok (.iinc 6 1, 3) := by decide +kernel
theorem dL_law_151 : decode cL_law 151 = .ok (.goto (-67), 3) := by decide +kernel
theorem dL_law_154 : decode cL_law 154 = .ok (.iload 4, 2) := by decide +kernel
theorem dL_law_156 : decode cL_law 156 = .ok (.ireturn, 1) := by decide +kernel
