theorem dX0_init_0 : decode cX0_init 0 = .ok (.aload_n 0, 1) := by decide +kernel
theorem dX0_init_1 : decode cX0_init 1 = .ok (.invokespecial 3, 3) := by decide +kernel
theorem dX0_init_4 : decode cX0_init 4 = .ok (.aload_n 0, 1) := by decide +kernel
theorem dX0_init_5 : decode cX0_init 5 = .ok (.new 9, 3) := by decide +kernel
theorem dX0_init_8 : decode cX0_init 8 = .ok (.dup, 1) := by decide +kernel
theorem dX0_init_9 : decode cX0_init 9 = .ok (.invokespecial 11, 3) := by decide +kernel
theorem dX0_init_12 : decode cX0_init 12 = .ok (.putfield 12, 3) := by decide +kernel
theorem dX0_init_15 : decode cX0_init 15 = .ok (.aload_n 0, 1) := by decide +kernel
theorem dX0_init_16 : decode cX0_init 16 = .ok (.iconst 0, 1) := by decide +kernel
theorem dX0_init_17 : decode cX0_init 17 = .ok (.putfield 18, 3) := by decide +kernel
theorem dX0_init_20 : decode cX0_init 20 = .ok (.aload_n 0, 1) := by decide +kernel
theorem dX0_init_21 : decode cX0_init 21 = .ok (.lconst 0, 1) := by decide +kernel
theorem dX0_init_22 : decode cX0_init 22 = .ok (.putfield 22, 3) := by decide +kernel
theorem dX0_init_25 : decode cX0_init 25 = .ok (.aload_n 0, 1) := by decide +kernel
theorem dX0_init_26 : decode cX0_init 26 = .ok (.lconst 0, 1) := by decide +kernel
theorem dX0_init_27 : decode cX0_init 27 = .ok (.putfield 26, 3) := by decide +kernel
theorem dX0_init_30 : decode cX0_init 30 = .ok (.aload_n 0, 1) := by decide +kernel
theorem dX0_init_31 : decode cX0_init 31 = .ok (.lconst 0, 1) := by decide +kernel
theorem dX0_init_32 : decode cX0_init 32 = .ok (.putfield 29, 3) := by decide +kernel
theorem dX0_init_35 : decode cX0_init 35 = .ok (.aload_n 0, 1) := by decide +kernel
theorem dX0_init_36 : decode cX0_init 36 = .ok (.iconst 0, 1) := by decide +kernel
theorem dX0_init_37 : decode cX0_init 37 = .ok (.putfield 32, 3) := by decide +kernel
theorem dX0_init_40 : decode cX0_init 40 = .ok (.aload_n 0, 1) := by decide +kernel
theorem dX0_init_41 : decode cX0_init 41 = .ok (.iconst 0, 1) := by decide +kernel
theorem dX0_init_42 : decode cX0_init 42 = .ok (.putfield 35, 3) := by decide +kernel
theorem dX0_init_45 : decode cX0_init 45 = .ok (.aload_n 0, 1) := by decide +kernel
theorem dX0_init_46 : decode cX0_init 46 = .ok (.iconst 0, 1) := by decide +kernel
theorem dX0_init_47 : decode cX0_init 47 = .ok (.putfield 38, 3) := by decide +kernel
theorem dX0_init_50 : decode cX0_init 50 = .ok (.aload_n 0, 1) := by decide +kernel
theorem dX0_init_51 : decode cX0_init 51 = .ok (.iload_n 1, 1) := by decide +kernel
theorem dX0_init_52 : decode cX0_init 52 = .ok (.putfield 41, 3) := by decide +kernel
theorem dX0_init_55 : decode cX0_init 55 = .ok (.aload_n 0, 1) := by decide +kernel
theorem dX0_init_56 : decode cX0_init 56 = .ok (.iload_n 2, 1) := by decide +kernel
theorem dX0_init_57 : decode cX0_init 57 = .ok (.putfield 44, 3) := by decide +kernel
theorem dX0_init_60 : decode cX0_init 60 = .ok (.aload_n 0, 1) := by decide +kernel
theorem dX0_init_61 : decode cX0_init 61 = .ok (.iload_n 3, 1) := by decide +kernel
theorem dX0_init_62 : decode cX0_init 62 = .ok (.putfield 47, 3) := by decide +kernel
theorem dX0_init_65 : decode cX0_init 65 = .ok (.aload_n 0, 1) := by decide +kernel
theorem dX0_init_66 : decode cX0_init 66 = .ok (.iload 4, 2) := by decide +kernel
theorem dX0_init_68 : decode cX0_init 68 = .ok (.putfield 50, 3) := by decide +kernel
theorem dX0_init_71 : decode cX0_init 71 = .ok (.return_, 1) := by decide +kernel
theorem dX0_rateInWith_0 : decode cX0_rateInWith 0 = .ok (.iconst 3, 1) := by decide +kernel
theorem dX0_rateInWith_1 : decode cX0_rateInWith 1 = .ok (.iload_n 1, 1) := by decide +kernel
theorem dX0_rateInWith_2 : decode cX0_rateInWith 2 = .ok (.imul, 1) := by decide +kernel
theorem dX0_rateInWith_3 : decode cX0_rateInWith 3 = .ok (.iconst 2, 1) := by decide +kernel
theorem dX0_rateInWith_4 : decode cX0_rateInWith 4 = .ok (.aload_n 0, 1) := by decide +kernel
theorem dX0_rateInWith_5 : decode cX0_rateInWith 5 = .ok (.getfield 41, 3) := by decide +kernel
theorem dX0_rateInWith_8 : decode cX0_rateInWith 8 = .ok (.imul, 1) := by decide +kernel
theorem dX0_rateInWith_9 : decode cX0_rateInWith 9 = .ok (.if_icmp .le 12, 3) := by decide +kernel
theorem dX0_rateInWith_12 : decode cX0_rateInWith 12 = .ok (.aload_n 0, 1) := by decide +kernel
theorem dX0_rateInWith_13 : decode cX0_rateInWith 13 = .ok (.getfield 44, 3) := by decide +kernel
theorem dX0_rateInWith_16 : decode cX0_rateInWith 16 = .ok (.iconst 2, 1) := by decide +kernel
theorem dX0_rateInWith_17 : decode cX0_rateInWith 17 = .ok (.idiv, 1) := by decide +kernel
theorem dX0_rateInWith_18 : decode cX0_rateInWith 18 = .ok (.goto 7, 3) := by decide +kernel
theorem dX0_rateInWith_21 : decode cX0_rateInWith 21 = .ok (.aload_n 0, 1) := by decide +kernel
theorem dX0_rateInWith_22 : decode cX0_rateInWith 22 = .ok (.getfield 44, 3) := by decide +kernel
theorem dX0_rateInWith_25 : decode cX0_rateInWith 25 = .ok (.ireturn, 1) := by decide +kernel
theorem dX0_rateOutWith_0 : decode cX0_rateOutWith 0 = .ok (.iconst 3, 1) := by decide +kernel
theorem dX0_rateOutWith_1 : decode cX0_rateOutWith 1 = .ok (.iload_n 1, 1) := by decide +kernel
theorem dX0_rateOutWith_2 : decode cX0_rateOutWith 2 = .ok (.imul, 1) := by decide +kernel
theorem dX0_rateOutWith_3 : decode cX0_rateOutWith 3 = .ok (.aload_n 0, 1) := by decide +kernel
theorem dX0_rateOutWith_4 : decode cX0_rateOutWith 4 = .ok (.getfield 41, 3) := by decide +kernel
theorem dX0_rateOutWith_7 : decode cX0_rateOutWith 7 = .ok (.if_icmp .ge 12, 3) := by decide +kernel
theorem dX0_rateOutWith_10 : decode cX0_rateOutWith 10 = .ok (.aload_n 0, 1) := by decide +kernel
theorem dX0_rateOutWith_11 : decode cX0_rateOutWith 11 = .ok (.getfield 47, 3) := by decide +kernel
theorem dX0_rateOutWith_14 : decode cX0_rateOutWith 14 = .ok (.iconst 2, 1) := by decide +kernel
theorem dX0_rateOutWith_15 : decode cX0_rateOutWith 15 = .ok (.idiv, 1) := by decide +kernel
theorem dX0_rateOutWith_16 : decode cX0_rateOutWith 16 = .ok (.goto 7, 3) := by decide +kernel
theorem dX0_rateOutWith_19 : decode cX0_rateOutWith 19 = .ok (.aload_n 0, 1) := by decide +kernel
theorem dX0_rateOutWith_20 : decode cX0_rateOutWith 20 = .ok (.getfield 47, 3) := by decide +kernel
theorem dX0_rateOutWith_23 : decode cX0_rateOutWith 23 = .ok (.ireturn, 1) := by decide +kernel
theorem dX0_mostIn_0 : decode cX0_mostIn 0 = .ok (.aload_n 0, 1) := by decide +kernel
theorem dX0_mostIn_1 : decode cX0_mostIn 1 = .ok (.iload_n 1, 1) := by decide +kernel
theorem dX0_mostIn_2 : decode cX0_mostIn 2 = .ok (.invokevirtual 53, 3) := by decide +kernel
theorem dX0_mostIn_5 : decode cX0_mostIn 5 = .ok (.aload_n 0, 1) := by decide +kernel
theorem dX0_mostIn_6 : decode cX0_mostIn 6 = .ok (.getfield 41, 3) := by decide +kernel
theorem dX0_mostIn_9 : decode cX0_mostIn 9 = .ok (.iload_n 1, 1) := by decide +kernel
theorem dX0_mostIn_10 : decode cX0_mostIn 10 = .ok (.isub, 1) := by decide +kernel
theorem dX0_mostIn_11 : decode cX0_mostIn 11 = .ok (.invokestatic 57, 3) := by decide +kernel
theorem dX0_mostIn_14 : decode cX0_mostIn 14 = .ok (.ireturn, 1) := by decide +kernel
theorem dX0_mostOut_0 : decode cX0_mostOut 0 = .ok (.aload_n 0, 1) := by decide +kernel
theorem dX0_mostOut_1 : decode cX0_mostOut 1 = .ok (.iload_n 1, 1) := by decide +kernel
theorem dX0_mostOut_2 : decode cX0_mostOut 2 = .ok (.invokevirtual 63, 3) := by decide +kernel
theorem dX0_mostOut_5 : decode cX0_mostOut 5 = .ok (.iload_n 1, 1) := by decide +kernel
theorem dX0_mostOut_6 : decode cX0_mostOut 6 = .ok (.invokestatic 57, 3) := by decide +kernel
theorem dX0_mostOut_9 : decode cX0_mostOut 9 = .ok (.ireturn, 1) := by decide +kernel
theorem dX0_planByRates_0 : decode cX0_planByRates 0 = .ok (.aload_n 0, 1) := by decide +kernel
theorem dX0_planByRates_1 : decode cX0_planByRates 1 = .ok (.getfield 12, 3) := by decide +kernel
theorem dX0_planByRates_4 : decode cX0_planByRates 4 = .ok (.iload_n 1, 1) := by decide +kernel
theorem dX0_planByRates_5 : decode cX0_planByRates 5 = .ok (.invokevirtual 66, 3) := by decide +kernel
theorem dX0_planByRates_8 : decode cX0_planByRates 8 = .ok (.istore_n 2, 1) := by decide +kernel
theorem dX0_planByRates_9 : decode cX0_planByRates 9 = .ok (.aload_n 0, 1) := by decide +kernel
theorem dX0_planByRates_10 : decode cX0_planByRates 10 = .ok (.aload_n 0, 1) := by decide +kernel
theorem dX0_planByRates_11 : decode cX0_planByRates 11 = .ok (.aload_n 0, 1) := by decide +kernel
theorem dX0_planByRates_12 : decode cX0_planByRates 12 = .ok (.getfield 18, 3) := by decide +kernel
theorem dX0_planByRates_15 : decode cX0_planByRates 15 = .ok (.invokevirtual 69, 3) := by decide +kernel
theorem dX0_planByRates_18 : decode cX0_planByRates 18 = .ok (.ineg, 1) := by decide +kernel
theorem dX0_planByRates_19 : decode cX0_planByRates 19 = .ok (.iload_n 2, 1) := by decide +kernel
theorem dX0_planByRates_20 : decode cX0_planByRates 20 = .ok (.aload_n 0, 1) := by decide +kernel
theorem dX0_planByRates_21 : decode cX0_planByRates 21 = .ok (.aload_n 0, 1) := by decide +kernel
theorem dX0_planByRates_22 : decode cX0_planByRates 22 = .ok (.getfield 18, 3) := by decide +kernel
theorem dX0_planByRates_25 : decode cX0_planByRates 25 = .ok (.invokevirtual 72, 3) := by decide +kernel
theorem dX0_planByRates_28 : decode cX0_planByRates 28 = .ok (.invokestatic 57, 3) := by decide +kernel
theorem dX0_planByRates_31 : decode cX0_planByRates 31 = .ok (.invokestatic 75, 3) := by decide +kernel
theorem dX0_planByRates_34 : decode cX0_planByRates 34 = .ok (.putfield 32, 3) := by decide +kernel
theorem dX0_planByRates_37 : decode cX0_planByRates 37 = .ok (.aload_n 0, 1) := by decide +kernel
theorem dX0_planByRates_38 : decode cX0_planByRates 38 = .ok (.iconst 0, 1) := by decide +kernel
theorem dX0_planByRates_39 : decode cX0_planByRates 39 = .ok (.putfield 35, 3) := by decide +kernel
theorem dX0_planByRates_42 : decode cX0_planByRates 42 = .ok (.aload_n 0, 1) := by decide +kernel
theorem dX0_planByRates_43 : decode cX0_planByRates 43 = .ok (.aload_n 0, 1) := by decide +kernel
theorem dX0_planByRates_44 : decode cX0_planByRates 44 = .ok (.getfield 32, 3) := by decide +kernel
theorem dX0_planByRates_47 : decode cX0_planByRates 47 = .ok (.iload_n 2, 1) := by decide +kernel
theorem dX0_planByRates_48 : decode cX0_planByRates 48 = .ok (.if_icmp .ne 7, 3) := by decide +kernel
theorem dX0_planByRates_51 : decode cX0_planByRates 51 = .ok (.iconst 0, 1) := by decide +kernel
theorem dX0_planByRates_52 : decode cX0_planByRates 52 = .ok (.goto 4, 3) := by decide +kernel
theorem dX0_planByRates_55 : decode cX0_planByRates 55 = .ok (.iconst 1, 1) := by decide +kernel
theorem dX0_planByRates_56 : decode cX0_planByRates 56 = .ok (.putfield 38, 3) := by decide +kernel
theorem dX0_planByRates_59 : decode cX0_planByRates 59 = .ok (.return_, 1) := by decide +kernel
theorem dX0_sizeOfPlan_0 : decode cX0_sizeOfPlan 0 = .ok (.iconst 0, 1) := by decide +kernel
theorem dX0_sizeOfPlan_1 : decode cX0_sizeOfPlan 1 = .ok (.iload_n 1, 1) := by decide +kernel
theorem dX0_sizeOfPlan_2 : decode cX0_sizeOfPlan 2 = .ok (.ifCond .eq 10, 3) := by decide +kernel
theorem dX0_sizeOfPlan_5 : decode cX0_sizeOfPlan 5 = .ok (.aload_n 0, 1) := by decide +kernel
theorem dX0_sizeOfPlan_6 : decode cX0_sizeOfPlan 6 = .ok (.getfield 32, 3) := by decide +kernel
theorem dX0_sizeOfPlan_9 : decode cX0_sizeOfPlan 9 = .ok (.goto 8, 3) := by decide +kernel
theorem dX0_sizeOfPlan_12 : decode cX0_sizeOfPlan 12 = .ok (.aload_n 0, 1) := by decide +kernel
theorem dX0_sizeOfPlan_13 : decode cX0_sizeOfPlan 13 = .ok (.getfield 32, 3) := by decide +kernel
theorem dX0_sizeOfPlan_16 : decode cX0_sizeOfPlan 16 = .ok (.ineg, 1) := by decide +kernel
theorem dX0_sizeOfPlan_17 : decode cX0_sizeOfPlan 17 = .ok (.invokestatic 75, 3) := by decide +kernel
theorem dX0_sizeOfPlan_20 : decode cX0_sizeOfPlan 20 = .ok (.ireturn, 1) := by decide +kernel
theorem dX0_cutBack_0 : decode cX0_cutBack 0 = .ok (.aload_n 0, 1) := by decide +kernel
theorem dX0_cutBack_1 : decode cX0_cutBack 1 = .ok (.iload_n 1, 1) := by decide +kernel
theorem dX0_cutBack_2 : decode cX0_cutBack 2 = .ok (.invokevirtual 78, 3) := by decide +kernel
theorem dX0_cutBack_5 : decode cX0_cutBack 5 = .ok (.iload_n 2, 1) := by decide +kernel
theorem dX0_cutBack_6 : decode cX0_cutBack 6 = .ok (.invokestatic 57, 3) := by decide +kernel
theorem dX0_cutBack_9 : decode cX0_cutBack 9 = .ok (.istore 4, 2) := by decide +kernel
theorem dX0_cutBack_11 : decode cX0_cutBack 11 = .ok (.iload 4, 2) := by decide +kernel
theorem dX0_cutBack_13 : decode cX0_cutBack 13 = .ok (.ifCond .gt 5, 3) := by decide +kernel
theorem dX0_cutBack_16 : decode cX0_cutBack 16 = .ok (.iconst 0, 1) := by decide +kernel
theorem dX0_cutBack_17 : decode cX0_cutBack 17 = .ok (.ireturn, 1) := by decide +kernel
theorem dX0_cutBack_18 : decode cX0_cutBack 18 = .ok (.aload_n 0, 1) := by decide +kernel
theorem dX0_cutBack_19 : decode cX0_cutBack 19 = .ok (.dup, 1) := by decide +kernel
theorem dX0_cutBack_20 : decode cX0_cutBack 20 = .ok (.getfield 32, 3) := by decide +kernel
theorem dX0_cutBack_23 : decode cX0_cutBack 23 = .ok (.iload_n 1, 1) := by decide +kernel
theorem dX0_cutBack_24 : decode cX0_cutBack 24 = .ok (.ifCond .eq 9, 3) := by decide +kernel
theorem dX0_cutBack_27 : decode cX0_cutBack 27 = .ok (.iload 4, 2) := by decide +kernel
theorem dX0_cutBack_29 : decode cX0_cutBack 29 = .ok (.ineg, 1) := by decide +kernel
theorem dX0_cutBack_30 : decode cX0_cutBack 30 = .ok (.goto 5, 3) := by decide +kernel
theorem dX0_cutBack_33 : decode cX0_cutBack 33 = .ok (.iload 4, 2) := by decide +kernel
theorem dX0_cutBack_35 : decode cX0_cutBack 35 = .ok (.iadd, 1) := by decide +kernel
theorem dX0_cutBack_36 : decode cX0_cutBack 36 = .ok (.putfield 32, 3) := by decide +kernel
theorem dX0_cutBack_39 : decode cX0_cutBack 39 = .ok (.aload_n 0, 1) := by decide +kernel
theorem dX0_cutBack_40 : decode cX0_cutBack 40 = .ok (.dup, 1) := by decide +kernel
theorem dX0_cutBack_41 : decode cX0_cutBack 41 = .ok (.getfield 35, 3) := by decide +kernel
theorem dX0_cutBack_44 : decode cX0_cutBack 44 = .ok (.iload 4, 2) := by decide +kernel
theorem dX0_cutBack_46 : decode cX0_cutBack 46 = .ok (.iadd, 1) := by decide +kernel
theorem dX0_cutBack_47 : decode cX0_cutBack 47 = .ok (.putfield 35, 3) := by decide +kernel
theorem dX0_cutBack_50 : decode cX0_cutBack 50 = .ok (.aload_n 0, 1) := by decide +kernel
theorem dX0_cutBack_51 : decode cX0_cutBack 51 = .ok (.getfield 38, 3) := by decide +kernel
theorem dX0_cutBack_54 : decode cX0_cutBack 54 = .ok (.ifCond .ne 8, 3) := by decide +kernel
theorem dX0_cutBack_57 : decode cX0_cutBack 57 = .ok (.aload_n 0, 1) := by decide +kernel
theorem dX0_cutBack_58 : decode cX0_cutBack 58 = .ok (.iload_n 3, 1) := by decide +kernel
theorem dX0_cutBack_59 : decode cX0_cutBack 59 = .ok (.putfield 38, 3) := by decide +kernel
theorem dX0_cutBack_62 : decode cX0_cutBack 62 = .ok (.iload 4, 2) := by decide +kernel
theorem dX0_cutBack_64 : decode cX0_cutBack 64 = .ok (.ireturn, 1) := by decide +kernel
theorem dX0_settle_0 : decode cX0_settle 0 = .ok (.aload_n 0, 1) := by decide +kernel
theorem dX0_settle_1 : decode cX0_settle 1 = .ok (.dup, 1) := by decide +kernel
theorem dX0_settle_2 : decode cX0_settle 2 = .ok (.getfield 18, 3) := by decide +kernel
theorem dX0_settle_5 : decode cX0_settle 5 = .ok (.aload_n 0, 1) := by decide +kernel
theorem dX0_settle_6 : decode cX0_settle 6 = .ok (.getfield 32, 3) := by decide +kernel
theorem dX0_settle_9 : decode cX0_settle 9 = .ok (.iadd, 1) := by decide +kernel
theorem dX0_settle_10 : decode cX0_settle 10 = .ok (.putfield 18, 3) := by decide +kernel
theorem dX0_settle_13 : decode cX0_settle 13 = .ok (.aload_n 0, 1) := by decide +kernel
theorem dX0_settle_14 : decode cX0_settle 14 = .ok (.dup, 1) := by decide +kernel
theorem dX0_settle_15 : decode cX0_settle 15 = .ok (.getfield 22, 3) := by decide +kernel
theorem dX0_settle_18 : decode cX0_settle 18 = .ok (.aload_n 0, 1) := by decide +kernel
theorem dX0_settle_19 : decode cX0_settle 19 = .ok (.iconst 1, 1) := by decide +kernel
theorem dX0_settle_20 : decode cX0_settle 20 = .ok (.invokevirtual 78, 3) := by decide +kernel
theorem dX0_settle_23 : decode cX0_settle 23 = .ok (.i2l, 1) := by decide +kernel
theorem dX0_settle_24 : decode cX0_settle 24 = .ok (.ladd, 1) := by decide +kernel
theorem dX0_settle_25 : decode cX0_settle 25 = .ok (.putfield 22, 3) := by decide +kernel
theorem dX0_settle_28 : decode cX0_settle 28 = .ok (.aload_n 0, 1) := by decide +kernel
theorem dX0_settle_29 : decode cX0_settle 29 = .ok (.dup, 1) := by decide +kernel
theorem dX0_settle_30 : decode cX0_settle 30 = .ok (.getfield 26, 3) := by decide +kernel
theorem dX0_settle_33 : decode cX0_settle 33 = .ok (.aload_n 0, 1) := by decide +kernel
theorem dX0_settle_34 : decode cX0_settle 34 = .ok (.iconst 0, 1) := by decide +kernel
theorem dX0_settle_35 : decode cX0_settle 35 = .ok (.invokevirtual 78, 3) := by decide +kernel
theorem dX0_settle_38 : decode cX0_settle 38 = .ok (.i2l, 1) := by decide +kernel
theorem dX0_settle_39 : decode cX0_settle 39 = .ok (.ladd, 1) := by decide +kernel
theorem dX0_settle_40 : decode cX0_settle 40 = .ok (.putfield 26, 3) := by decide +kernel
theorem dX0_settle_43 : decode cX0_settle 43 = .ok (.aload_n 0, 1) := by decide +kernel
theorem dX0_settle_44 : decode cX0_settle 44 = .ok (.dup, 1) := by decide +kernel
theorem dX0_settle_45 : decode cX0_settle 45 = .ok (.getfield 29, 3) := by decide +kernel
theorem dX0_settle_48 : decode cX0_settle 48 = .ok (.aload_n 0, 1) := by decide +kernel
theorem dX0_settle_49 : decode cX0_settle 49 = .ok (.getfield 35, 3) := by decide +kernel
theorem dX0_settle_52 : decode cX0_settle 52 = .ok (.i2l, 1) := by decide +kernel
theorem dX0_settle_53 : decode cX0_settle 53 = .ok (.ladd, 1) := by decide +kernel
theorem dX0_settle_54 : decode cX0_settle 54 = .ok (.putfield 29, 3) := by decide +kernel
theorem dX0_settle_57 : decode cX0_settle 57 = .ok (.aload_n 0, 1) := by decide +kernel
theorem dX0_settle_58 : decode cX0_settle 58 = .ok (.getfield 12, 3) := by decide +kernel
theorem dX0_settle_61 : decode cX0_settle 61 = .ok (.iload_n 1, 1) := by decide +kernel
theorem dX0_settle_62 : decode cX0_settle 62 = .ok (.iconst 0, 1) := by decide +kernel
theorem dX0_settle_63 : decode cX0_settle 63 = .ok (.invokevirtual 82, 3) := by decide +kernel
theorem dX0_settle_66 : decode cX0_settle 66 = .ok (.pop, 1) := by decide +kernel
theorem dX0_settle_67 : decode cX0_settle 67 = .ok (.return_, 1) := by decide +kernel
theorem dX1_init_0 : decode cX1_init 0 = .ok (.aload_n 0, 1) := by decide +kernel
theorem dX1_init_1 : decode cX1_init 1 = .ok (.invokespecial 1, 3) := by decide +kernel
theorem dX1_init_4 : decode cX1_init 4 = .ok (.aload_n 0, 1) := by decide +kernel
theorem dX1_init_5 : decode cX1_init 5 = .ok (.bipush 64, 2) := by decide +kernel
theorem dX1_init_7 : decode cX1_init 7 = .ok (.newarray .int, 2) := by decide +kernel
theorem dX1_init_9 : decode cX1_init 9 = .ok (.putfield 9, 3) := by decide +kernel
theorem dX1_init_12 : decode cX1_init 12 = .ok (.return_, 1) := by decide +kernel
theorem dX1_at_0 : decode cX1_at 0 = .ok (.aload_n 0, 1) := by decide +kernel
theorem dX1_at_1 : decode cX1_at 1 = .ok (.getfield 9, 3) := by decide +kernel
theorem dX1_at_4 : decode cX1_at 4 = .ok (.iload_n 1, 1) := by decide +kernel
theorem dX1_at_5 : decode cX1_at 5 = .ok (.bipush 64, 2) := by decide +kernel
theorem dX1_at_7 : decode cX1_at 7 = .ok (.invokestatic 13, 3) := by decide +kernel
theorem dX1_at_10 : decode cX1_at 10 = .ok (.iaload, 1) := by decide +kernel
theorem dX1_at_11 : decode cX1_at 11 = .ok (.ireturn, 1) := by decide +kernel
theorem dX1_put_0 : decode cX1_put 0 = .ok (.iload_n 1, 1) := by decide +kernel
theorem dX1_put_1 : decode cX1_put 1 = .ok (.bipush 64, 2) := by decide +kernel
theorem dX1_put_3 : decode cX1_put 3 = .ok (.invokestatic 13, 3) := by decide +kernel
theorem dX1_put_6 : decode cX1_put 6 = .ok (.istore_n 3, 1) := by decide +kernel
theorem dX1_put_7 : decode cX1_put 7 = .ok (.aload_n 0, 1) := by decide +kernel
theorem dX1_put_8 : decode cX1_put 8 = .ok (.getfield 9, 3) := by decide +kernel
theorem dX1_put_11 : decode cX1_put 11 = .ok (.iload_n 3, 1) := by decide +kernel
theorem dX1_put_12 : decode cX1_put 12 = .ok (.iaload, 1) := by decide +kernel
theorem dX1_put_13 : decode cX1_put 13 = .ok (.istore 4, 2) := by decide +kernel
theorem dX1_put_15 : decode cX1_put 15 = .ok (.aload_n 0, 1) := by decide +kernel
theorem dX1_put_16 : decode cX1_put 16 = .ok (.getfield 9, 3) := by decide +kernel
theorem dX1_put_19 : decode cX1_put 19 = .ok (.iload_n 3, 1) := by decide +kernel
theorem dX1_put_20 : decode cX1_put 20 = .ok (.iload_n 2, 1) := by decide +kernel
theorem dX1_put_21 : decode cX1_put 21 = .ok (.iastore, 1) := by decide +kernel
theorem dX1_put_22 : decode cX1_put 22 = .ok (.iload 4, 2) := by decide +kernel
theorem dX1_put_24 : decode cX1_put 24 = .ok (.ireturn, 1) := by decide +kernel
theorem dX2_init_0 : decode cX2_init 0 = .ok (.aload_n 0, 1) := by decide +kernel
theorem dX2_init_1 : decode cX2_init 1 = .ok (.invokespecial 1, 3) := by decide +kernel
theorem dX2_init_4 : decode cX2_init 4 = .ok (.aload_n 0, 1) := by decide +kernel
theorem dX2_init_5 : decode cX2_init 5 = .ok (.iload_n 1, 1) := by decide +kernel
theorem dX2_init_6 : decode cX2_init 6 = .ok (.putfield 7, 3) := by decide +kernel
theorem dX2_init_9 : decode cX2_init 9 = .ok (.aload_n 0, 1) := by decide +kernel
theorem dX2_init_10 : decode cX2_init 10 = .ok (.iload_n 2, 1) := by decide +kernel
theorem dX2_init_11 : decode cX2_init 11 = .ok (.putfield 13, 3) := by decide +kernel
theorem dX2_init_14 : decode cX2_init 14 = .ok (.aload_n 0, 1) := by decide +kernel
theorem dX2_init_15 : decode cX2_init 15 = .ok (.iload_n 3, 1) := by decide +kernel
theorem dX2_init_16 : decode cX2_init 16 = .ok (.putfield 16, 3) := by decide +kernel
theorem dX2_init_19 : decode cX2_init 19 = .ok (.return_, 1) := by decide +kernel
theorem dX3_init_0 : decode cX3_init 0 = .ok (.aload_n 0, 1) := by decide +kernel
theorem dX3_init_1 : decode cX3_init 1 = .ok (.invokespecial 3, 3) := by decide +kernel
theorem dX3_init_4 : decode cX3_init 4 = .ok (.aload_n 0, 1) := by decide +kernel
theorem dX3_init_5 : decode cX3_init 5 = .ok (.iconst 0, 1) := by decide +kernel
theorem dX3_init_6 : decode cX3_init 6 = .ok (.putfield 9, 3) := by decide +kernel
theorem dX3_init_9 : decode cX3_init 9 = .ok (.aload_n 0, 1) := by decide +kernel
theorem dX3_init_10 : decode cX3_init 10 = .ok (.iconst 0, 1) := by decide +kernel
theorem dX3_init_11 : decode cX3_init 11 = .ok (.putfield 15, 3) := by decide +kernel
theorem dX3_init_14 : decode cX3_init 14 = .ok (.aload_n 0, 1) := by decide +kernel
theorem dX3_init_15 : decode cX3_init 15 = .ok (.lconst 0, 1) := by decide +kernel
theorem dX3_init_16 : decode cX3_init 16 = .ok (.putfield 18, 3) := by decide +kernel
theorem dX3_init_19 : decode cX3_init 19 = .ok (.aload_n 0, 1) := by decide +kernel
theorem dX3_init_20 : decode cX3_init 20 = .ok (.iconst 0, 1) := by decide +kernel
theorem dX3_init_21 : decode cX3_init 21 = .ok (.putfield 22, 3) := by decide +kernel
theorem dX3_init_24 : decode cX3_init 24 = .ok (.aload_n 0, 1) := by decide +kernel
theorem dX3_init_25 : decode cX3_init 25 = .ok (.iconst 0, 1) := by decide +kernel
theorem dX3_init_26 : decode cX3_init 26 = .ok (.putfield 25, 3) := by decide +kernel
theorem dX3_init_29 : decode cX3_init 29 = .ok (.aload_n 0, 1) := by decide +kernel
theorem dX3_init_30 : decode cX3_init 30 = .ok (.iconst 0, 1) := by decide +kernel
theorem dX3_init_31 : decode cX3_init 31 = .ok (.putfield 28, 3) := by decide +kernel
theorem dX3_init_34 : decode cX3_init 34 = .ok (.aload_n 0, 1) := by decide +kernel
theorem dX3_init_35 : decode cX3_init 35 = .ok (.iload_n 1, 1) := by decide +kernel
theorem dX3_init_36 : decode cX3_init 36 = .ok (.putfield 31, 3) := by decide +kernel
theorem dX3_init_39 : decode cX3_init 39 = .ok (.aload_n 0, 1) := by decide +kernel
theorem dX3_init_40 : decode cX3_init 40 = .ok (.iload_n 2, 1) := by decide +kernel
theorem dX3_init_41 : decode cX3_init 41 = .ok (.putfield 34, 3) := by decide +kernel
theorem dX3_init_44 : decode cX3_init 44 = .ok (.aload_n 0, 1) := by decide +kernel
theorem dX3_init_45 : decode cX3_init 45 = .ok (.iload_n 3, 1) := by decide +kernel
theorem dX3_init_46 : decode cX3_init 46 = .ok (.putfield 37, 3) := by decide +kernel
theorem dX3_init_49 : decode cX3_init 49 = .ok (.aload_n 0, 1) := by decide +kernel
theorem dX3_init_50 : decode cX3_init 50 = .ok (.iload 4, 2) := by decide +kernel
theorem dX3_init_52 : decode cX3_init 52 = .ok (.putfield 40, 3) := by decide +kernel
theorem dX3_init_55 : decode cX3_init 55 = .ok (.aload_n 0, 1) := by decide +kernel
theorem dX3_init_56 : decode cX3_init 56 = .ok (.iload 5, 2) := by decide +kernel
theorem dX3_init_58 : decode cX3_init 58 = .ok (.putfield 43, 3) := by decide +kernel
theorem dX3_init_61 : decode cX3_init 61 = .ok (.return_, 1) := by decide +kernel
theorem dX3_leastGasFor_0 : decode cX3_leastGasFor 0 = .ok (.iload_n 0, 1) := by decide +kernel
theorem dX3_leastGasFor_1 : decode cX3_leastGasFor 1 = .ok (.iload_n 1, 1) := by decide +kernel
theorem dX3_leastGasFor_2 : decode cX3_leastGasFor 2 = .ok (.imul, 1) := by decide +kernel
theorem dX3_leastGasFor_3 : decode cX3_leastGasFor 3 = .ok (.bipush 99, 2) := by decide +kernel
theorem dX3_leastGasFor_5 : decode cX3_leastGasFor 5 = .ok (.iadd, 1) := by decide +kernel
theorem dX3_leastGasFor_6 : decode cX3_leastGasFor 6 = .ok (.bipush 100, 2) := by decide +kernel
theorem dX3_leastGasFor_8 : decode cX3_leastGasFor 8 = .ok (.idiv, 1) := by decide +kernel
theorem dX3_leastGasFor_9 : decode cX3_leastGasFor 9 = .ok (.ireturn, 1) := by decide +kernel
theorem dX3_mostGasFor_0 : decode cX3_mostGasFor 0 = .ok (.iload_n 0, 1) := by decide +kernel
theorem dX3_mostGasFor_1 : decode cX3_mostGasFor 1 = .ok (.iload_n 1, 1) := by decide +kernel
theorem dX3_mostGasFor_2 : decode cX3_mostGasFor 2 = .ok (.imul, 1) := by decide +kernel
theorem dX3_mostGasFor_3 : decode cX3_mostGasFor 3 = .ok (.bipush 100, 2) := by decide +kernel
theorem dX3_mostGasFor_5 : decode cX3_mostGasFor 5 = .ok (.idiv, 1) := by decide +kernel
theorem dX3_mostGasFor_6 : decode cX3_mostGasFor 6 = .ok (.ireturn, 1) := by decide +kernel
theorem dX3_room_0 : decode cX3_room 0 = .ok (.aload_n 0, 1) := by decide +kernel
theorem dX3_room_1 : decode cX3_room 1 = .ok (.getfield 34, 3) := by decide +kernel
theorem dX3_room_4 : decode cX3_room 4 = .ok (.aload_n 0, 1) := by decide +kernel
theorem dX3_room_5 : decode cX3_room 5 = .ok (.getfield 9, 3) := by decide +kernel
theorem dX3_room_8 : decode cX3_room 8 = .ok (.isub, 1) := by decide +kernel
theorem dX3_room_9 : decode cX3_room 9 = .ok (.ireturn, 1) := by decide +kernel
theorem dX3_pressureNow_0 : decode cX3_pressureNow 0 = .ok (.aload_n 0, 1) := by decide +kernel
theorem dX3_pressureNow_1 : decode cX3_pressureNow 1 = .ok (.invokevirtual 46, 3) := by decide +kernel
theorem dX3_pressureNow_4 : decode cX3_pressureNow 4 = .ok (.istore_n 1, 1) := by decide +kernel
theorem dX3_pressureNow_5 : decode cX3_pressureNow 5 = .ok (.iload_n 1, 1) := by decide +kernel
theorem dX3_pressureNow_6 : decode cX3_pressureNow 6 = .ok (.ifCond .le 15, 3) := by decide +kernel
theorem dX3_pressureNow_9 : decode cX3_pressureNow 9 = .ok (.bipush 100, 2) := by decide +kernel
theorem dX3_pressureNow_11 : decode cX3_pressureNow 11 = .ok (.aload_n 0, 1) := by decide +kernel
theorem dX3_pressureNow_12 : decode cX3_pressureNow 12 = .ok (.getfield 15, 3) := by decide +kernel
theorem dX3_pressureNow_15 : decode cX3_pressureNow 15 = .ok (.imul, 1) := by decide +kernel
theorem dX3_pressureNow_16 : decode cX3_pressureNow 16 = .ok (.iload_n 1, 1) := by decide +kernel
theorem dX3_pressureNow_17 : decode cX3_pressureNow 17 = .ok (.idiv, 1) := by decide +kernel
theorem dX3_pressureNow_18 : decode cX3_pressureNow 18 = .ok (.goto 4, 3) := by decide +kernel
theorem dX3_pressureNow_21 : decode cX3_pressureNow 21 = .ok (.iconst 0, 1) := by decide +kernel
theorem dX3_pressureNow_22 : decode cX3_pressureNow 22 = .ok (.ireturn, 1) := by decide +kernel
theorem dX3_leastGas_0 : decode cX3_leastGas 0 = .ok (.aload_n 0, 1) := by decide +kernel
theorem dX3_leastGas_1 : decode cX3_leastGas 1 = .ok (.getfield 37, 3) := by decide +kernel
theorem dX3_leastGas_4 : decode cX3_leastGas 4 = .ok (.aload_n 0, 1) := by decide +kernel
theorem dX3_leastGas_5 : decode cX3_leastGas 5 = .ok (.invokevirtual 46, 3) := by decide +kernel
theorem dX3_leastGas_8 : decode cX3_leastGas 8 = .ok (.invokestatic 50, 3) := by decide +kernel
theorem dX3_leastGas_11 : decode cX3_leastGas 11 = .ok (.ireturn, 1) := by decide +kernel
theorem dX3_mostGas_0 : decode cX3_mostGas 0 = .ok (.aload_n 0, 1) := by decide +kernel
theorem dX3_mostGas_1 : decode cX3_mostGas 1 = .ok (.getfield 40, 3) := by decide +kernel
theorem dX3_mostGas_4 : decode cX3_mostGas 4 = .ok (.aload_n 0, 1) := by decide +kernel
theorem dX3_mostGas_5 : decode cX3_mostGas 5 = .ok (.invokevirtual 46, 3) := by decide +kernel
theorem dX3_mostGas_8 : decode cX3_mostGas 8 = .ok (.invokestatic 54, 3) := by decide +kernel
theorem dX3_mostGas_11 : decode cX3_mostGas 11 = .ok (.ireturn, 1) := by decide +kernel
theorem dX3_rateIn_0 : decode cX3_rateIn 0 = .ok (.aload_n 0, 1) := by decide +kernel
theorem dX3_rateIn_1 : decode cX3_rateIn 1 = .ok (.aload_n 0, 1) := by decide +kernel
theorem dX3_rateIn_2 : decode cX3_rateIn 2 = .ok (.getfield 40, 3) := by decide +kernel
theorem dX3_rateIn_5 : decode cX3_rateIn 5 = .ok (.aload_n 0, 1) := by decide +kernel
theorem dX3_rateIn_6 : decode cX3_rateIn 6 = .ok (.invokevirtual 57, 3) := by decide +kernel
theorem dX3_rateIn_9 : decode cX3_rateIn 9 = .ok (.isub, 1) := by decide +kernel
theorem dX3_rateIn_10 : decode cX3_rateIn 10 = .ok (.aload_n 0, 1) := by decide +kernel
theorem dX3_rateIn_11 : decode cX3_rateIn 11 = .ok (.invokevirtual 60, 3) := by decide +kernel
theorem dX3_rateIn_14 : decode cX3_rateIn 14 = .ok (.aload_n 0, 1) := by decide +kernel
theorem dX3_rateIn_15 : decode cX3_rateIn 15 = .ok (.getfield 15, 3) := by decide +kernel
theorem dX3_rateIn_18 : decode cX3_rateIn 18 = .ok (.isub, 1) := by decide +kernel
theorem dX3_rateIn_19 : decode cX3_rateIn 19 = .ok (.invokevirtual 63, 3) := by decide +kernel
theorem dX3_rateIn_22 : decode cX3_rateIn 22 = .ok (.ireturn, 1) := by decide +kernel
theorem dX3_rateOut_0 : decode cX3_rateOut 0 = .ok (.aload_n 0, 1) := by decide +kernel
theorem dX3_rateOut_1 : decode cX3_rateOut 1 = .ok (.aload_n 0, 1) := by decide +kernel
theorem dX3_rateOut_2 : decode cX3_rateOut 2 = .ok (.invokevirtual 57, 3) := by decide +kernel
theorem dX3_rateOut_5 : decode cX3_rateOut 5 = .ok (.aload_n 0, 1) := by decide +kernel
theorem dX3_rateOut_6 : decode cX3_rateOut 6 = .ok (.getfield 37, 3) := by decide +kernel
theorem dX3_rateOut_9 : decode cX3_rateOut 9 = .ok (.isub, 1) := by decide +kernel
theorem dX3_rateOut_10 : decode cX3_rateOut 10 = .ok (.aload_n 0, 1) := by decide +kernel
theorem dX3_rateOut_11 : decode cX3_rateOut 11 = .ok (.getfield 15, 3) := by decide +kernel
theorem dX3_rateOut_14 : decode cX3_rateOut 14 = .ok (.aload_n 0, 1) := by decide +kernel
theorem dX3_rateOut_15 : decode cX3_rateOut 15 = .ok (.invokevirtual 66, 3) := by decide +kernel
theorem dX3_rateOut_18 : decode cX3_rateOut 18 = .ok (.isub, 1) := by decide +kernel
theorem dX3_rateOut_19 : decode cX3_rateOut 19 = .ok (.invokevirtual 63, 3) := by decide +kernel
theorem dX3_rateOut_22 : decode cX3_rateOut 22 = .ok (.ireturn, 1) := by decide +kernel
theorem dX3_rateBy_0 : decode cX3_rateBy 0 = .ok (.iconst 0, 1) := by decide +kernel
theorem dX3_rateBy_1 : decode cX3_rateBy 1 = .ok (.aload_n 0, 1) := by decide +kernel
theorem dX3_rateBy_2 : decode cX3_rateBy 2 = .ok (.getfield 22, 3) := by decide +kernel
theorem dX3_rateBy_5 : decode cX3_rateBy 5 = .ok (.aload_n 0, 1) := by decide +kernel
theorem dX3_rateBy_6 : decode cX3_rateBy 6 = .ok (.getfield 25, 3) := by decide +kernel
theorem dX3_rateBy_9 : decode cX3_rateBy 9 = .ok (.imul, 1) := by decide +kernel
theorem dX3_rateBy_10 : decode cX3_rateBy 10 = .ok (.iload_n 1, 1) := by decide +kernel
theorem dX3_rateBy_11 : decode cX3_rateBy 11 = .ok (.imul, 1) := by decide +kernel
theorem dX3_rateBy_12 : decode cX3_rateBy 12 = .ok (.bipush 100, 2) := by decide +kernel
theorem dX3_rateBy_14 : decode cX3_rateBy 14 = .ok (.idiv, 1) := by decide +kernel
theorem dX3_rateBy_15 : decode cX3_rateBy 15 = .ok (.iload_n 2, 1) := by decide +kernel
theorem dX3_rateBy_16 : decode cX3_rateBy 16 = .ok (.invokestatic 69, 3) := by decide +kernel
theorem dX3_rateBy_19 : decode cX3_rateBy 19 = .ok (.invokestatic 74, 3) := by decide +kernel
theorem dX3_rateBy_22 : decode cX3_rateBy 22 = .ok (.ireturn, 1) := by decide +kernel
theorem dX3_takeIn_0 : decode cX3_takeIn 0 = .ok (.aload_n 0, 1) := by decide +kernel
theorem dX3_takeIn_1 : decode cX3_takeIn 1 = .ok (.dup, 1) := by decide +kernel
theorem dX3_takeIn_2 : decode cX3_takeIn 2 = .ok (.getfield 15, 3) := by decide +kernel
theorem dX3_takeIn_5 : decode cX3_takeIn 5 = .ok (.iload_n 1, 1) := by decide +kernel
theorem dX3_takeIn_6 : decode cX3_takeIn 6 = .ok (.iadd, 1) := by decide +kernel
theorem dX3_takeIn_7 : decode cX3_takeIn 7 = .ok (.putfield 15, 3) := by decide +kernel
theorem dX3_takeIn_10 : decode cX3_takeIn 10 = .ok (.aload_n 0, 1) := by decide +kernel
theorem dX3_takeIn_11 : decode cX3_takeIn 11 = .ok (.dup, 1) := by decide +kernel
theorem dX3_takeIn_12 : decode cX3_takeIn 12 = .ok (.getfield 18, 3) := by decide +kernel
theorem dX3_takeIn_15 : decode cX3_takeIn 15 = .ok (.iload_n 1, 1) := by decide +kernel
theorem dX3_takeIn_16 : decode cX3_takeIn 16 = .ok (.i2l, 1) := by decide +kernel
theorem dX3_takeIn_17 : decode cX3_takeIn 17 = .ok (.iload_n 2, 1) := by decide +kernel
theorem dX3_takeIn_18 : decode cX3_takeIn 18 = .ok (.i2l, 1) := by decide +kernel
theorem dX3_takeIn_19 : decode cX3_takeIn 19 = .ok (.lmul, 1) := by decide +kernel
theorem dX3_takeIn_20 : decode cX3_takeIn 20 = .ok (.ladd, 1) := by decide +kernel
theorem dX3_takeIn_21 : decode cX3_takeIn 21 = .ok (.putfield 18, 3) := by decide +kernel
theorem dX3_takeIn_24 : decode cX3_takeIn 24 = .ok (.return_, 1) := by decide +kernel
theorem dX3_giveAway_0 : decode cX3_giveAway 0 = .ok (.iload_n 1, 1) := by decide +kernel
theorem dX3_giveAway_1 : decode cX3_giveAway 1 = .ok (.aload_n 0, 1) := by decide +kernel
theorem dX3_giveAway_2 : decode cX3_giveAway 2 = .ok (.getfield 15, 3) := by decide +kernel
theorem dX3_giveAway_5 : decode cX3_giveAway 5 = .ok (.invokestatic 69, 3) := by decide +kernel
theorem dX3_giveAway_8 : decode cX3_giveAway 8 = .ok (.istore_n 2, 1) := by decide +kernel
theorem dX3_giveAway_9 : decode cX3_giveAway 9 = .ok (.iload_n 2, 1) := by decide +kernel
theorem dX3_giveAway_10 : decode cX3_giveAway 10 = .ok (.ifCond .gt 5, 3) := by decide +kernel
theorem dX3_giveAway_13 : decode cX3_giveAway 13 = .ok (.iconst 0, 1) := by decide +kernel
theorem dX3_giveAway_14 : decode cX3_giveAway 14 = .ok (.ireturn, 1) := by decide +kernel
theorem dX3_giveAway_15 : decode cX3_giveAway 15 = .ok (.aload_n 0, 1) := by decide +kernel
theorem dX3_giveAway_16 : decode cX3_giveAway 16 = .ok (.dup, 1) := by decide +kernel
theorem dX3_giveAway_17 : decode cX3_giveAway 17 = .ok (.getfield 18, 3) := by decide +kernel
theorem dX3_giveAway_20 : decode cX3_giveAway 20 = .ok (.iload_n 2, 1) := by decide +kernel
theorem dX3_giveAway_21 : decode cX3_giveAway 21 = .ok (.i2l, 1) := by decide +kernel
theorem dX3_giveAway_22 : decode cX3_giveAway 22 = .ok (.aload_n 0, 1) := by decide +kernel
theorem dX3_giveAway_23 : decode cX3_giveAway 23 = .ok (.getfield 18, 3) := by decide +kernel
theorem dX3_giveAway_26 : decode cX3_giveAway 26 = .ok (.lmul, 1) := by decide +kernel
theorem dX3_giveAway_27 : decode cX3_giveAway 27 = .ok (.aload_n 0, 1) := by decide +kernel
theorem dX3_giveAway_28 : decode cX3_giveAway 28 = .ok (.getfield 15, 3) := by decide +kernel
theorem dX3_giveAway_31 : decode cX3_giveAway 31 = .ok (.i2l, 1) := by decide +kernel
theorem dX3_giveAway_32 : decode cX3_giveAway 32 = .ok (.ldiv, 1) := by decide +kernel
theorem dX3_giveAway_33 : decode cX3_giveAway 33 = .ok (.lsub, 1) := by decide +kernel
theorem dX3_giveAway_34 : decode cX3_giveAway 34 = .ok (.putfield 18, 3) := by decide +kernel
theorem dX3_giveAway_37 : decode cX3_giveAway 37 = .ok (.aload_n 0, 1) := by decide +kernel
theorem dX3_giveAway_38 : decode cX3_giveAway 38 = .ok (.dup, 1) := by decide +kernel
theorem dX3_giveAway_39 : decode cX3_giveAway 39 = .ok (.getfield 15, 3) := by decide +kernel
theorem dX3_giveAway_42 : decode cX3_giveAway 42 = .ok (.iload_n 2, 1) := by decide +kernel
theorem dX3_giveAway_43 : decode cX3_giveAway 43 = .ok (.isub, 1) := by decide +kernel
theorem dX3_giveAway_44 : decode cX3_giveAway 44 = .ok (.putfield 15, 3) := by decide +kernel
theorem dX3_giveAway_47 : decode cX3_giveAway 47 = .ok (.iload_n 2, 1) := by decide +kernel
theorem dX3_giveAway_48 : decode cX3_giveAway 48 = .ok (.ireturn, 1) := by decide +kernel
theorem dX3_loseInAnHour_0 : decode cX3_loseInAnHour 0 = .ok (.aload_n 0, 1) := by decide +kernel
theorem dX3_loseInAnHour_1 : decode cX3_loseInAnHour 1 = .ok (.aload_n 0, 1) := by decide +kernel
theorem dX3_loseInAnHour_2 : decode cX3_loseInAnHour 2 = .ok (.getfield 28, 3) := by decide +kernel
theorem dX3_loseInAnHour_5 : decode cX3_loseInAnHour 5 = .ok (.invokevirtual 77, 3) := by decide +kernel
theorem dX3_loseInAnHour_8 : decode cX3_loseInAnHour 8 = .ok (.istore_n 1, 1) := by decide +kernel
theorem dX3_loseInAnHour_9 : decode cX3_loseInAnHour 9 = .ok (.aload_n 0, 1) := by decide +kernel
theorem dX3_loseInAnHour_10 : decode cX3_loseInAnHour 10 = .ok (.getfield 31, 3) := by decide +kernel
theorem dX3_loseInAnHour_13 : decode cX3_loseInAnHour 13 = .ok (.iconst 2, 1) := by decide +kernel
theorem dX3_loseInAnHour_14 : decode cX3_loseInAnHour 14 = .ok (.if_icmp .ne 21, 3) := by decide +kernel
theorem dX3_loseInAnHour_17 : decode cX3_loseInAnHour 17 = .ok (.iload_n 1, 1) := by decide +kernel
theorem dX3_loseInAnHour_18 : decode cX3_loseInAnHour 18 = .ok (.aload_n 0, 1) := by decide +kernel
theorem dX3_loseInAnHour_19 : decode cX3_loseInAnHour 19 = .ok (.aload_n 0, 1) := by decide +kernel
theorem dX3_loseInAnHour_20 : decode cX3_loseInAnHour 20 = .ok (.getfield 15, 3) := by decide +kernel
theorem dX3_loseInAnHour_23 : decode cX3_loseInAnHour 23 = .ok (.aload_n 0, 1) := by decide +kernel
theorem dX3_loseInAnHour_24 : decode cX3_loseInAnHour 24 = .ok (.getfield 43, 3) := by decide +kernel
theorem dX3_loseInAnHour_27 : decode cX3_loseInAnHour 27 = .ok (.isub, 1) := by decide +kernel
theorem dX3_loseInAnHour_28 : decode cX3_loseInAnHour 28 = .ok (.invokevirtual 77, 3) := by decide +kernel
theorem dX3_loseInAnHour_31 : decode cX3_loseInAnHour 31 = .ok (.iadd, 1) := by decide +kernel
theorem dX3_loseInAnHour_32 : decode cX3_loseInAnHour 32 = .ok (.goto 4, 3) := by decide +kernel
theorem dX3_loseInAnHour_35 : decode cX3_loseInAnHour 35 = .ok (.iload_n 1, 1) := by decide +kernel
theorem dX3_loseInAnHour_36 : decode cX3_loseInAnHour 36 = .ok (.ireturn, 1) := by decide +kernel
theorem dX3_loseAtDaysEnd_0 : decode cX3_loseAtDaysEnd 0 = .ok (.aload_n 0, 1) := by decide +kernel
theorem dX3_loseAtDaysEnd_1 : decode cX3_loseAtDaysEnd 1 = .ok (.getfield 31, 3) := by decide +kernel
theorem dX3_loseAtDaysEnd_4 : decode cX3_loseAtDaysEnd 4 = .ok (.ifCond .ne 10, 3) := by decide +kernel
theorem dX3_loseAtDaysEnd_7 : decode cX3_loseAtDaysEnd 7 = .ok (.aload_n 0, 1) := by decide +kernel
theorem dX3_loseAtDaysEnd_8 : decode cX3_loseAtDaysEnd 8 = .ok (.invokevirtual 81, 3) := by decide +kernel
theorem dX3_loseAtDaysEnd_11 : decode cX3_loseAtDaysEnd 11 = .ok (.goto 15, 3) := by decide +kernel
theorem dX3_loseAtDaysEnd_14 : decode cX3_loseAtDaysEnd 14 = .ok (.aload_n 0, 1) := by decide +kernel
theorem dX3_loseAtDaysEnd_15 : decode cX3_loseAtDaysEnd 15 = .ok (.getfield 31, 3) := by decide +kernel
theorem dX3_loseAtDaysEnd_18 : decode cX3_loseAtDaysEnd 18 = .ok (.iconst 1, 1) := by decide +kernel
theorem dX3_loseAtDaysEnd_19 : decode cX3_loseAtDaysEnd 19 = .ok (.if_icmp .ne 7, 3) := by decide +kernel
theorem dX3_loseAtDaysEnd_22 : decode cX3_loseAtDaysEnd 22 = .ok (.aload_n 0, 1) := by decide +kernel
theorem dX3_loseAtDaysEnd_23 : decode cX3_loseAtDaysEnd 23 = .ok (.invokevirtual 84, 3) := by decide +kernel
theorem dX3_loseAtDaysEnd_26 : decode cX3_loseAtDaysEnd 26 = .ok (.aload_n 0, 1) := by decide +kernel
theorem dX3_loseAtDaysEnd_27 : decode cX3_loseAtDaysEnd 27 = .ok (.aload_n 0, 1) := by decide +kernel
theorem dX3_loseAtDaysEnd_28 : decode cX3_loseAtDaysEnd 28 = .ok (.getfield 15, 3) := by decide +kernel
theorem dX3_loseAtDaysEnd_31 : decode cX3_loseAtDaysEnd 31 = .ok (.aload_n 0, 1) := by decide +kernel
theorem dX3_loseAtDaysEnd_32 : decode cX3_loseAtDaysEnd 32 = .ok (.invokevirtual 60, 3) := by decide +kernel
theorem dX3_loseAtDaysEnd_35 : decode cX3_loseAtDaysEnd 35 = .ok (.isub, 1) := by decide +kernel
theorem dX3_loseAtDaysEnd_36 : decode cX3_loseAtDaysEnd 36 = .ok (.invokevirtual 77, 3) := by decide +kernel
theorem dX3_loseAtDaysEnd_39 : decode cX3_loseAtDaysEnd 39 = .ok (.ireturn, 1) := by decide +kernel
theorem dX3_moveWater_0 : decode cX3_moveWater 0 = .ok (.aload_n 0, 1) := by decide +kernel
theorem dX3_moveWater_1 : decode cX3_moveWater 1 = .ok (.invokevirtual 57, 3) := by decide +kernel
theorem dX3_moveWater_4 : decode cX3_moveWater 4 = .ok (.istore_n 1, 1) := by decide +kernel
theorem dX3_moveWater_5 : decode cX3_moveWater 5 = .ok (.iload_n 1, 1) := by decide +kernel
theorem dX3_moveWater_6 : decode cX3_moveWater 6 = .ok (.aload_n 0, 1) := by decide +kernel
theorem dX3_moveWater_7 : decode cX3_moveWater 7 = .ok (.getfield 43, 3) := by decide +kernel
theorem dX3_moveWater_10 : decode cX3_moveWater 10 = .ok (.if_icmp .ge 23, 3) := by decide +kernel
theorem dX3_moveWater_13 : decode cX3_moveWater 13 = .ok (.aload_n 0, 1) := by decide +kernel
theorem dX3_moveWater_14 : decode cX3_moveWater 14 = .ok (.dup, 1) := by decide +kernel
theorem dX3_moveWater_15 : decode cX3_moveWater 15 = .ok (.getfield 9, 3) := by decide +kernel
theorem dX3_moveWater_18 : decode cX3_moveWater 18 = .ok (.aload_n 0, 1) := by decide +kernel
theorem dX3_moveWater_19 : decode cX3_moveWater 19 = .ok (.invokevirtual 46, 3) := by decide +kernel
theorem dX3_moveWater_22 : decode cX3_moveWater 22 = .ok (.sipush 200, 3) := by decide +kernel
theorem dX3_moveWater_25 : decode cX3_moveWater 25 = .ok (.idiv, 1) := by decide +kernel
theorem dX3_moveWater_26 : decode cX3_moveWater 26 = .ok (.iadd, 1) := by decide +kernel
theorem dX3_moveWater_27 : decode cX3_moveWater 27 = .ok (.putfield 9, 3) := by decide +kernel
theorem dX3_moveWater_30 : decode cX3_moveWater 30 = .ok (.goto 32, 3) := by decide +kernel
theorem dX3_moveWater_33 : decode cX3_moveWater 33 = .ok (.iload_n 1, 1) := by decide +kernel
theorem dX3_moveWater_34 : decode cX3_moveWater 34 = .ok (.aload_n 0, 1) := by decide +kernel
theorem dX3_moveWater_35 : decode cX3_moveWater 35 = .ok (.getfield 43, 3) := by decide +kernel
theorem dX3_moveWater_38 : decode cX3_moveWater 38 = .ok (.if_icmp .le 24, 3) := by decide +kernel
theorem dX3_moveWater_41 : decode cX3_moveWater 41 = .ok (.aload_n 0, 1) := by decide +kernel
theorem dX3_moveWater_42 : decode cX3_moveWater 42 = .ok (.dup, 1) := by decide +kernel
theorem dX3_moveWater_43 : decode cX3_moveWater 43 = .ok (.getfield 9, 3) := by decide +kernel
theorem dX3_moveWater_46 : decode cX3_moveWater 46 = .ok (.aload_n 0, 1) := by decide +kernel
theorem dX3_moveWater_47 : decode cX3_moveWater 47 = .ok (.getfield 9, 3) := by decide +kernel
theorem dX3_moveWater_50 : decode cX3_moveWater 50 = .ok (.sipush 199, 3) := by decide +kernel
theorem dX3_moveWater_53 : decode cX3_moveWater 53 = .ok (.iadd, 1) := by decide +kernel
theorem dX3_moveWater_54 : decode cX3_moveWater 54 = .ok (.sipush 200, 3) := by decide +kernel
theorem dX3_moveWater_57 : decode cX3_moveWater 57 = .ok (.idiv, 1) := by decide +kernel
theorem dX3_moveWater_58 : decode cX3_moveWater 58 = .ok (.isub, 1) := by decide +kernel
theorem dX3_moveWater_59 : decode cX3_moveWater 59 = .ok (.putfield 9, 3) := by decide +kernel
theorem dX3_moveWater_62 : decode cX3_moveWater 62 = .ok (.return_, 1) := by decide +kernel
theorem dX3_creep_0 : decode cX3_creep 0 = .ok (.aload_n 0, 1) := by decide +kernel
theorem dX3_creep_1 : decode cX3_creep 1 = .ok (.getfield 43, 3) := by decide +kernel
theorem dX3_creep_4 : decode cX3_creep 4 = .ok (.aload_n 0, 1) := by decide +kernel
theorem dX3_creep_5 : decode cX3_creep 5 = .ok (.invokevirtual 57, 3) := by decide +kernel
theorem dX3_creep_8 : decode cX3_creep 8 = .ok (.isub, 1) := by decide +kernel
theorem dX3_creep_9 : decode cX3_creep 9 = .ok (.i2l, 1) := by decide +kernel
theorem dX3_creep_10 : decode cX3_creep 10 = .ok (.lstore_n 1, 1) := by decide +kernel
theorem dX3_creep_11 : decode cX3_creep 11 = .ok (.lload_n 1, 1) := by decide +kernel
theorem dX3_creep_12 : decode cX3_creep 12 = .ok (.lconst 0, 1) := by decide +kernel
theorem dX3_creep_13 : decode cX3_creep 13 = .ok (.lcmp, 1) := by decide +kernel
theorem dX3_creep_14 : decode cX3_creep 14 = .ok (.ifCond .le 29, 3) := by decide +kernel
theorem dX3_creep_17 : decode cX3_creep 17 = .ok (.aload_n 0, 1) := by decide +kernel
theorem dX3_creep_18 : decode cX3_creep 18 = .ok (.lconst 1, 1) := by decide +kernel
theorem dX3_creep_19 : decode cX3_creep 19 = .ok (.aload_n 0, 1) := by decide +kernel
theorem dX3_creep_20 : decode cX3_creep 20 = .ok (.getfield 34, 3) := by decide +kernel
theorem dX3_creep_23 : decode cX3_creep 23 = .ok (.i2l, 1) := by decide +kernel
theorem dX3_creep_24 : decode cX3_creep 24 = .ok (.aload_n 0, 1) := by decide +kernel
theorem dX3_creep_25 : decode cX3_creep 25 = .ok (.getfield 34, 3) := by decide +kernel
theorem dX3_creep_28 : decode cX3_creep 28 = .ok (.i2l, 1) := by decide +kernel
theorem dX3_creep_29 : decode cX3_creep 29 = .ok (.lload_n 1, 1) := by decide +kernel
theorem dX3_creep_30 : decode cX3_creep 30 = .ok (.lmul, 1) := by decide +kernel
theorem dX3_creep_31 : decode cX3_creep 31 = .ok (.ldc2_w 87, 3) := by decide +kernel
theorem dX3_creep_34 : decode cX3_creep 34 = .ok (.ldiv, 1) := by decide +kernel
theorem dX3_creep_35 : decode cX3_creep 35 = .ok (.lsub, 1) := by decide +kernel
theorem dX3_creep_36 : decode cX3_creep 36 = .ok (.invokestatic 89, 3) := by decide +kernel
theorem dX3_creep_39 : decode cX3_creep 39 = .ok (.l2i, 1) := by decide +kernel
theorem dX3_creep_40 : decode cX3_creep 40 = .ok (.putfield 34, 3) := by decide +kernel
theorem dX3_creep_43 : decode cX3_creep 43 = .ok (.return_, 1) := by decide +kernel
theorem dX4_init_0 : decode cX4_init 0 = .ok (.aload_n 0, 1) := by decide +kernel
theorem dX4_init_1 : decode cX4_init 1 = .ok (.invokespecial 1, 3) := by decide +kernel
theorem dX4_init_4 : decode cX4_init 4 = .ok (.aload_n 0, 1) := by decide +kernel
theorem dX4_init_5 : decode cX4_init 5 = .ok (.new 7, 3) := by decide +kernel
theorem dX4_init_8 : decode cX4_init 8 = .ok (.dup, 1) := by decide +kernel
theorem dX4_init_9 : decode cX4_init 9 = .ok (.invokespecial 9, 3) := by decide +kernel
theorem dX4_init_12 : decode cX4_init 12 = .ok (.putfield 10, 3) := by decide +kernel
theorem dX4_init_15 : decode cX4_init 15 = .ok (.aload_n 0, 1) := by decide +kernel
theorem dX4_init_16 : decode cX4_init 16 = .ok (.new 7, 3) := by decide +kernel
theorem dX4_init_19 : decode cX4_init 19 = .ok (.dup, 1) := by decide +kernel
theorem dX4_init_20 : decode cX4_init 20 = .ok (.invokespecial 9, 3) := by decide +kernel
theorem dX4_init_23 : decode cX4_init 23 = .ok (.putfield 16, 3) := by decide +kernel
theorem dX4_init_26 : decode cX4_init 26 = .ok (.aload_n 0, 1) := by decide +kernel
theorem dX4_init_27 : decode cX4_init 27 = .ok (.new 7, 3) := by decide +kernel
theorem dX4_init_30 : decode cX4_init 30 = .ok (.dup, 1) := by decide +kernel
theorem dX4_init_31 : decode cX4_init 31 = .ok (.invokespecial 9, 3) := by decide +kernel
theorem dX4_init_34 : decode cX4_init 34 = .ok (.putfield 19, 3) := by decide +kernel
theorem dX4_init_37 : decode cX4_init 37 = .ok (.aload_n 0, 1) := by decide +kernel
theorem dX4_init_38 : decode cX4_init 38 = .ok (.new 22, 3) := by decide +kernel
theorem dX4_init_41 : decode cX4_init 41 = .ok (.dup, 1) := by decide +kernel
theorem dX4_init_42 : decode cX4_init 42 = .ok (.invokespecial 24, 3) := by decide +kernel
theorem dX4_init_45 : decode cX4_init 45 = .ok (.putfield 25, 3) := by decide +kernel
theorem dX4_init_48 : decode cX4_init 48 = .ok (.aload_n 0, 1) := by decide +kernel
theorem dX4_init_49 : decode cX4_init 49 = .ok (.iconst 0, 1) := by decide +kernel
theorem dX4_init_50 : decode cX4_init 50 = .ok (.putfield 29, 3) := by decide +kernel
theorem dX4_init_53 : decode cX4_init 53 = .ok (.aload_n 0, 1) := by decide +kernel
theorem dX4_init_54 : decode cX4_init 54 = .ok (.sipush 10000, 3) := by decide +kernel
theorem dX4_init_57 : decode cX4_init 57 = .ok (.putfield 33, 3) := by decide +kernel
theorem dX4_init_60 : decode cX4_init 60 = .ok (.aload_n 0, 1) := by decide +kernel
theorem dX4_init_61 : decode cX4_init 61 = .ok (.sipush (-1000), 3) := by decide +kernel
theorem dX4_init_64 : decode cX4_init 64 = .ok (.putfield 36, 3) := by decide +kernel
theorem dX4_init_67 : decode cX4_init 67 = .ok (.aload_n 0, 1) := by decide +kernel
theorem dX4_init_68 : decode cX4_init 68 = .ok (.sipush (-1000), 3) := by decide +kernel
theorem dX4_init_71 : decode cX4_init 71 = .ok (.putfield 39, 3) := by decide +kernel
theorem dX4_init_74 : decode cX4_init 74 = .ok (.aload_n 0, 1) := by decide +kernel
theorem dX4_init_75 : decode cX4_init 75 = .ok (.lconst 0, 1) := by decide +kernel
theorem dX4_init_76 : decode cX4_init 76 = .ok (.putfield 42, 3) := by decide +kernel
theorem dX4_init_79 : decode cX4_init 79 = .ok (.aload_n 0, 1) := by decide +kernel
theorem dX4_init_80 : decode cX4_init 80 = .ok (.lconst 0, 1) := by decide +kernel
theorem dX4_init_81 : decode cX4_init 81 = .ok (.putfield 46, 3) := by decide +kernel
theorem dX4_init_84 : decode cX4_init 84 = .ok (.aload_n 0, 1) := by decide +kernel
theorem dX4_init_85 : decode cX4_init 85 = .ok (.lconst 0, 1) := by decide +kernel
theorem dX4_init_86 : decode cX4_init 86 = .ok (.putfield 49, 3) := by decide +kernel
theorem dX4_init_89 : decode cX4_init 89 = .ok (.return_, 1) := by decide +kernel
theorem dX4_store_0 : decode cX4_store 0 = .ok (.iload_n 1, 1) := by decide +kernel
theorem dX4_store_1 : decode cX4_store 1 = .ok (.iconst 0, 1) := by decide +kernel
theorem dX4_store_2 : decode cX4_store 2 = .ok (.iconst 2, 1) := by decide +kernel
theorem dX4_store_3 : decode cX4_store 3 = .ok (.invokestatic 52, 3) := by decide +kernel
theorem dX4_store_6 : decode cX4_store 6 = .ok (.ifCond .eq 68, 3) := by decide +kernel
theorem dX4_store_9 : decode cX4_store 9 = .ok (.iload_n 2, 1) := by decide +kernel
theorem dX4_store_10 : decode cX4_store 10 = .ok (.iconst 1, 1) := by decide +kernel
theorem dX4_store_11 : decode cX4_store 11 = .ok (.ldc 56, 2) := by decide +kernel
theorem dX4_store_13 : decode cX4_store 13 = .ok (.invokestatic 52, 3) := by decide +kernel
theorem dX4_store_16 : decode cX4_store 16 = .ok (.ifCond .eq 58, 3) := by decide +kernel
theorem dX4_store_19 : decode cX4_store 19 = .ok (.iload 4, 2) := by decide +kernel
theorem dX4_store_21 : decode cX4_store 21 = .ok (.iconst 0, 1) := by decide +kernel
theorem dX4_store_22 : decode cX4_store 22 = .ok (.sipush 1000, 3) := by decide +kernel
theorem dX4_store_25 : decode cX4_store 25 = .ok (.invokestatic 52, 3) := by decide +kernel
theorem dX4_store_28 : decode cX4_store 28 = .ok (.ifCond .eq 46, 3) := by decide +kernel
theorem dX4_store_31 : decode cX4_store 31 = .ok (.iload 5, 2) := by decide +kernel
theorem dX4_store_33 : decode cX4_store 33 = .ok (.iload 4, 2) := by decide +kernel
theorem dX4_store_35 : decode cX4_store 35 = .ok (.sipush 1000, 3) := by decide +kernel
theorem dX4_store_38 : decode cX4_store 38 = .ok (.invokestatic 52, 3) := by decide +kernel
theorem dX4_store_41 : decode cX4_store 41 = .ok (.ifCond .eq 33, 3) := by decide +kernel
theorem dX4_store_44 : decode cX4_store 44 = .ok (.iload 6, 2) := by decide +kernel
theorem dX4_store_46 : decode cX4_store 46 = .ok (.iconst 0, 1) := by decide +kernel
theorem dX4_store_47 : decode cX4_store 47 = .ok (.ldc 57, 2) := by decide +kernel
theorem dX4_store_49 : decode cX4_store 49 = .ok (.invokestatic 52, 3) := by decide +kernel
theorem dX4_store_52 : decode cX4_store 52 = .ok (.ifCond .eq 22, 3) := by decide +kernel
theorem dX4_store_55 : decode cX4_store 55 = .ok (.iload_n 3, 1) := by decide +kernel
theorem dX4_store_56 : decode cX4_store 56 = .ok (.iload 4, 2) := by decide +kernel
theorem dX4_store_58 : decode cX4_store 58 = .ok (.iload_n 2, 1) := by decide +kernel
theorem dX4_store_59 : decode cX4_store 59 = .ok (.invokestatic 58, 3) := by decide +kernel
theorem dX4_store_62 : decode cX4_store 62 = .ok (.iload 5, 2) := by decide +kernel
theorem dX4_store_64 : decode cX4_store 64 = .ok (.iload_n 2, 1) := by decide +kernel
theorem dX4_store_65 : decode cX4_store 65 = .ok (.invokestatic 64, 3) := by decide +kernel
theorem dX4_store_68 : decode cX4_store 68 = .ok (.invokestatic 52, 3) := by decide +kernel
theorem dX4_store_71 : decode cX4_store 71 = .ok (.ifCond .ne 13, 3) := by decide +kernel
theorem dX4_store_74 : decode cX4_store 74 = .ok (.new 67, 3) := by decide +kernel
theorem dX4_store_77 : decode cX4_store 77 = .ok (.dup, 1) := by decide +kernel
theorem dX4_store_78 : decode cX4_store 78 = .ok (.ldc 69, 2) := by decide +kernel
theorem dX4_store_80 : decode cX4_store 80 = .ok (.invokespecial 71, 3) := by decide +kernel
theorem dX4_store_83 : decode cX4_store 83 = .ok (.athrow, 1) := by decide +kernel
theorem dX4_store_84 : decode cX4_store 84 = .ok (.aload_n 0, 1) := by decide +kernel
theorem dX4_store_85 : decode cX4_store 85 = .ok (.getfield 10, 3) := by decide +kernel
theorem dX4_store_88 : decode cX4_store 88 = .ok (.invokevirtual 74, 3) := by decide +kernel
theorem dX4_store_91 : decode cX4_store 91 = .ok (.iconst 5, 1) := by decide +kernel
theorem dX4_store_92 : decode cX4_store 92 = .ok (.if_icmp .lt 13, 3) := by decide +kernel
theorem dX4_store_95 : decode cX4_store 95 = .ok (.new 78, 3) := by decide +kernel
theorem dX4_store_98 : decode cX4_store 98 = .ok (.dup, 1) := by decide +kernel
theorem dX4_store_99 : decode cX4_store 99 = .ok (.ldc 80, 2) := by decide +kernel
theorem dX4_store_101 : decode cX4_store 101 = .ok (.invokespecial 82, 3) := by decide +kernel
theorem dX4_store_104 : decode cX4_store 104 = .ok (.athrow, 1) := by decide +kernel
theorem dX4_store_105 : decode cX4_store 105 = .ok (.new 59, 3) := by decide +kernel
theorem dX4_store_108 : decode cX4_store 108 = .ok (.dup, 1) := by decide +kernel
theorem dX4_store_109 : decode cX4_store 109 = .ok (.iload_n 1, 1) := by decide +kernel
theorem dX4_store_110 : decode cX4_store 110 = .ok (.iload_n 2, 1) := by decide +kernel
theorem dX4_store_111 : decode cX4_store 111 = .ok (.iload 4, 2) := by decide +kernel
theorem dX4_store_113 : decode cX4_store 113 = .ok (.iload 5, 2) := by decide +kernel
theorem dX4_store_115 : decode cX4_store 115 = .ok (.iload 6, 2) := by decide +kernel
theorem dX4_store_117 : decode cX4_store 117 = .ok (.invokespecial 83, 3) := by decide +kernel
theorem dX4_store_120 : decode cX4_store 120 = .ok (.astore 7, 2) := by decide +kernel
theorem dX4_store_122 : decode cX4_store 122 = .ok (.aload 7, 2) := by decide +kernel
theorem dX4_store_124 : decode cX4_store 124 = .ok (.iload_n 3, 1) := by decide +kernel
theorem dX4_store_125 : decode cX4_store 125 = .ok (.aload_n 0, 1) := by decide +kernel
theorem dX4_store_126 : decode cX4_store 126 = .ok (.getfield 33, 3) := by decide +kernel
theorem dX4_store_129 : decode cX4_store 129 = .ok (.invokevirtual 86, 3) := by decide +kernel
theorem dX4_store_132 : decode cX4_store 132 = .ok (.aload_n 0, 1) := by decide +kernel
theorem dX4_store_133 : decode cX4_store 133 = .ok (.getfield 10, 3) := by decide +kernel
theorem dX4_store_136 : decode cX4_store 136 = .ok (.aload 7, 2) := by decide +kernel
theorem dX4_store_138 : decode cX4_store 138 = .ok (.invokevirtual 90, 3) := by decide +kernel
theorem dX4_store_141 : decode cX4_store 141 = .ok (.pop, 1) := by decide +kernel
theorem dX4_store_142 : decode cX4_store 142 = .ok (.aload_n 0, 1) := by decide +kernel
theorem dX4_store_143 : decode cX4_store 143 = .ok (.dup, 1) := by decide +kernel
theorem dX4_store_144 : decode cX4_store 144 = .ok (.getfield 42, 3) := by decide +kernel
theorem dX4_store_147 : decode cX4_store 147 = .ok (.iload_n 3, 1) := by decide +kernel
theorem dX4_store_148 : decode cX4_store 148 = .ok (.i2l, 1) := by decide +kernel
theorem dX4_store_149 : decode cX4_store 149 = .ok (.ladd, 1) := by decide +kernel
theorem dX4_store_150 : decode cX4_store 150 = .ok (.putfield 42, 3) := by decide +kernel
theorem dX4_store_153 : decode cX4_store 153 = .ok (.aload_n 0, 1) := by decide +kernel
theorem dX4_store_154 : decode cX4_store 154 = .ok (.getfield 10, 3) := by decide +kernel
theorem dX4_store_157 : decode cX4_store 157 = .ok (.invokevirtual 74, 3) := by decide +kernel
theorem dX4_store_160 : decode cX4_store 160 = .ok (.iconst 1, 1) := by decide +kernel
theorem dX4_store_161 : decode cX4_store 161 = .ok (.isub, 1) := by decide +kernel
theorem dX4_store_162 : decode cX4_store 162 = .ok (.ireturn, 1) := by decide +kernel
theorem dX4_wells_0 : decode cX4_wells 0 = .ok (.aload_n 0, 1) := by decide +kernel
theorem dX4_wells_1 : decode cX4_wells 1 = .ok (.iload_n 1, 1) := by decide +kernel
theorem dX4_wells_2 : decode cX4_wells 2 = .ok (.invokevirtual 94, 3) := by decide +kernel
theorem dX4_wells_5 : decode cX4_wells 5 = .ok (.astore 4, 2) := by decide +kernel
theorem dX4_wells_7 : decode cX4_wells 7 = .ok (.iload_n 2, 1) := by decide +kernel
theorem dX4_wells_8 : decode cX4_wells 8 = .ok (.iconst 0, 1) := by decide +kernel
theorem dX4_wells_9 : decode cX4_wells 9 = .ok (.bipush 100, 2) := by decide +kernel
theorem dX4_wells_11 : decode cX4_wells 11 = .ok (.invokestatic 52, 3) := by decide +kernel
theorem dX4_wells_14 : decode cX4_wells 14 = .ok (.ifCond .eq 14, 3) := by decide +kernel
theorem dX4_wells_17 : decode cX4_wells 17 = .ok (.iload_n 3, 1) := by decide +kernel
theorem dX4_wells_18 : decode cX4_wells 18 = .ok (.iconst 0, 1) := by decide +kernel
theorem dX4_wells_19 : decode cX4_wells 19 = .ok (.sipush 1000, 3) := by decide +kernel
theorem dX4_wells_22 : decode cX4_wells 22 = .ok (.invokestatic 52, 3) := by decide +kernel
theorem dX4_wells_25 : decode cX4_wells 25 = .ok (.ifCond .ne 13, 3) := by decide +kernel
theorem dX4_wells_28 : decode cX4_wells 28 = .ok (.new 67, 3) := by decide +kernel
theorem dX4_wells_31 : decode cX4_wells 31 = .ok (.dup, 1) := by decide +kernel
theorem dX4_wells_32 : decode cX4_wells 32 = .ok (.ldc 98, 2) := by decide +kernel
theorem dX4_wells_34 : decode cX4_wells 34 = .ok (.invokespecial 71, 3) := by decide +kernel
theorem dX4_wells_37 : decode cX4_wells 37 = .ok (.athrow, 1) := by decide +kernel
theorem dX4_wells_38 : decode cX4_wells 38 = .ok (.aload 4, 2) := by decide +kernel
theorem dX4_wells_40 : decode cX4_wells 40 = .ok (.iload_n 2, 1) := by decide +kernel
theorem dX4_wells_41 : decode cX4_wells 41 = .ok (.putfield 100, 3) := by decide +kernel
theorem dX4_wells_44 : decode cX4_wells 44 = .ok (.aload 4, 2) := by decide +kernel
theorem dX4_wells_46 : decode cX4_wells 46 = .ok (.iload_n 3, 1) := by decide +kernel
theorem dX4_wells_47 : decode cX4_wells 47 = .ok (.putfield 103, 3) := by decide +kernel
theorem dX4_wells_50 : decode cX4_wells 50 = .ok (.aload 4, 2) := by decide +kernel
theorem dX4_wells_52 : decode cX4_wells 52 = .ok (.invokevirtual 106, 3) := by decide +kernel
theorem dX4_wells_55 : decode cX4_wells 55 = .ok (.ireturn, 1) := by decide +kernel
theorem dX4_leak_0 : decode cX4_leak 0 = .ok (.aload_n 0, 1) := by decide +kernel
theorem dX4_leak_1 : decode cX4_leak 1 = .ok (.iload_n 1, 1) := by decide +kernel
theorem dX4_leak_2 : decode cX4_leak 2 = .ok (.invokevirtual 94, 3) := by decide +kernel
theorem dX4_leak_5 : decode cX4_leak 5 = .ok (.astore_n 3, 1) := by decide +kernel
theorem dX4_leak_6 : decode cX4_leak 6 = .ok (.iload_n 2, 1) := by decide +kernel
theorem dX4_leak_7 : decode cX4_leak 7 = .ok (.iconst 0, 1) := by decide +kernel
theorem dX4_leak_8 : decode cX4_leak 8 = .ok (.sipush 1000, 3) := by decide +kernel
theorem dX4_leak_11 : decode cX4_leak 11 = .ok (.invokestatic 52, 3) := by decide +kernel
theorem dX4_leak_14 : decode cX4_leak 14 = .ok (.ifCond .ne 13, 3) := by decide +kernel
theorem dX4_leak_17 : decode cX4_leak 17 = .ok (.new 67, 3) := by decide +kernel
theorem dX4_leak_20 : decode cX4_leak 20 = .ok (.dup, 1) := by decide +kernel
theorem dX4_leak_21 : decode cX4_leak 21 = .ok (.ldc 109, 2) := by decide +kernel
theorem dX4_leak_23 : decode cX4_leak 23 = .ok (.invokespecial 71, 3) := by decide +kernel
theorem dX4_leak_26 : decode cX4_leak 26 = .ok (.athrow, 1) := by decide +kernel
theorem dX4_leak_27 : decode cX4_leak 27 = .ok (.aload_n 3, 1) := by decide +kernel
theorem dX4_leak_28 : decode cX4_leak 28 = .ok (.getfield 111, 3) := by decide +kernel
theorem dX4_leak_31 : decode cX4_leak 31 = .ok (.istore 4, 2) := by decide +kernel
theorem dX4_leak_33 : decode cX4_leak 33 = .ok (.aload_n 3, 1) := by decide +kernel
theorem dX4_leak_34 : decode cX4_leak 34 = .ok (.iload_n 2, 1) := by decide +kernel
theorem dX4_leak_35 : decode cX4_leak 35 = .ok (.putfield 111, 3) := by decide +kernel
theorem dX4_leak_38 : decode cX4_leak 38 = .ok (.iload 4, 2) := by decide +kernel
theorem dX4_leak_40 : decode cX4_leak 40 = .ok (.ireturn, 1) := by decide +kernel
theorem dX4_leach_0 : decode cX4_leach 0 = .ok (.aload_n 0, 1) := by decide +kernel
theorem dX4_leach_1 : decode cX4_leach 1 = .ok (.iload_n 1, 1) := by decide +kernel
theorem dX4_leach_2 : decode cX4_leach 2 = .ok (.invokevirtual 94, 3) := by decide +kernel
theorem dX4_leach_5 : decode cX4_leach 5 = .ok (.astore_n 3, 1) := by decide +kernel
theorem dX4_leach_6 : decode cX4_leach 6 = .ok (.iload_n 2, 1) := by decide +kernel
theorem dX4_leach_7 : decode cX4_leach 7 = .ok (.iconst 1, 1) := by decide +kernel
theorem dX4_leach_8 : decode cX4_leach 8 = .ok (.ldc 56, 2) := by decide +kernel
theorem dX4_leach_10 : decode cX4_leach 10 = .ok (.invokestatic 52, 3) := by decide +kernel
theorem dX4_leach_13 : decode cX4_leach 13 = .ok (.ifCond .ne 13, 3) := by decide +kernel
theorem dX4_leach_16 : decode cX4_leach 16 = .ok (.new 67, 3) := by decide +kernel
theorem dX4_leach_19 : decode cX4_leach 19 = .ok (.dup, 1) := by decide +kernel
theorem dX4_leach_20 : decode cX4_leach 20 = .ok (.ldc 114, 2) := by decide +kernel
theorem dX4_leach_22 : decode cX4_leach 22 = .ok (.invokespecial 71, 3) := by decide +kernel
theorem dX4_leach_25 : decode cX4_leach 25 = .ok (.athrow, 1) := by decide +kernel
theorem dX4_leach_26 : decode cX4_leach 26 = .ok (.aload_n 3, 1) := by decide +kernel
theorem dX4_leach_27 : decode cX4_leach 27 = .ok (.getfield 116, 3) := by decide +kernel
theorem dX4_leach_30 : decode cX4_leach 30 = .ok (.iconst 1, 1) := by decide +kernel
theorem dX4_leach_31 : decode cX4_leach 31 = .ok (.if_icmp .ne 21, 3) := by decide +kernel
theorem dX4_leach_34 : decode cX4_leach 34 = .ok (.aload_n 3, 1) := by decide +kernel
theorem dX4_leach_35 : decode cX4_leach 35 = .ok (.getfield 119, 3) := by decide +kernel
theorem dX4_leach_38 : decode cX4_leach 38 = .ok (.ifCond .gt 14, 3) := by decide +kernel
theorem dX4_leach_41 : decode cX4_leach 41 = .ok (.aload_n 3, 1) := by decide +kernel
theorem dX4_leach_42 : decode cX4_leach 42 = .ok (.getfield 122, 3) := by decide +kernel
theorem dX4_leach_45 : decode cX4_leach 45 = .ok (.iload_n 2, 1) := by decide +kernel
theorem dX4_leach_46 : decode cX4_leach 46 = .ok (.iadd, 1) := by decide +kernel
theorem dX4_leach_47 : decode cX4_leach 47 = .ok (.ldc 56, 2) := by decide +kernel
theorem dX4_leach_49 : decode cX4_leach 49 = .ok (.if_icmp .le 13, 3) := by decide +kernel
theorem dX4_leach_52 : decode cX4_leach 52 = .ok (.new 78, 3) := by decide +kernel
theorem dX4_leach_55 : decode cX4_leach 55 = .ok (.dup, 1) := by decide +kernel
theorem dX4_leach_56 : decode cX4_leach 56 = .ok (.ldc 125, 2) := by decide +kernel
theorem dX4_leach_58 : decode cX4_leach 58 = .ok (.invokespecial 82, 3) := by decide +kernel
theorem dX4_leach_61 : decode cX4_leach 61 = .ok (.athrow, 1) := by decide +kernel
theorem dX4_leach_62 : decode cX4_leach 62 = .ok (.aload_n 3, 1) := by decide +kernel
theorem dX4_leach_63 : decode cX4_leach 63 = .ok (.dup, 1) := by decide +kernel
theorem dX4_leach_64 : decode cX4_leach 64 = .ok (.getfield 122, 3) := by decide +kernel
theorem dX4_leach_67 : decode cX4_leach 67 = .ok (.iload_n 2, 1) := by decide +kernel
theorem dX4_leach_68 : decode cX4_leach 68 = .ok (.iadd, 1) := by decide +kernel
theorem dX4_leach_69 : decode cX4_leach 69 = .ok (.putfield 122, 3) := by decide +kernel
theorem dX4_leach_72 : decode cX4_leach 72 = .ok (.aload_n 3, 1) := by decide +kernel
theorem dX4_leach_73 : decode cX4_leach 73 = .ok (.getfield 122, 3) := by decide +kernel
theorem dX4_leach_76 : decode cX4_leach 76 = .ok (.ireturn, 1) := by decide +kernel
theorem dX4_heat_0 : decode cX4_heat 0 = .ok (.iload_n 1, 1) := by decide +kernel
theorem dX4_heat_1 : decode cX4_heat 1 = .ok (.iconst 0, 1) := by decide +kernel
theorem dX4_heat_2 : decode cX4_heat 2 = .ok (.sipush 20000, 3) := by decide +kernel
theorem dX4_heat_5 : decode cX4_heat 5 = .ok (.invokestatic 52, 3) := by decide +kernel
theorem dX4_heat_8 : decode cX4_heat 8 = .ok (.ifCond .ne 13, 3) := by decide +kernel
theorem dX4_heat_11 : decode cX4_heat 11 = .ok (.new 67, 3) := by decide +kernel
theorem dX4_heat_14 : decode cX4_heat 14 = .ok (.dup, 1) := by decide +kernel
theorem dX4_heat_15 : decode cX4_heat 15 = .ok (.ldc 127, 2) := by decide +kernel
theorem dX4_heat_17 : decode cX4_heat 17 = .ok (.invokespecial 71, 3) := by decide +kernel
theorem dX4_heat_20 : decode cX4_heat 20 = .ok (.athrow, 1) := by decide +kernel
theorem dX4_heat_21 : decode cX4_heat 21 = .ok (.aload_n 0, 1) := by decide +kernel
theorem dX4_heat_22 : decode cX4_heat 22 = .ok (.getfield 33, 3) := by decide +kernel
theorem dX4_heat_25 : decode cX4_heat 25 = .ok (.istore_n 2, 1) := by decide +kernel
theorem dX4_heat_26 : decode cX4_heat 26 = .ok (.aload_n 0, 1) := by decide +kernel
theorem dX4_heat_27 : decode cX4_heat 27 = .ok (.iload_n 1, 1) := by decide +kernel
theorem dX4_heat_28 : decode cX4_heat 28 = .ok (.putfield 33, 3) := by decide +kernel
theorem dX4_heat_31 : decode cX4_heat 31 = .ok (.iload_n 2, 1) := by decide +kernel
theorem dX4_heat_32 : decode cX4_heat 32 = .ok (.ireturn, 1) := by decide +kernel
theorem dX4_customer_0 : decode cX4_customer 0 = .ok (.iload_n 1, 1) := by decide +kernel
theorem dX4_customer_1 : decode cX4_customer 1 = .ok (.iconst 1, 1) := by decide +kernel
theorem dX4_customer_2 : decode cX4_customer 2 = .ok (.ldc 57, 2) := by decide +kernel
theorem dX4_customer_4 : decode cX4_customer 4 = .ok (.invokestatic 52, 3) := by decide +kernel
theorem dX4_customer_7 : decode cX4_customer 7 = .ok (.ifCond .eq 33, 3) := by decide +kernel
theorem dX4_customer_10 : decode cX4_customer 10 = .ok (.iload_n 2, 1) := by decide +kernel
theorem dX4_customer_11 : decode cX4_customer 11 = .ok (.iconst 0, 1) := by decide +kernel
theorem dX4_customer_12 : decode cX4_customer 12 = .ok (.ldc 56, 2) := by decide +kernel
theorem dX4_customer_14 : decode cX4_customer 14 = .ok (.invokestatic 52, 3) := by decide +kernel
theorem dX4_customer_17 : decode cX4_customer 17 = .ok (.ifCond .eq 23, 3) := by decide +kernel
theorem dX4_customer_20 : decode cX4_customer 20 = .ok (.iload_n 3, 1) := by decide +kernel
theorem dX4_customer_21 : decode cX4_customer 21 = .ok (.iconst 0, 1) := by decide +kernel
theorem dX4_customer_22 : decode cX4_customer 22 = .ok (.ldc 56, 2) := by decide +kernel
theorem dX4_customer_24 : decode cX4_customer 24 = .ok (.invokestatic 52, 3) := by decide +kernel
theorem dX4_customer_27 : decode cX4_customer 27 = .ok (.ifCond .eq 13, 3) := by decide +kernel
theorem dX4_customer_30 : decode cX4_customer 30 = .ok (.iload 4, 2) := by decide +kernel
theorem dX4_customer_32 : decode cX4_customer 32 = .ok (.iconst 0, 1) := by decide +kernel
theorem dX4_customer_33 : decode cX4_customer 33 = .ok (.iconst 3, 1) := by decide +kernel
theorem dX4_customer_34 : decode cX4_customer 34 = .ok (.invokestatic 52, 3) := by decide +kernel
theorem dX4_customer_37 : decode cX4_customer 37 = .ok (.ifCond .ne 13, 3) := by decide +kernel
theorem dX4_customer_40 : decode cX4_customer 40 = .ok (.new 67, 3) := by decide +kernel
theorem dX4_customer_43 : decode cX4_customer 43 = .ok (.dup, 1) := by decide +kernel
theorem dX4_customer_44 : decode cX4_customer 44 = .ok (.ldc 129, 2) := by decide +kernel
theorem dX4_customer_46 : decode cX4_customer 46 = .ok (.invokespecial 71, 3) := by decide +kernel
theorem dX4_customer_49 : decode cX4_customer 49 = .ok (.athrow, 1) := by decide +kernel
theorem dX4_customer_50 : decode cX4_customer 50 = .ok (.aload_n 0, 1) := by decide +kernel
theorem dX4_customer_51 : decode cX4_customer 51 = .ok (.getfield 16, 3) := by decide +kernel
theorem dX4_customer_54 : decode cX4_customer 54 = .ok (.invokevirtual 74, 3) := by decide +kernel
theorem dX4_customer_57 : decode cX4_customer 57 = .ok (.bipush 6, 2) := by decide +kernel
theorem dX4_customer_59 : decode cX4_customer 59 = .ok (.if_icmp .lt 13, 3) := by decide +kernel
theorem dX4_customer_62 : decode cX4_customer 62 = .ok (.new 78, 3) := by decide +kernel
theorem dX4_customer_65 : decode cX4_customer 65 = .ok (.dup, 1) := by decide +kernel
theorem dX4_customer_66 : decode cX4_customer 66 = .ok (.ldc 131, 2) := by decide +kernel
theorem dX4_customer_68 : decode cX4_customer 68 = .ok (.invokespecial 82, 3) := by decide +kernel
theorem dX4_customer_71 : decode cX4_customer 71 = .ok (.athrow, 1) := by decide +kernel
theorem dX4_customer_72 : decode cX4_customer 72 = .ok (.aload_n 0, 1) := by decide +kernel
theorem dX4_customer_73 : decode cX4_customer 73 = .ok (.getfield 16, 3) := by decide +kernel
theorem dX4_customer_76 : decode cX4_customer 76 = .ok (.new 133, 3) := by decide +kernel
theorem dX4_customer_79 : decode cX4_customer 79 = .ok (.dup, 1) := by decide +kernel
theorem dX4_customer_80 : decode cX4_customer 80 = .ok (.iload_n 1, 1) := by decide +kernel
theorem dX4_customer_81 : decode cX4_customer 81 = .ok (.iload_n 2, 1) := by decide +kernel
theorem dX4_customer_82 : decode cX4_customer 82 = .ok (.iload_n 3, 1) := by decide +kernel
theorem dX4_customer_83 : decode cX4_customer 83 = .ok (.iload 4, 2) := by decide +kernel
theorem dX4_customer_85 : decode cX4_customer 85 = .ok (.invokespecial 135, 3) := by decide +kernel
theorem dX4_customer_88 : decode cX4_customer 88 = .ok (.invokevirtual 90, 3) := by decide +kernel
theorem dX4_customer_91 : decode cX4_customer 91 = .ok (.pop, 1) := by decide +kernel
theorem dX4_customer_92 : decode cX4_customer 92 = .ok (.aload_n 0, 1) := by decide +kernel
theorem dX4_customer_93 : decode cX4_customer 93 = .ok (.getfield 16, 3) := by decide +kernel
theorem dX4_customer_96 : decode cX4_customer 96 = .ok (.invokevirtual 74, 3) := by decide +kernel
theorem dX4_customer_99 : decode cX4_customer 99 = .ok (.iconst 1, 1) := by decide +kernel
theorem dX4_customer_100 : decode cX4_customer 100 = .ok (.isub, 1) := by decide +kernel
theorem dX4_customer_101 : decode cX4_customer 101 = .ok (.ireturn, 1) := by decide +kernel
theorem dX4_nominate_0 : decode cX4_nominate 0 = .ok (.aload_n 0, 1) := by decide +kernel
theorem dX4_nominate_1 : decode cX4_nominate 1 = .ok (.iload_n 1, 1) := by decide +kernel
theorem dX4_nominate_2 : decode cX4_nominate 2 = .ok (.invokevirtual 138, 3) := by decide +kernel
theorem dX4_nominate_5 : decode cX4_nominate 5 = .ok (.astore 4, 2) := by decide +kernel
theorem dX4_nominate_7 : decode cX4_nominate 7 = .ok (.iload_n 2, 1) := by decide +kernel
theorem dX4_nominate_8 : decode cX4_nominate 8 = .ok (.aload_n 0, 1) := by decide +kernel
theorem dX4_nominate_9 : decode cX4_nominate 9 = .ok (.getfield 29, 3) := by decide +kernel
theorem dX4_nominate_12 : decode cX4_nominate 12 = .ok (.iconst 2, 1) := by decide +kernel
theorem dX4_nominate_13 : decode cX4_nominate 13 = .ok (.iadd, 1) := by decide +kernel
theorem dX4_nominate_14 : decode cX4_nominate 14 = .ok (.aload_n 0, 1) := by decide +kernel
theorem dX4_nominate_15 : decode cX4_nominate 15 = .ok (.getfield 29, 3) := by decide +kernel
theorem dX4_nominate_18 : decode cX4_nominate 18 = .ok (.bipush 60, 2) := by decide +kernel
theorem dX4_nominate_20 : decode cX4_nominate 20 = .ok (.iadd, 1) := by decide +kernel
theorem dX4_nominate_21 : decode cX4_nominate 21 = .ok (.invokestatic 52, 3) := by decide +kernel
theorem dX4_nominate_24 : decode cX4_nominate 24 = .ok (.ifCond .eq 14, 3) := by decide +kernel
theorem dX4_nominate_27 : decode cX4_nominate 27 = .ok (.iload_n 3, 1) := by decide +kernel
theorem dX4_nominate_28 : decode cX4_nominate 28 = .ok (.ldc 142, 2) := by decide +kernel
theorem dX4_nominate_30 : decode cX4_nominate 30 = .ok (.ldc 57, 2) := by decide +kernel
theorem dX4_nominate_32 : decode cX4_nominate 32 = .ok (.invokestatic 52, 3) := by decide +kernel
theorem dX4_nominate_35 : decode cX4_nominate 35 = .ok (.ifCond .ne 13, 3) := by decide +kernel
theorem dX4_nominate_38 : decode cX4_nominate 38 = .ok (.new 67, 3) := by decide +kernel
theorem dX4_nominate_41 : decode cX4_nominate 41 = .ok (.dup, 1) := by decide +kernel
theorem dX4_nominate_42 : decode cX4_nominate 42 = .ok (.ldc 143, 2) := by decide +kernel
theorem dX4_nominate_44 : decode cX4_nominate 44 = .ok (.invokespecial 71, 3) := by decide +kernel
theorem dX4_nominate_47 : decode cX4_nominate 47 = .ok (.athrow, 1) := by decide +kernel
theorem dX4_nominate_48 : decode cX4_nominate 48 = .ok (.aload 4, 2) := by decide +kernel
theorem dX4_nominate_50 : decode cX4_nominate 50 = .ok (.getfield 145, 3) := by decide +kernel
theorem dX4_nominate_53 : decode cX4_nominate 53 = .ok (.iload_n 2, 1) := by decide +kernel
theorem dX4_nominate_54 : decode cX4_nominate 54 = .ok (.iload_n 3, 1) := by decide +kernel
theorem dX4_nominate_55 : decode cX4_nominate 55 = .ok (.invokevirtual 148, 3) := by decide +kernel
theorem dX4_nominate_58 : decode cX4_nominate 58 = .ok (.ireturn, 1) := by decide +kernel
theorem dX4_transfer_0 : decode cX4_transfer 0 = .ok (.aload_n 0, 1) := by decide +kernel
theorem dX4_transfer_1 : decode cX4_transfer 1 = .ok (.iload_n 1, 1) := by decide +kernel
theorem dX4_transfer_2 : decode cX4_transfer 2 = .ok (.invokevirtual 138, 3) := by decide +kernel
theorem dX4_transfer_5 : decode cX4_transfer 5 = .ok (.astore 4, 2) := by decide +kernel
theorem dX4_transfer_7 : decode cX4_transfer 7 = .ok (.aload_n 0, 1) := by decide +kernel
theorem dX4_transfer_8 : decode cX4_transfer 8 = .ok (.iload_n 2, 1) := by decide +kernel
theorem dX4_transfer_9 : decode cX4_transfer 9 = .ok (.invokevirtual 138, 3) := by decide +kernel
theorem dX4_transfer_12 : decode cX4_transfer 12 = .ok (.astore 5, 2) := by decide +kernel
theorem dX4_transfer_14 : decode cX4_transfer 14 = .ok (.iload_n 1, 1) := by decide +kernel
theorem dX4_transfer_15 : decode cX4_transfer 15 = .ok (.iload_n 2, 1) := by decide +kernel
theorem dX4_transfer_16 : decode cX4_transfer 16 = .ok (.if_icmp .eq 13, 3) := by decide +kernel
theorem dX4_transfer_19 : decode cX4_transfer 19 = .ok (.iload_n 3, 1) := by decide +kernel
theorem dX4_transfer_20 : decode cX4_transfer 20 = .ok (.iconst 1, 1) := by decide +kernel
theorem dX4_transfer_21 : decode cX4_transfer 21 = .ok (.ldc 57, 2) := by decide +kernel
theorem dX4_transfer_23 : decode cX4_transfer 23 = .ok (.invokestatic 52, 3) := by decide +kernel
theorem dX4_transfer_26 : decode cX4_transfer 26 = .ok (.ifCond .ne 13, 3) := by decide +kernel
theorem dX4_transfer_29 : decode cX4_transfer 29 = .ok (.new 67, 3) := by decide +kernel
theorem dX4_transfer_32 : decode cX4_transfer 32 = .ok (.dup, 1) := by decide +kernel
theorem dX4_transfer_33 : decode cX4_transfer 33 = .ok (.ldc 151, 2) := by decide +kernel
theorem dX4_transfer_35 : decode cX4_transfer 35 = .ok (.invokespecial 71, 3) := by decide +kernel
theorem dX4_transfer_38 : decode cX4_transfer 38 = .ok (.athrow, 1) := by decide +kernel
theorem dX4_transfer_39 : decode cX4_transfer 39 = .ok (.aload 4, 2) := by decide +kernel
theorem dX4_transfer_41 : decode cX4_transfer 41 = .ok (.getfield 153, 3) := by decide +kernel
theorem dX4_transfer_44 : decode cX4_transfer 44 = .ok (.iload_n 3, 1) := by decide +kernel
theorem dX4_transfer_45 : decode cX4_transfer 45 = .ok (.if_icmp .lt 18, 3) := by decide +kernel
theorem dX4_transfer_48 : decode cX4_transfer 48 = .ok (.aload 5, 2) := by decide +kernel
theorem dX4_transfer_50 : decode cX4_transfer 50 = .ok (.getfield 156, 3) := by decide +kernel
theorem dX4_transfer_53 : decode cX4_transfer 53 = .ok (.aload 5, 2) := by decide +kernel
theorem dX4_transfer_55 : decode cX4_transfer 55 = .ok (.getfield 153, 3) := by decide +kernel
theorem dX4_transfer_58 : decode cX4_transfer 58 = .ok (.isub, 1) := by decide +kernel
theorem dX4_transfer_59 : decode cX4_transfer 59 = .ok (.iload_n 3, 1) := by decide +kernel
theorem dX4_transfer_60 : decode cX4_transfer 60 = .ok (.if_icmp .ge 13, 3) := by decide +kernel
theorem dX4_transfer_63 : decode cX4_transfer 63 = .ok (.new 78, 3) := by decide +kernel
theorem dX4_transfer_66 : decode cX4_transfer 66 = .ok (.dup, 1) := by decide +kernel
theorem dX4_transfer_67 : decode cX4_transfer 67 = .ok (.ldc 157, 2) := by decide +kernel
theorem dX4_transfer_69 : decode cX4_transfer 69 = .ok (.invokespecial 82, 3) := by decide +kernel
theorem dX4_transfer_72 : decode cX4_transfer 72 = .ok (.athrow, 1) := by decide +kernel
theorem dX4_transfer_73 : decode cX4_transfer 73 = .ok (.aload 4, 2) := by decide +kernel
theorem dX4_transfer_75 : decode cX4_transfer 75 = .ok (.dup, 1) := by decide +kernel
theorem dX4_transfer_76 : decode cX4_transfer 76 = .ok (.getfield 153, 3) := by decide +kernel
theorem dX4_transfer_79 : decode cX4_transfer 79 = .ok (.iload_n 3, 1) := by decide +kernel
theorem dX4_transfer_80 : decode cX4_transfer 80 = .ok (.isub, 1) := by decide +kernel
theorem dX4_transfer_81 : decode cX4_transfer 81 = .ok (.putfield 153, 3) := by decide +kernel
theorem dX4_transfer_84 : decode cX4_transfer 84 = .ok (.aload 5, 2) := by decide +kernel
theorem dX4_transfer_86 : decode cX4_transfer 86 = .ok (.dup, 1) := by decide +kernel
theorem dX4_transfer_87 : decode cX4_transfer 87 = .ok (.getfield 153, 3) := by decide +kernel
theorem dX4_transfer_90 : decode cX4_transfer 90 = .ok (.iload_n 3, 1) := by decide +kernel
theorem dX4_transfer_91 : decode cX4_transfer 91 = .ok (.iadd, 1) := by decide +kernel
theorem dX4_transfer_92 : decode cX4_transfer 92 = .ok (.putfield 153, 3) := by decide +kernel
theorem dX4_transfer_95 : decode cX4_transfer 95 = .ok (.aload 5, 2) := by decide +kernel
theorem dX4_transfer_97 : decode cX4_transfer 97 = .ok (.getfield 153, 3) := by decide +kernel
theorem dX4_transfer_100 : decode cX4_transfer 100 = .ok (.ireturn, 1) := by decide +kernel
theorem dX4_law_0 : decode cX4_law 0 = .ok (.iload_n 1, 1) := by decide +kernel
theorem dX4_law_1 : decode cX4_law 1 = .ok (.aload_n 0, 1) := by decide +kernel
theorem dX4_law_2 : decode cX4_law 2 = .ok (.getfield 29, 3) := by decide +kernel
theorem dX4_law_5 : decode cX4_law 5 = .ok (.sipush 10000, 3) := by decide +kernel
theorem dX4_law_8 : decode cX4_law 8 = .ok (.invokestatic 52, 3) := by decide +kernel
theorem dX4_law_11 : decode cX4_law 11 = .ok (.ifCond .eq 24, 3) := by decide +kernel
theorem dX4_law_14 : decode cX4_law 14 = .ok (.iload_n 2, 1) := by decide +kernel
theorem dX4_law_15 : decode cX4_law 15 = .ok (.iload_n 1, 1) := by decide +kernel
theorem dX4_law_16 : decode cX4_law 16 = .ok (.sipush 10000, 3) := by decide +kernel
theorem dX4_law_19 : decode cX4_law 19 = .ok (.invokestatic 52, 3) := by decide +kernel
theorem dX4_law_22 : decode cX4_law 22 = .ok (.ifCond .eq 13, 3) := by decide +kernel
theorem dX4_law_25 : decode cX4_law 25 = .ok (.iload_n 3, 1) := by decide +kernel
theorem dX4_law_26 : decode cX4_law 26 = .ok (.iconst 0, 1) := by decide +kernel
theorem dX4_law_27 : decode cX4_law 27 = .ok (.ldc 159, 2) := by decide +kernel
theorem dX4_law_29 : decode cX4_law 29 = .ok (.invokestatic 52, 3) := by decide +kernel
theorem dX4_law_32 : decode cX4_law 32 = .ok (.ifCond .ne 13, 3) := by decide +kernel
theorem dX4_law_35 : decode cX4_law 35 = .ok (.new 67, 3) := by decide +kernel
theorem dX4_law_38 : decode cX4_law 38 = .ok (.dup, 1) := by decide +kernel
theorem dX4_law_39 : decode cX4_law 39 = .ok (.ldc 160, 2) := by decide +kernel
theorem dX4_law_41 : decode cX4_law 41 = .ok (.invokespecial 71, 3) := by decide +kernel
theorem dX4_law_44 : decode cX4_law 44 = .ok (.athrow, 1) := by decide +kernel
theorem dX4_law_45 : decode cX4_law 45 = .ok (.aload_n 0, 1) := by decide +kernel
theorem dX4_law_46 : decode cX4_law 46 = .ok (.getfield 19, 3) := by decide +kernel
theorem dX4_law_49 : decode cX4_law 49 = .ok (.invokevirtual 74, 3) := by decide +kernel
theorem dX4_law_52 : decode cX4_law 52 = .ok (.bipush 20, 2) := by decide +kernel
theorem dX4_law_54 : decode cX4_law 54 = .ok (.if_icmp .lt 13, 3) := by decide +kernel
theorem dX4_law_57 : decode cX4_law 57 = .ok (.new 78, 3) := by decide +kernel
theorem dX4_law_60 : decode cX4_law 60 = .ok (.dup, 1) := by decide +kernel
theorem dX4_law_61 : decode cX4_law 61 = .ok (.ldc 162, 2) := by decide +kernel
theorem dX4_law_63 : decode cX4_law 63 = .ok (.invokespecial 82, 3) := by decide +kernel
theorem dX4_law_66 : decode cX4_law 66 = .ok (.athrow, 1) := by decide +kernel
theorem dX4_law_67 : decode cX4_law 67 = .ok (.aload_n 0, 1) := by decide +kernel
theorem dX4_law_68 : decode cX4_law 68 = .ok (.getfield 19, 3) := by decide +kernel
theorem dX4_law_71 : decode cX4_law 71 = .ok (.new 164, 3) := by decide +kernel
theorem dX4_law_74 : decode cX4_law 74 = .ok (.dup, 1) := by decide +kernel
theorem dX4_law_75 : decode cX4_law 75 = .ok (.iload_n 1, 1) := by decide +kernel
theorem dX4_law_76 : decode cX4_law 76 = .ok (.iload_n 2, 1) := by decide +kernel
theorem dX4_law_77 : decode cX4_law 77 = .ok (.iload_n 3, 1) := by decide +kernel
theorem dX4_law_78 : decode cX4_law 78 = .ok (.invokespecial 166, 3) := by decide +kernel
theorem dX4_law_81 : decode cX4_law 81 = .ok (.invokevirtual 90, 3) := by decide +kernel
theorem dX4_law_84 : decode cX4_law 84 = .ok (.pop, 1) := by decide +kernel
theorem dX4_law_85 : decode cX4_law 85 = .ok (.aload_n 0, 1) := by decide +kernel
theorem dX4_law_86 : decode cX4_law 86 = .ok (.getfield 19, 3) := by decide +kernel
theorem dX4_law_89 : decode cX4_law 89 = .ok (.invokevirtual 74, 3) := by decide +kernel
theorem dX4_law_92 : decode cX4_law 92 = .ok (.ireturn, 1) := by decide +kernel
theorem dX4_price_0 : decode cX4_price 0 = .ok (.iload_n 1, 1) := by decide +kernel
theorem dX4_price_1 : decode cX4_price 1 = .ok (.aload_n 0, 1) := by decide +kernel
theorem dX4_price_2 : decode cX4_price 2 = .ok (.getfield 29, 3) := by decide +kernel
theorem dX4_price_5 : decode cX4_price 5 = .ok (.aload_n 0, 1) := by decide +kernel
theorem dX4_price_6 : decode cX4_price 6 = .ok (.getfield 29, 3) := by decide +kernel
theorem dX4_price_9 : decode cX4_price 9 = .ok (.bipush 60, 2) := by decide +kernel
theorem dX4_price_11 : decode cX4_price 11 = .ok (.iadd, 1) := by decide +kernel
theorem dX4_price_12 : decode cX4_price 12 = .ok (.invokestatic 52, 3) := by decide +kernel
theorem dX4_price_15 : decode cX4_price 15 = .ok (.ifCond .eq 16, 3) := by decide +kernel
theorem dX4_price_18 : decode cX4_price 18 = .ok (.iload_n 2, 1) := by decide +kernel
theorem dX4_price_19 : decode cX4_price 19 = .ok (.sipush (-1000), 3) := by decide +kernel
theorem dX4_price_22 : decode cX4_price 22 = .ok (.sipush 1000, 3) := by decide +kernel
theorem dX4_price_25 : decode cX4_price 25 = .ok (.invokestatic 52, 3) := by decide +kernel
theorem dX4_price_28 : decode cX4_price 28 = .ok (.ifCond .ne 13, 3) := by decide +kernel
theorem dX4_price_31 : decode cX4_price 31 = .ok (.new 67, 3) := by decide +kernel
theorem dX4_price_34 : decode cX4_price 34 = .ok (.dup, 1) := by decide +kernel
theorem dX4_price_35 : decode cX4_price 35 = .ok (.ldc 169, 2) := by decide +kernel
theorem dX4_price_37 : decode cX4_price 37 = .ok (.invokespecial 71, 3) := by decide +kernel
theorem dX4_price_40 : decode cX4_price 40 = .ok (.athrow, 1) := by decide +kernel
theorem dX4_price_41 : decode cX4_price 41 = .ok (.aload_n 0, 1) := by decide +kernel
theorem dX4_price_42 : decode cX4_price 42 = .ok (.getfield 25, 3) := by decide +kernel
theorem dX4_price_45 : decode cX4_price 45 = .ok (.iload_n 1, 1) := by decide +kernel
theorem dX4_price_46 : decode cX4_price 46 = .ok (.iload_n 2, 1) := by decide +kernel
theorem dX4_price_47 : decode cX4_price 47 = .ok (.invokevirtual 148, 3) := by decide +kernel
theorem dX4_price_50 : decode cX4_price 50 = .ok (.ireturn, 1) := by decide +kernel
theorem dX4_pass_0 : decode cX4_pass 0 = .ok (.iload_n 1, 1) := by decide +kernel
theorem dX4_pass_1 : decode cX4_pass 1 = .ok (.iconst 1, 1) := by decide +kernel
theorem dX4_pass_2 : decode cX4_pass 2 = .ok (.sipush 240, 3) := by decide +kernel
theorem dX4_pass_5 : decode cX4_pass 5 = .ok (.invokestatic 52, 3) := by decide +kernel
theorem dX4_pass_8 : decode cX4_pass 8 = .ok (.ifCond .ne 13, 3) := by decide +kernel
theorem dX4_pass_11 : decode cX4_pass 11 = .ok (.new 67, 3) := by decide +kernel
theorem dX4_pass_14 : decode cX4_pass 14 = .ok (.dup, 1) := by decide +kernel
theorem dX4_pass_15 : decode cX4_pass 15 = .ok (.ldc 171, 2) := by decide +kernel
theorem dX4_pass_17 : decode cX4_pass 17 = .ok (.invokespecial 71, 3) := by decide +kernel
theorem dX4_pass_20 : decode cX4_pass 20 = .ok (.athrow, 1) := by decide +kernel
theorem dX4_pass_21 : decode cX4_pass 21 = .ok (.aload_n 0, 1) := by decide +kernel
theorem dX4_pass_22 : decode cX4_pass 22 = .ok (.getfield 29, 3) := by decide +kernel
theorem dX4_pass_25 : decode cX4_pass 25 = .ok (.iload_n 1, 1) := by decide +kernel
theorem dX4_pass_26 : decode cX4_pass 26 = .ok (.iadd, 1) := by decide +kernel
theorem dX4_pass_27 : decode cX4_pass 27 = .ok (.sipush 9900, 3) := by decide +kernel
theorem dX4_pass_30 : decode cX4_pass 30 = .ok (.if_icmp .le 13, 3) := by decide +kernel
theorem dX4_pass_33 : decode cX4_pass 33 = .ok (.new 78, 3) := by decide +kernel
theorem dX4_pass_36 : decode cX4_pass 36 = .ok (.dup, 1) := by decide +kernel
theorem dX4_pass_37 : decode cX4_pass 37 = .ok (.ldc 173, 2) := by decide +kernel
theorem dX4_pass_39 : decode cX4_pass 39 = .ok (.invokespecial 82, 3) := by decide +kernel
theorem dX4_pass_42 : decode cX4_pass 42 = .ok (.athrow, 1) := by decide +kernel
theorem dX4_pass_43 : decode cX4_pass 43 = .ok (.iconst 0, 1) := by decide +kernel
theorem dX4_pass_44 : decode cX4_pass 44 = .ok (.istore_n 2, 1) := by decide +kernel
theorem dX4_pass_45 : decode cX4_pass 45 = .ok (.iload_n 2, 1) := by decide +kernel
theorem dX4_pass_46 : decode cX4_pass 46 = .ok (.iload_n 1, 1) := by decide +kernel
theorem dX4_pass_47 : decode cX4_pass 47 = .ok (.if_icmp .ge 13, 3) := by decide +kernel
theorem dX4_pass_50 : decode cX4_pass 50 = .ok (.aload_n 0, 1) := by decide +kernel
theorem dX4_pass_51 : decode cX4_pass 51 = .ok (.invokevirtual 175, 3) := by decide +kernel
theorem dX4_pass_54 : decode cX4_pass 54 = .ok (.iinc 2 1, 3) := by decide +kernel
theorem dX4_pass_57 : decode cX4_pass 57 = .ok (.goto (-12), 3) := by decide +kernel
theorem dX4_pass_60 : decode cX4_pass 60 = .ok (.aload_n 0, 1) := by decide +kernel
theorem dX4_pass_61 : decode cX4_pass 61 = .ok (.getfield 29, 3) := by decide +kernel
theorem dX4_pass_64 : decode cX4_pass 64 = .ok (.ireturn, 1) := by decide +kernel
theorem dX4_pressure_0 : decode cX4_pressure 0 = .ok (.aload_n 0, 1) := by decide +kernel
theorem dX4_pressure_1 : decode cX4_pressure 1 = .ok (.iload_n 1, 1) := by decide +kernel
theorem dX4_pressure_2 : decode cX4_pressure 2 = .ok (.invokevirtual 94, 3) := by decide +kernel
theorem dX4_pressure_5 : decode cX4_pressure 5 = .ok (.invokevirtual 178, 3) := by decide +kernel
theorem dX4_pressure_8 : decode cX4_pressure 8 = .ok (.ireturn, 1) := by decide +kernel
theorem dX4_rate_0 : decode cX4_rate 0 = .ok (.aload_n 0, 1) := by decide +kernel
theorem dX4_rate_1 : decode cX4_rate 1 = .ok (.iload_n 1, 1) := by decide +kernel
theorem dX4_rate_2 : decode cX4_rate 2 = .ok (.invokevirtual 94, 3) := by decide +kernel
theorem dX4_rate_5 : decode cX4_rate 5 = .ok (.astore_n 3, 1) := by decide +kernel
theorem dX4_rate_6 : decode cX4_rate 6 = .ok (.iload_n 2, 1) := by decide +kernel
theorem dX4_rate_7 : decode cX4_rate 7 = .ok (.ifCond .eq 10, 3) := by decide +kernel
theorem dX4_rate_10 : decode cX4_rate 10 = .ok (.aload_n 3, 1) := by decide +kernel
theorem dX4_rate_11 : decode cX4_rate 11 = .ok (.invokevirtual 181, 3) := by decide +kernel
theorem dX4_rate_14 : decode cX4_rate 14 = .ok (.goto 7, 3) := by decide +kernel
theorem dX4_rate_17 : decode cX4_rate 17 = .ok (.aload_n 3, 1) := by decide +kernel
theorem dX4_rate_18 : decode cX4_rate 18 = .ok (.invokevirtual 106, 3) := by decide +kernel
theorem dX4_rate_21 : decode cX4_rate 21 = .ok (.ireturn, 1) := by decide +kernel
theorem dX4_mix_0 : decode cX4_mix 0 = .ok (.aload_n 0, 1) := by decide +kernel
theorem dX4_mix_1 : decode cX4_mix 1 = .ok (.iload_n 1, 1) := by decide +kernel
theorem dX4_mix_2 : decode cX4_mix 2 = .ok (.invokevirtual 94, 3) := by decide +kernel
theorem dX4_mix_5 : decode cX4_mix 5 = .ok (.astore_n 2, 1) := by decide +kernel
theorem dX4_mix_6 : decode cX4_mix 6 = .ok (.aload_n 2, 1) := by decide +kernel
theorem dX4_mix_7 : decode cX4_mix 7 = .ok (.getfield 119, 3) := by decide +kernel
theorem dX4_mix_10 : decode cX4_mix 10 = .ok (.ifCond .le 18, 3) := by decide +kernel
theorem dX4_mix_13 : decode cX4_mix 13 = .ok (.aload_n 2, 1) := by decide +kernel
theorem dX4_mix_14 : decode cX4_mix 14 = .ok (.getfield 184, 3) := by decide +kernel
theorem dX4_mix_17 : decode cX4_mix 17 = .ok (.l2f, 1) := by decide +kernel
theorem dX4_mix_18 : decode cX4_mix 18 = .ok (.aload_n 2, 1) := by decide +kernel
theorem dX4_mix_19 : decode cX4_mix 19 = .ok (.getfield 119, 3) := by decide +kernel
theorem dX4_mix_22 : decode cX4_mix 22 = .ok (.i2f, 1) := by decide +kernel
theorem dX4_mix_23 : decode cX4_mix 23 = .ok (.fdiv, 1) := by decide +kernel
theorem dX4_mix_24 : decode cX4_mix 24 = .ok (.f2i, 1) := by decide +kernel
theorem dX4_mix_25 : decode cX4_mix 25 = .ok (.goto 4, 3) := by decide +kernel
theorem dX4_mix_28 : decode cX4_mix 28 = .ok (.iconst 0, 1) := by decide +kernel
theorem dX4_mix_29 : decode cX4_mix 29 = .ok (.ireturn, 1) := by decide +kernel
theorem dX4_ofStore_0 : decode cX4_ofStore 0 = .ok (.aload_n 0, 1) := by decide +kernel
theorem dX4_ofStore_1 : decode cX4_ofStore 1 = .ok (.iload_n 1, 1) := by decide +kernel
theorem dX4_ofStore_2 : decode cX4_ofStore 2 = .ok (.invokevirtual 94, 3) := by decide +kernel
theorem dX4_ofStore_5 : decode cX4_ofStore 5 = .ok (.astore_n 3, 1) := by decide +kernel
theorem dX4_ofStore_6 : decode cX4_ofStore 6 = .ok (.iload_n 2, 1) := by decide +kernel
theorem dX4_ofStore_7 : decode cX4_ofStore 7 = .ok (.tableswitch 82 0 6 #[41, 47, 53, 59, 65, 70, 76], 41) := by decide +kernel
theorem dX4_ofStore_48 : decode cX4_ofStore 48 = .ok (.aload_n 3, 1) := by decide +kernel
theorem dX4_ofStore_49 : decode cX4_ofStore 49 = .ok (.getfield 119, 3) := by decide +kernel
theorem dX4_ofStore_52 : decode cX4_ofStore 52 = .ok (.i2l, 1) := by decide +kernel
theorem dX4_ofStore_53 : decode cX4_ofStore 53 = .ok (.lreturn, 1) := by decide +kernel
theorem dX4_ofStore_54 : decode cX4_ofStore 54 = .ok (.aload_n 3, 1) := by decide +kernel
theorem dX4_ofStore_55 : decode cX4_ofStore 55 = .ok (.invokevirtual 187, 3) := by decide +kernel
theorem dX4_ofStore_58 : decode cX4_ofStore 58 = .ok (.i2l, 1) := by decide +kernel
theorem dX4_ofStore_59 : decode cX4_ofStore 59 = .ok (.lreturn, 1) := by decide +kernel
theorem dX4_ofStore_60 : decode cX4_ofStore 60 = .ok (.aload_n 3, 1) := by decide +kernel
theorem dX4_ofStore_61 : decode cX4_ofStore 61 = .ok (.getfield 122, 3) := by decide +kernel
theorem dX4_ofStore_64 : decode cX4_ofStore 64 = .ok (.i2l, 1) := by decide +kernel
theorem dX4_ofStore_65 : decode cX4_ofStore 65 = .ok (.lreturn, 1) := by decide +kernel
theorem dX4_ofStore_66 : decode cX4_ofStore 66 = .ok (.aload_n 3, 1) := by decide +kernel
theorem dX4_ofStore_67 : decode cX4_ofStore 67 = .ok (.getfield 190, 3) := by decide +kernel
theorem dX4_ofStore_70 : decode cX4_ofStore 70 = .ok (.i2l, 1) := by decide +kernel
theorem dX4_ofStore_71 : decode cX4_ofStore 71 = .ok (.lreturn, 1) := by decide +kernel
theorem dX4_ofStore_72 : decode cX4_ofStore 72 = .ok (.aload_n 3, 1) := by decide +kernel
theorem dX4_ofStore_73 : decode cX4_ofStore 73 = .ok (.getfield 184, 3) := by decide +kernel
theorem dX4_ofStore_76 : decode cX4_ofStore 76 = .ok (.lreturn, 1) := by decide +kernel
theorem dX4_ofStore_77 : decode cX4_ofStore 77 = .ok (.aload_n 3, 1) := by decide +kernel
theorem dX4_ofStore_78 : decode cX4_ofStore 78 = .ok (.invokevirtual 193, 3) := by decide +kernel
theorem dX4_ofStore_81 : decode cX4_ofStore 81 = .ok (.i2l, 1) := by decide +kernel
theorem dX4_ofStore_82 : decode cX4_ofStore 82 = .ok (.lreturn, 1) := by decide +kernel
theorem dX4_ofStore_83 : decode cX4_ofStore 83 = .ok (.aload_n 3, 1) := by decide +kernel
theorem dX4_ofStore_84 : decode cX4_ofStore 84 = .ok (.invokevirtual 196, 3) := by decide +kernel
theorem dX4_ofStore_87 : decode cX4_ofStore 87 = .ok (.i2l, 1) := by decide +kernel
theorem dX4_ofStore_88 : decode cX4_ofStore 88 = .ok (.lreturn, 1) := by decide +kernel
theorem dX4_ofStore_89 : decode cX4_ofStore 89 = .ok (.new 67, 3) := by decide +kernel
theorem dX4_ofStore_92 : decode cX4_ofStore 92 = .ok (.dup, 1) := by decide +kernel
theorem dX4_ofStore_93 : decode cX4_ofStore 93 = .ok (.ldc 199, 2) := by decide +kernel
theorem dX4_ofStore_95 : decode cX4_ofStore 95 = .ok (.invokespecial 71, 3) := by decide +kernel
theorem dX4_ofStore_98 : decode cX4_ofStore 98 = .ok (.athrow, 1) := by decide +kernel
theorem dX4_ofCustomer_0 : decode cX4_ofCustomer 0 = .ok (.aload_n 0, 1) := by decide +kernel
theorem dX4_ofCustomer_1 : decode cX4_ofCustomer 1 = .ok (.iload_n 1, 1) := by decide +kernel
theorem dX4_ofCustomer_2 : decode cX4_ofCustomer 2 = .ok (.invokevirtual 138, 3) := by decide +kernel
theorem dX4_ofCustomer_5 : decode cX4_ofCustomer 5 = .ok (.astore_n 3, 1) := by decide +kernel
theorem dX4_ofCustomer_6 : decode cX4_ofCustomer 6 = .ok (.iload_n 2, 1) := by decide +kernel
theorem dX4_ofCustomer_7 : decode cX4_ofCustomer 7 = .ok (.tableswitch 78 0 5 #[37, 43, 53, 63, 68, 73], 37) := by decide +kernel
theorem dX4_ofCustomer_44 : decode cX4_ofCustomer 44 = .ok (.aload_n 3, 1) := by decide +kernel
theorem dX4_ofCustomer_45 : decode cX4_ofCustomer 45 = .ok (.getfield 153, 3) := by decide +kernel
theorem dX4_ofCustomer_48 : decode cX4_ofCustomer 48 = .ok (.i2l, 1) := by decide +kernel
theorem dX4_ofCustomer_49 : decode cX4_ofCustomer 49 = .ok (.lreturn, 1) := by decide +kernel
theorem dX4_ofCustomer_50 : decode cX4_ofCustomer 50 = .ok (.aload_n 3, 1) := by decide +kernel
theorem dX4_ofCustomer_51 : decode cX4_ofCustomer 51 = .ok (.aload_n 3, 1) := by decide +kernel
theorem dX4_ofCustomer_52 : decode cX4_ofCustomer 52 = .ok (.getfield 153, 3) := by decide +kernel
theorem dX4_ofCustomer_55 : decode cX4_ofCustomer 55 = .ok (.invokevirtual 201, 3) := by decide +kernel
theorem dX4_ofCustomer_58 : decode cX4_ofCustomer 58 = .ok (.i2l, 1) := by decide +kernel
theorem dX4_ofCustomer_59 : decode cX4_ofCustomer 59 = .ok (.lreturn, 1) := by decide +kernel
theorem dX4_ofCustomer_60 : decode cX4_ofCustomer 60 = .ok (.aload_n 3, 1) := by decide +kernel
theorem dX4_ofCustomer_61 : decode cX4_ofCustomer 61 = .ok (.aload_n 3, 1) := by decide +kernel
theorem dX4_ofCustomer_62 : decode cX4_ofCustomer 62 = .ok (.getfield 153, 3) := by decide +kernel
theorem dX4_ofCustomer_65 : decode cX4_ofCustomer 65 = .ok (.invokevirtual 205, 3) := by decide +kernel
theorem dX4_ofCustomer_68 : decode cX4_ofCustomer 68 = .ok (.i2l, 1) := by decide +kernel
theorem dX4_ofCustomer_69 : decode cX4_ofCustomer 69 = .ok (.lreturn, 1) := by decide +kernel
theorem dX4_ofCustomer_70 : decode cX4_ofCustomer 70 = .ok (.aload_n 3, 1) := by decide +kernel
theorem dX4_ofCustomer_71 : decode cX4_ofCustomer 71 = .ok (.getfield 208, 3) := by decide +kernel
theorem dX4_ofCustomer_74 : decode cX4_ofCustomer 74 = .ok (.lreturn, 1) := by decide +kernel
theorem dX4_ofCustomer_75 : decode cX4_ofCustomer 75 = .ok (.aload_n 3, 1) := by decide +kernel
theorem dX4_ofCustomer_76 : decode cX4_ofCustomer 76 = .ok (.getfield 211, 3) := by decide +kernel
theorem dX4_ofCustomer_79 : decode cX4_ofCustomer 79 = .ok (.lreturn, 1) := by decide +kernel
theorem dX4_ofCustomer_80 : decode cX4_ofCustomer 80 = .ok (.aload_n 3, 1) := by decide +kernel
theorem dX4_ofCustomer_81 : decode cX4_ofCustomer 81 = .ok (.getfield 214, 3) := by decide +kernel
theorem dX4_ofCustomer_84 : decode cX4_ofCustomer 84 = .ok (.lreturn, 1) := by decide +kernel
theorem dX4_ofCustomer_85 : decode cX4_ofCustomer 85 = .ok (.new 67, 3) := by decide +kernel
theorem dX4_ofCustomer_88 : decode cX4_ofCustomer 88 = .ok (.dup, 1) := by decide +kernel
theorem dX4_ofCustomer_89 : decode cX4_ofCustomer 89 = .ok (.ldc 199, 2) := by decide +kernel
theorem dX4_ofCustomer_91 : decode cX4_ofCustomer 91 = .ok (.invokespecial 71, 3) := by decide +kernel
theorem dX4_ofCustomer_94 : decode cX4_ofCustomer 94 = .ok (.athrow, 1) := by decide +kernel
theorem dX4_flow_0 : decode cX4_flow 0 = .ok (.aload_n 0, 1) := by decide +kernel
theorem dX4_flow_1 : decode cX4_flow 1 = .ok (.iload_n 1, 1) := by decide +kernel
theorem dX4_flow_2 : decode cX4_flow 2 = .ok (.invokevirtual 138, 3) := by decide +kernel
theorem dX4_flow_5 : decode cX4_flow 5 = .ok (.astore_n 2, 1) := by decide +kernel
theorem dX4_flow_6 : decode cX4_flow 6 = .ok (.aload_n 0, 1) := by decide +kernel
theorem dX4_flow_7 : decode cX4_flow 7 = .ok (.invokevirtual 217, 3) := by decide +kernel
theorem dX4_flow_10 : decode cX4_flow 10 = .ok (.aload_n 2, 1) := by decide +kernel
theorem dX4_flow_11 : decode cX4_flow 11 = .ok (.getfield 220, 3) := by decide +kernel
theorem dX4_flow_14 : decode cX4_flow 14 = .ok (.ireturn, 1) := by decide +kernel
theorem dX4_why_0 : decode cX4_why 0 = .ok (.aload_n 0, 1) := by decide +kernel
theorem dX4_why_1 : decode cX4_why 1 = .ok (.iload_n 1, 1) := by decide +kernel
theorem dX4_why_2 : decode cX4_why 2 = .ok (.invokevirtual 138, 3) := by decide +kernel
theorem dX4_why_5 : decode cX4_why 5 = .ok (.astore_n 2, 1) := by decide +kernel
theorem dX4_why_6 : decode cX4_why 6 = .ok (.aload_n 0, 1) := by decide +kernel
theorem dX4_why_7 : decode cX4_why 7 = .ok (.invokevirtual 217, 3) := by decide +kernel
theorem dX4_why_10 : decode cX4_why 10 = .ok (.aload_n 2, 1) := by decide +kernel
theorem dX4_why_11 : decode cX4_why 11 = .ok (.getfield 223, 3) := by decide +kernel
theorem dX4_why_14 : decode cX4_why 14 = .ok (.ireturn, 1) := by decide +kernel
theorem dX4_worth_0 : decode cX4_worth 0 = .ok (.aload_n 0, 1) := by decide +kernel
theorem dX4_worth_1 : decode cX4_worth 1 = .ok (.iload_n 1, 1) := by decide +kernel
theorem dX4_worth_2 : decode cX4_worth 2 = .ok (.invokevirtual 138, 3) := by decide +kernel
theorem dX4_worth_5 : decode cX4_worth 5 = .ok (.astore_n 3, 1) := by decide +kernel
theorem dX4_worth_6 : decode cX4_worth 6 = .ok (.iload_n 2, 1) := by decide +kernel
theorem dX4_worth_7 : decode cX4_worth 7 = .ok (.iconst 1, 1) := by decide +kernel
theorem dX4_worth_8 : decode cX4_worth 8 = .ok (.bipush 8, 2) := by decide +kernel
theorem dX4_worth_10 : decode cX4_worth 10 = .ok (.invokestatic 52, 3) := by decide +kernel
theorem dX4_worth_13 : decode cX4_worth 13 = .ok (.ifCond .ne 13, 3) := by decide +kernel
theorem dX4_worth_16 : decode cX4_worth 16 = .ok (.new 67, 3) := by decide +kernel
theorem dX4_worth_19 : decode cX4_worth 19 = .ok (.dup, 1) := by decide +kernel
theorem dX4_worth_20 : decode cX4_worth 20 = .ok (.ldc 171, 2) := by decide +kernel
theorem dX4_worth_22 : decode cX4_worth 22 = .ok (.invokespecial 71, 3) := by decide +kernel
theorem dX4_worth_25 : decode cX4_worth 25 = .ok (.athrow, 1) := by decide +kernel
theorem dX4_worth_26 : decode cX4_worth 26 = .ok (.aload_n 3, 1) := by decide +kernel
theorem dX4_worth_27 : decode cX4_worth 27 = .ok (.aload_n 0, 1) := by decide +kernel
theorem dX4_worth_28 : decode cX4_worth 28 = .ok (.getfield 25, 3) := by decide +kernel
theorem dX4_worth_31 : decode cX4_worth 31 = .ok (.aload_n 3, 1) := by decide +kernel
theorem dX4_worth_32 : decode cX4_worth 32 = .ok (.getfield 153, 3) := by decide +kernel
theorem dX4_worth_35 : decode cX4_worth 35 = .ok (.aload_n 0, 1) := by decide +kernel
theorem dX4_worth_36 : decode cX4_worth 36 = .ok (.getfield 29, 3) := by decide +kernel
theorem dX4_worth_39 : decode cX4_worth 39 = .ok (.iload_n 2, 1) := by decide +kernel
theorem dX4_worth_40 : decode cX4_worth 40 = .ok (.invokestatic 226, 3) := by decide +kernel
theorem dX4_worth_43 : decode cX4_worth 43 = .ok (.lreturn, 1) := by decide +kernel
theorem dX4_worthAnew_0 : decode cX4_worthAnew 0 = .ok (.aload_n 0, 1) := by decide +kernel
theorem dX4_worthAnew_1 : decode cX4_worthAnew 1 = .ok (.iload_n 1, 1) := by decide +kernel
theorem dX4_worthAnew_2 : decode cX4_worthAnew 2 = .ok (.invokevirtual 138, 3) := by decide +kernel
theorem dX4_worthAnew_5 : decode cX4_worthAnew 5 = .ok (.astore_n 3, 1) := by decide +kernel
theorem dX4_worthAnew_6 : decode cX4_worthAnew 6 = .ok (.iload_n 2, 1) := by decide +kernel
theorem dX4_worthAnew_7 : decode cX4_worthAnew 7 = .ok (.iconst 1, 1) := by decide +kernel
theorem dX4_worthAnew_8 : decode cX4_worthAnew 8 = .ok (.bipush 8, 2) := by decide +kernel
theorem dX4_worthAnew_10 : decode cX4_worthAnew 10 = .ok (.invokestatic 52, 3) := by decide +kernel
theorem dX4_worthAnew_13 : decode cX4_worthAnew 13 = .ok (.ifCond .ne 13, 3) := by decide +kernel
theorem dX4_worthAnew_16 : decode cX4_worthAnew 16 = .ok (.new 67, 3) := by decide +kernel
theorem dX4_worthAnew_19 : decode cX4_worthAnew 19 = .ok (.dup, 1) := by decide +kernel
theorem dX4_worthAnew_20 : decode cX4_worthAnew 20 = .ok (.ldc 171, 2) := by decide +kernel
theorem dX4_worthAnew_22 : decode cX4_worthAnew 22 = .ok (.invokespecial 71, 3) := by decide +kernel
theorem dX4_worthAnew_25 : decode cX4_worthAnew 25 = .ok (.athrow, 1) := by decide +kernel
theorem dX4_worthAnew_26 : decode cX4_worthAnew 26 = .ok (.iconst 1, 1) := by decide +kernel
theorem dX4_worthAnew_27 : decode cX4_worthAnew 27 = .ok (.istore 4, 2) := by decide +kernel
theorem dX4_worthAnew_29 : decode cX4_worthAnew 29 = .ok (.iconst 0, 1) := by decide +kernel
theorem dX4_worthAnew_30 : decode cX4_worthAnew 30 = .ok (.istore 5, 2) := by decide +kernel
theorem dX4_worthAnew_32 : decode cX4_worthAnew 32 = .ok (.iload 5, 2) := by decide +kernel
theorem dX4_worthAnew_34 : decode cX4_worthAnew 34 = .ok (.iload_n 2, 1) := by decide +kernel
theorem dX4_worthAnew_35 : decode cX4_worthAnew 35 = .ok (.if_icmp .ge 15, 3) := by decide +kernel
theorem dX4_worthAnew_38 : decode cX4_worthAnew 38 = .ok (.iload 4, 2) := by decide +kernel
theorem dX4_worthAnew_40 : decode cX4_worthAnew 40 = .ok (.iconst 3, 1) := by decide +kernel
theorem dX4_worthAnew_41 : decode cX4_worthAnew 41 = .ok (.imul, 1) := by decide +kernel
theorem dX4_worthAnew_42 : decode cX4_worthAnew 42 = .ok (.istore 4, 2) := by decide +kernel
theorem dX4_worthAnew_44 : decode cX4_worthAnew 44 = .ok (.iinc 5 1, 3) := by decide +kernel
theorem dX4_worthAnew_47 : decode cX4_worthAnew 47 = .ok (.goto (-15), 3) := by decide +kernel
theorem dX4_worthAnew_50 : decode cX4_worthAnew 50 = .ok (.lconst 0, 1) := by decide +kernel
theorem dX4_worthAnew_51 : decode cX4_worthAnew 51 = .ok (.lstore 5, 2) := by decide +kernel
theorem dX4_worthAnew_53 : decode cX4_worthAnew 53 = .ok (.iconst 0, 1) := by decide +kernel
theorem dX4_worthAnew_54 : decode cX4_worthAnew 54 = .ok (.istore 7, 2) := by decide +kernel
theorem dX4_worthAnew_56 : decode cX4_worthAnew 56 = .ok (.iload 7, 2) := by decide +kernel
theorem dX4_worthAnew_58 : decode cX4_worthAnew 58 = .ok (.iload 4, 2) := by decide +kernel
theorem dX4_worthAnew_60 : decode cX4_worthAnew 60 = .ok (.if_icmp .ge 24, 3) := by decide +kernel
theorem dX4_worthAnew_63 : decode cX4_worthAnew 63 = .ok (.lload 5, 2) := by decide +kernel
theorem dX4_worthAnew_65 : decode cX4_worthAnew 65 = .ok (.aload_n 0, 1) := by decide +kernel
theorem dX4_worthAnew_66 : decode cX4_worthAnew 66 = .ok (.aload_n 3, 1) := by decide +kernel
theorem dX4_worthAnew_67 : decode cX4_worthAnew 67 = .ok (.iload 7, 2) := by decide +kernel
theorem dX4_worthAnew_69 : decode cX4_worthAnew 69 = .ok (.iload_n 2, 1) := by decide +kernel
theorem dX4_worthAnew_70 : decode cX4_worthAnew 70 = .ok (.invokevirtual 230, 3) := by decide +kernel
theorem dX4_worthAnew_73 : decode cX4_worthAnew 73 = .ok (.invokestatic 234, 3) := by decide +kernel
theorem dX4_worthAnew_76 : decode cX4_worthAnew 76 = .ok (.lstore 5, 2) := by decide +kernel
theorem dX4_worthAnew_78 : decode cX4_worthAnew 78 = .ok (.iinc 7 1, 3) := by decide +kernel
theorem dX4_worthAnew_81 : decode cX4_worthAnew 81 = .ok (.goto (-25), 3) := by decide +kernel
theorem dX4_worthAnew_84 : decode cX4_worthAnew 84 = .ok (.lload 5, 2) := by decide +kernel
theorem dX4_worthAnew_86 : decode cX4_worthAnew 86 = .ok (.lreturn, 1) := by decide +kernel
theorem dX4_of_0 : decode cX4_of 0 = .ok (.iload_n 1, 1) := by decide +kernel
theorem dX4_of_1 : decode cX4_of 1 = .ok (.tableswitch 101 0 7 #[47, 53, 58, 63, 68, 74, 80, 91], 47) := by decide +kernel
theorem dX4_of_48 : decode cX4_of 48 = .ok (.aload_n 0, 1) := by decide +kernel
theorem dX4_of_49 : decode cX4_of 49 = .ok (.getfield 29, 3) := by decide +kernel
theorem dX4_of_52 : decode cX4_of 52 = .ok (.i2l, 1) := by decide +kernel
theorem dX4_of_53 : decode cX4_of 53 = .ok (.lreturn, 1) := by decide +kernel
theorem dX4_of_54 : decode cX4_of 54 = .ok (.aload_n 0, 1) := by decide +kernel
theorem dX4_of_55 : decode cX4_of 55 = .ok (.getfield 42, 3) := by decide +kernel
theorem dX4_of_58 : decode cX4_of 58 = .ok (.lreturn, 1) := by decide +kernel
theorem dX4_of_59 : decode cX4_of 59 = .ok (.aload_n 0, 1) := by decide +kernel
theorem dX4_of_60 : decode cX4_of 60 = .ok (.getfield 46, 3) := by decide +kernel
theorem dX4_of_63 : decode cX4_of 63 = .ok (.lreturn, 1) := by decide +kernel
theorem dX4_of_64 : decode cX4_of 64 = .ok (.aload_n 0, 1) := by decide +kernel
theorem dX4_of_65 : decode cX4_of 65 = .ok (.getfield 49, 3) := by decide +kernel
theorem dX4_of_68 : decode cX4_of 68 = .ok (.lreturn, 1) := by decide +kernel
theorem dX4_of_69 : decode cX4_of 69 = .ok (.aload_n 0, 1) := by decide +kernel
theorem dX4_of_70 : decode cX4_of 70 = .ok (.invokevirtual 240, 3) := by decide +kernel
theorem dX4_of_73 : decode cX4_of 73 = .ok (.i2l, 1) := by decide +kernel
theorem dX4_of_74 : decode cX4_of 74 = .ok (.lreturn, 1) := by decide +kernel
theorem dX4_of_75 : decode cX4_of 75 = .ok (.aload_n 0, 1) := by decide +kernel
theorem dX4_of_76 : decode cX4_of 76 = .ok (.invokevirtual 243, 3) := by decide +kernel
theorem dX4_of_79 : decode cX4_of 79 = .ok (.i2l, 1) := by decide +kernel
theorem dX4_of_80 : decode cX4_of 80 = .ok (.lreturn, 1) := by decide +kernel
theorem dX4_of_81 : decode cX4_of 81 = .ok (.aload_n 0, 1) := by decide +kernel
theorem dX4_of_82 : decode cX4_of 82 = .ok (.invokevirtual 240, 3) := by decide +kernel
theorem dX4_of_85 : decode cX4_of 85 = .ok (.aload_n 0, 1) := by decide +kernel
theorem dX4_of_86 : decode cX4_of 86 = .ok (.invokevirtual 243, 3) := by decide +kernel
theorem dX4_of_89 : decode cX4_of 89 = .ok (.isub, 1) := by decide +kernel
theorem dX4_of_90 : decode cX4_of 90 = .ok (.i2l, 1) := by decide +kernel
theorem dX4_of_91 : decode cX4_of 91 = .ok (.lreturn, 1) := by decide +kernel
theorem dX4_of_92 : decode cX4_of 92 = .ok (.iconst 0, 1) := by decide +kernel
theorem dX4_of_93 : decode cX4_of 93 = .ok (.aload_n 0, 1) := by decide +kernel
theorem dX4_of_94 : decode cX4_of 94 = .ok (.invokevirtual 246, 3) := by decide +kernel
theorem dX4_of_97 : decode cX4_of 97 = .ok (.invokestatic 249, 3) := by decide +kernel
theorem dX4_of_100 : decode cX4_of 100 = .ok (.i2l, 1) := by decide +kernel
theorem dX4_of_101 : decode cX4_of 101 = .ok (.lreturn, 1) := by decide +kernel
theorem dX4_of_102 : decode cX4_of 102 = .ok (.new 67, 3) := by decide +kernel
theorem dX4_of_105 : decode cX4_of 105 = .ok (.dup, 1) := by decide +kernel
theorem dX4_of_106 : decode cX4_of 106 = .ok (.ldc 199, 2) := by decide +kernel
theorem dX4_of_108 : decode cX4_of 108 = .ok (.invokespecial 71, 3) := by decide +kernel
theorem dX4_of_111 : decode cX4_of 111 = .ok (.athrow, 1) := by decide +kernel
theorem dX4_isWithin_0 : decode cX4_isWithin 0 = .ok (.iload_n 0, 1) := by decide +kernel
theorem dX4_isWithin_1 : decode cX4_isWithin 1 = .ok (.iload_n 1, 1) := by decide +kernel
theorem dX4_isWithin_2 : decode cX4_isWithin 2 = .ok (.if_icmp .lt 12, 3) := by decide +kernel
theorem dX4_isWithin_5 : decode cX4_isWithin 5 = .ok (.iload_n 0, 1) := by decide +kernel
theorem dX4_isWithin_6 : decode cX4_isWithin 6 = .ok (.iload_n 2, 1) := by decide +kernel
theorem dX4_isWithin_7 : decode cX4_isWithin 7 = .ok (.if_icmp .gt 7, 3) := by decide +kernel
theorem dX4_isWithin_10 : decode cX4_isWithin 10 = .ok (.iconst 1, 1) := by decide +kernel
theorem dX4_isWithin_11 : decode cX4_isWithin 11 = .ok (.goto 4, 3) := by decide +kernel
theorem dX4_isWithin_14 : decode cX4_isWithin 14 = .ok (.iconst 0, 1) := by decide +kernel
theorem dX4_isWithin_15 : decode cX4_isWithin 15 = .ok (.ireturn, 1) := by decide +kernel
theorem dX4_storeNumbered_0 : decode cX4_storeNumbered 0 = .ok (.iload_n 1, 1) := by decide +kernel
theorem dX4_storeNumbered_1 : decode cX4_storeNumbered 1 = .ok (.ifCond .lt 14, 3) := by decide +kernel
theorem dX4_storeNumbered_4 : decode cX4_storeNumbered 4 = .ok (.iload_n 1, 1) := by decide +kernel
theorem dX4_storeNumbered_5 : decode cX4_storeNumbered 5 = .ok (.aload_n 0, 1) := by decide +kernel
theorem dX4_storeNumbered_6 : decode cX4_storeNumbered 6 = .ok (.getfield 10, 3) := by decide +kernel
theorem dX4_storeNumbered_9 : decode cX4_storeNumbered 9 = .ok (.invokevirtual 74, 3) := by decide +kernel
theorem dX4_storeNumbered_12 : decode cX4_storeNumbered 12 = .ok (.if_icmp .lt 13, 3) := by decide +kernel
theorem dX4_storeNumbered_15 : decode cX4_storeNumbered 15 = .ok (.new 251, 3) := by decide +kernel
theorem dX4_storeNumbered_18 : decode cX4_storeNumbered 18 = .ok (.dup, 1) := by decide +kernel
theorem dX4_storeNumbered_19 : decode cX4_storeNumbered 19 = .ok (.ldc 253, 2) := by decide +kernel
theorem dX4_storeNumbered_21 : decode cX4_storeNumbered 21 = .ok (.invokespecial 255, 3) := by decide +kernel
theorem dX4_storeNumbered_24 : decode cX4_storeNumbered 24 = .ok (.athrow, 1) := by decide +kernel
theorem dX4_storeNumbered_25 : decode cX4_storeNumbered 25 = .ok (.aload_n 0, 1) := by decide +kernel
theorem dX4_storeNumbered_26 : decode cX4_storeNumbered 26 = .ok (.getfield 10, 3) := by decide +kernel
theorem dX4_storeNumbered_29 : decode cX4_storeNumbered 29 = .ok (.iload_n 1, 1) := by decide +kernel
theorem dX4_storeNumbered_30 : decode cX4_storeNumbered 30 = .ok (.invokevirtual 256, 3) := by decide +kernel
theorem dX4_storeNumbered_33 : decode cX4_storeNumbered 33 = .ok (.checkcast 59, 3) := by decide +kernel
theorem dX4_storeNumbered_36 : decode cX4_storeNumbered 36 = .ok (.areturn, 1) := by decide +kernel
theorem dX4_customerNumbered_0 : decode cX4_customerNumbered 0 = .ok (.iload_n 1, 1) := by decide +kernel
theorem dX4_customerNumbered_1 : decode cX4_customerNumbered 1 = .ok (.ifCond .lt 14, 3) := by decide +kernel
theorem dX4_customerNumbered_4 : decode cX4_customerNumbered 4 = .ok (.iload_n 1, 1) := by decide +kernel
theorem dX4_customerNumbered_5 : decode cX4_customerNumbered 5 = .ok (.aload_n 0, 1) := by decide +kernel
theorem dX4_customerNumbered_6 : decode cX4_customerNumbered 6 = .ok (.getfield 16, 3) := by decide +kernel
theorem dX4_customerNumbered_9 : decode cX4_customerNumbered 9 = .ok (.invokevirtual 74, 3) := by decide +kernel
theorem dX4_customerNumbered_12 : decode cX4_customerNumbered 12 = .ok (.if_icmp .lt 14, 3) := by decide +kernel
theorem dX4_customerNumbered_15 : decode cX4_customerNumbered 15 = .ok (.new 251, 3) := by decide +kernel
theorem dX4_customerNumbered_18 : decode cX4_customerNumbered 18 = .ok (.dup, 1) := by decide +kernel
theorem dX4_customerNumbered_19 : decode cX4_customerNumbered 19 = .ok (.ldc_w 260, 3) := by decide +kernel
theorem dX4_customerNumbered_22 : decode cX4_customerNumbered 22 = .ok (.invokespecial 255, 3) := by decide +kernel
theorem dX4_customerNumbered_25 : decode cX4_customerNumbered 25 = .ok (.athrow, 1) := by decide +kernel
theorem dX4_customerNumbered_26 : decode cX4_customerNumbered 26 = .ok (.aload_n 0, 1) := by decide +kernel
theorem dX4_customerNumbered_27 : decode cX4_customerNumbered 27 = .ok (.getfield 16, 3) := by decide +kernel
theorem dX4_customerNumbered_30 : decode cX4_customerNumbered 30 = .ok (.iload_n 1, 1) := by decide +kernel
theorem dX4_customerNumbered_31 : decode cX4_customerNumbered 31 = .ok (.invokevirtual 256, 3) := by decide +kernel
theorem dX4_customerNumbered_34 : decode cX4_customerNumbered 34 = .ok (.checkcast 133, 3) := by decide +kernel
theorem dX4_customerNumbered_37 : decode cX4_customerNumbered 37 = .ok (.areturn, 1) := by decide +kernel
theorem dX4_gasInAllStores_0 : decode cX4_gasInAllStores 0 = .ok (.iconst 0, 1) := by decide +kernel
theorem dX4_gasInAllStores_1 : decode cX4_gasInAllStores 1 = .ok (.istore_n 1, 1) := by decide +kernel
theorem dX4_gasInAllStores_2 : decode cX4_gasInAllStores 2 = .ok (.iconst 0, 1) := by decide +kernel
theorem dX4_gasInAllStores_3 : decode cX4_gasInAllStores 3 = .ok (.istore_n 2, 1) := by decide +kernel
theorem dX4_gasInAllStores_4 : decode cX4_gasInAllStores 4 = .ok (.iload_n 2, 1) := by decide +kernel
theorem dX4_gasInAllStores_5 : decode cX4_gasInAllStores 5 = .ok (.aload_n 0, 1) := by decide +kernel
theorem dX4_gasInAllStores_6 : decode cX4_gasInAllStores 6 = .ok (.getfield 10, 3) := by decide +kernel
theorem dX4_gasInAllStores_9 : decode cX4_gasInAllStores 9 = .ok (.invokevirtual 74, 3) := by decide +kernel
theorem dX4_gasInAllStores_12 : decode cX4_gasInAllStores 12 = .ok (.if_icmp .ge 26, 3) := by decide +kernel
theorem dX4_gasInAllStores_15 : decode cX4_gasInAllStores 15 = .ok (.iload_n 1, 1) := by decide +kernel
theorem dX4_gasInAllStores_16 : decode cX4_gasInAllStores 16 = .ok (.aload_n 0, 1) := by decide +kernel
theorem dX4_gasInAllStores_17 : decode cX4_gasInAllStores 17 = .ok (.getfield 10, 3) := by decide +kernel
theorem dX4_gasInAllStores_20 : decode cX4_gasInAllStores 20 = .ok (.iload_n 2, 1) := by decide +kernel
theorem dX4_gasInAllStores_21 : decode cX4_gasInAllStores 21 = .ok (.invokevirtual 256, 3) := by decide +kernel
theorem dX4_gasInAllStores_24 : decode cX4_gasInAllStores 24 = .ok (.checkcast 59, 3) := by decide +kernel
theorem dX4_gasInAllStores_27 : decode cX4_gasInAllStores 27 = .ok (.getfield 119, 3) := by decide +kernel
theorem dX4_gasInAllStores_30 : decode cX4_gasInAllStores 30 = .ok (.iadd, 1) := by decide +kernel
theorem dX4_gasInAllStores_31 : decode cX4_gasInAllStores 31 = .ok (.istore_n 1, 1) := by decide +kernel
theorem dX4_gasInAllStores_32 : decode cX4_gasInAllStores 32 = .ok (.iinc 2 1, 3) := by decide +kernel
theorem dX4_gasInAllStores_35 : decode cX4_gasInAllStores 35 = .ok (.goto (-31), 3) := by decide +kernel
theorem dX4_gasInAllStores_38 : decode cX4_gasInAllStores 38 = .ok (.iload_n 1, 1) := by decide +kernel
theorem dX4_gasInAllStores_39 : decode cX4_gasInAllStores 39 = .ok (.ireturn, 1) := by decide +kernel
theorem dX4_allInventories_0 : decode cX4_allInventories 0 = .ok (.iconst 0, 1) := by decide +kernel
theorem dX4_allInventories_1 : decode cX4_allInventories 1 = .ok (.istore_n 1, 1) := by decide +kernel
theorem dX4_allInventories_2 : decode cX4_allInventories 2 = .ok (.iconst 0, 1) := by decide +kernel
theorem dX4_allInventories_3 : decode cX4_allInventories 3 = .ok (.istore_n 2, 1) := by decide +kernel
theorem dX4_allInventories_4 : decode cX4_allInventories 4 = .ok (.iload_n 2, 1) := by decide +kernel
theorem dX4_allInventories_5 : decode cX4_allInventories 5 = .ok (.aload_n 0, 1) := by decide +kernel
theorem dX4_allInventories_6 : decode cX4_allInventories 6 = .ok (.getfield 16, 3) := by decide +kernel
theorem dX4_allInventories_9 : decode cX4_allInventories 9 = .ok (.invokevirtual 74, 3) := by decide +kernel
theorem dX4_allInventories_12 : decode cX4_allInventories 12 = .ok (.if_icmp .ge 26, 3) := by decide +kernel
theorem dX4_allInventories_15 : decode cX4_allInventories 15 = .ok (.iload_n 1, 1) := by decide +kernel
theorem dX4_allInventories_16 : decode cX4_allInventories 16 = .ok (.aload_n 0, 1) := by decide +kernel
theorem dX4_allInventories_17 : decode cX4_allInventories 17 = .ok (.getfield 16, 3) := by decide +kernel
theorem dX4_allInventories_20 : decode cX4_allInventories 20 = .ok (.iload_n 2, 1) := by decide +kernel
theorem dX4_allInventories_21 : decode cX4_allInventories 21 = .ok (.invokevirtual 256, 3) := by decide +kernel
theorem dX4_allInventories_24 : decode cX4_allInventories 24 = .ok (.checkcast 133, 3) := by decide +kernel
theorem dX4_allInventories_27 : decode cX4_allInventories 27 = .ok (.getfield 153, 3) := by decide +kernel
theorem dX4_allInventories_30 : decode cX4_allInventories 30 = .ok (.iadd, 1) := by decide +kernel
theorem dX4_allInventories_31 : decode cX4_allInventories 31 = .ok (.istore_n 1, 1) := by decide +kernel
theorem dX4_allInventories_32 : decode cX4_allInventories 32 = .ok (.iinc 2 1, 3) := by decide +kernel
theorem dX4_allInventories_35 : decode cX4_allInventories 35 = .ok (.goto (-31), 3) := by decide +kernel
theorem dX4_allInventories_38 : decode cX4_allInventories 38 = .ok (.iload_n 1, 1) := by decide +kernel
theorem dX4_allInventories_39 : decode cX4_allInventories 39 = .ok (.ireturn, 1) := by decide +kernel
theorem dX4_leastByLaw_0 : decode cX4_leastByLaw 0 = .ok (.aload_n 0, 1) := by decide +kernel
theorem dX4_leastByLaw_1 : decode cX4_leastByLaw 1 = .ok (.getfield 19, 3) := by decide +kernel
theorem dX4_leastByLaw_4 : decode cX4_leastByLaw 4 = .ok (.invokevirtual 74, 3) := by decide +kernel
theorem dX4_leastByLaw_7 : decode cX4_leastByLaw 7 = .ok (.iconst 1, 1) := by decide +kernel
theorem dX4_leastByLaw_8 : decode cX4_leastByLaw 8 = .ok (.isub, 1) := by decide +kernel
theorem dX4_leastByLaw_9 : decode cX4_leastByLaw 9 = .ok (.istore_n 1, 1) := by decide +kernel
theorem dX4_leastByLaw_10 : decode cX4_leastByLaw 10 = .ok (.iload_n 1, 1) := by decide +kernel
theorem dX4_leastByLaw_11 : decode cX4_leastByLaw 11 = .ok (.ifCond .lt 44, 3) := by decide +kernel
theorem dX4_leastByLaw_14 : decode cX4_leastByLaw 14 = .ok (.aload_n 0, 1) := by decide +kernel
theorem dX4_leastByLaw_15 : decode cX4_leastByLaw 15 = .ok (.getfield 19, 3) := by decide +kernel
theorem dX4_leastByLaw_18 : decode cX4_leastByLaw 18 = .ok (.iload_n 1, 1) := by decide +kernel
theorem dX4_leastByLaw_19 : decode cX4_leastByLaw 19 = .ok (.invokevirtual 256, 3) := by decide +kernel
theorem dX4_leastByLaw_22 : decode cX4_leastByLaw 22 = .ok (.checkcast 164, 3) := by decide +kernel
theorem dX4_leastByLaw_25 : decode cX4_leastByLaw 25 = .ok (.astore_n 2, 1) := by decide +kernel
theorem dX4_leastByLaw_26 : decode cX4_leastByLaw 26 = .ok (.aload_n 0, 1) := by decide +kernel
theorem dX4_leastByLaw_27 : decode cX4_leastByLaw 27 = .ok (.getfield 29, 3) := by decide +kernel
theorem dX4_leastByLaw_30 : decode cX4_leastByLaw 30 = .ok (.aload_n 2, 1) := by decide +kernel
theorem dX4_leastByLaw_31 : decode cX4_leastByLaw 31 = .ok (.getfield 262, 3) := by decide +kernel
theorem dX4_leastByLaw_34 : decode cX4_leastByLaw 34 = .ok (.aload_n 2, 1) := by decide +kernel
theorem dX4_leastByLaw_35 : decode cX4_leastByLaw 35 = .ok (.getfield 265, 3) := by decide +kernel
theorem dX4_leastByLaw_38 : decode cX4_leastByLaw 38 = .ok (.invokestatic 52, 3) := by decide +kernel
theorem dX4_leastByLaw_41 : decode cX4_leastByLaw 41 = .ok (.ifCond .eq 8, 3) := by decide +kernel
theorem dX4_leastByLaw_44 : decode cX4_leastByLaw 44 = .ok (.aload_n 2, 1) := by decide +kernel
theorem dX4_leastByLaw_45 : decode cX4_leastByLaw 45 = .ok (.getfield 268, 3) := by decide +kernel
theorem dX4_leastByLaw_48 : decode cX4_leastByLaw 48 = .ok (.ireturn, 1) := by decide +kernel
theorem dX4_leastByLaw_49 : decode cX4_leastByLaw 49 = .ok (.iinc 1 (-1), 3) := by decide +kernel
theorem dX4_leastByLaw_52 : decode cX4_leastByLaw 52 = .ok (.goto (-42), 3) := by decide +kernel
theorem dX4_leastByLaw_55 : decode cX4_leastByLaw 55 = .ok (.iconst (-1), 1) := by decide +kernel
theorem dX4_leastByLaw_56 : decode cX4_leastByLaw 56 = .ok (.ireturn, 1) := by decide +kernel
theorem dX4_planTheHour_0 : decode cX4_planTheHour 0 = .ok (.iconst 0, 1) := by decide +kernel
theorem dX4_planTheHour_1 : decode cX4_planTheHour 1 = .ok (.istore_n 1, 1) := by decide +kernel
theorem dX4_planTheHour_2 : decode cX4_planTheHour 2 = .ok (.iload_n 1, 1) := by decide +kernel
theorem dX4_planTheHour_3 : decode cX4_planTheHour 3 = .ok (.aload_n 0, 1) := by decide +kernel
theorem dX4_planTheHour_4 : decode cX4_planTheHour 4 = .ok (.getfield 16, 3) := by decide +kernel
theorem dX4_planTheHour_7 : decode cX4_planTheHour 7 = .ok (.invokevirtual 74, 3) := by decide +kernel
theorem dX4_planTheHour_10 : decode cX4_planTheHour 10 = .ok (.if_icmp .ge 27, 3) := by decide +kernel
theorem dX4_planTheHour_13 : decode cX4_planTheHour 13 = .ok (.aload_n 0, 1) := by decide +kernel
theorem dX4_planTheHour_14 : decode cX4_planTheHour 14 = .ok (.getfield 16, 3) := by decide +kernel
theorem dX4_planTheHour_17 : decode cX4_planTheHour 17 = .ok (.iload_n 1, 1) := by decide +kernel
theorem dX4_planTheHour_18 : decode cX4_planTheHour 18 = .ok (.invokevirtual 256, 3) := by decide +kernel
theorem dX4_planTheHour_21 : decode cX4_planTheHour 21 = .ok (.checkcast 133, 3) := by decide +kernel
theorem dX4_planTheHour_24 : decode cX4_planTheHour 24 = .ok (.aload_n 0, 1) := by decide +kernel
theorem dX4_planTheHour_25 : decode cX4_planTheHour 25 = .ok (.getfield 29, 3) := by decide +kernel
theorem dX4_planTheHour_28 : decode cX4_planTheHour 28 = .ok (.invokevirtual 271, 3) := by decide +kernel
theorem dX4_planTheHour_31 : decode cX4_planTheHour 31 = .ok (.iinc 1 1, 3) := by decide +kernel
theorem dX4_planTheHour_34 : decode cX4_planTheHour 34 = .ok (.goto (-32), 3) := by decide +kernel
theorem dX4_planTheHour_37 : decode cX4_planTheHour 37 = .ok (.aload_n 0, 1) := by decide +kernel
theorem dX4_planTheHour_38 : decode cX4_planTheHour 38 = .ok (.iconst 0, 1) := by decide +kernel
theorem dX4_planTheHour_39 : decode cX4_planTheHour 39 = .ok (.aload_n 0, 1) := by decide +kernel
theorem dX4_planTheHour_40 : decode cX4_planTheHour 40 = .ok (.invokevirtual 275, 3) := by decide +kernel
theorem dX4_planTheHour_43 : decode cX4_planTheHour 43 = .ok (.iconst 2, 1) := by decide +kernel
theorem dX4_planTheHour_44 : decode cX4_planTheHour 44 = .ok (.invokevirtual 278, 3) := by decide +kernel
theorem dX4_planTheHour_47 : decode cX4_planTheHour 47 = .ok (.aload_n 0, 1) := by decide +kernel
theorem dX4_planTheHour_48 : decode cX4_planTheHour 48 = .ok (.invokevirtual 282, 3) := by decide +kernel
theorem dX4_planTheHour_51 : decode cX4_planTheHour 51 = .ok (.istore_n 1, 1) := by decide +kernel
theorem dX4_planTheHour_52 : decode cX4_planTheHour 52 = .ok (.iload_n 1, 1) := by decide +kernel
theorem dX4_planTheHour_53 : decode cX4_planTheHour 53 = .ok (.ifCond .le 7, 3) := by decide +kernel
theorem dX4_planTheHour_56 : decode cX4_planTheHour 56 = .ok (.iconst 1, 1) := by decide +kernel
theorem dX4_planTheHour_57 : decode cX4_planTheHour 57 = .ok (.goto 4, 3) := by decide +kernel
theorem dX4_planTheHour_60 : decode cX4_planTheHour 60 = .ok (.iconst 0, 1) := by decide +kernel
theorem dX4_planTheHour_61 : decode cX4_planTheHour 61 = .ok (.istore_n 2, 1) := by decide +kernel
theorem dX4_planTheHour_62 : decode cX4_planTheHour 62 = .ok (.aload_n 0, 1) := by decide +kernel
theorem dX4_planTheHour_63 : decode cX4_planTheHour 63 = .ok (.iload_n 2, 1) := by decide +kernel
theorem dX4_planTheHour_64 : decode cX4_planTheHour 64 = .ok (.iload_n 1, 1) := by decide +kernel
theorem dX4_planTheHour_65 : decode cX4_planTheHour 65 = .ok (.invokestatic 285, 3) := by decide +kernel
theorem dX4_planTheHour_68 : decode cX4_planTheHour 68 = .ok (.aload_n 0, 1) := by decide +kernel
theorem dX4_planTheHour_69 : decode cX4_planTheHour 69 = .ok (.iload_n 2, 1) := by decide +kernel
theorem dX4_planTheHour_70 : decode cX4_planTheHour 70 = .ok (.invokevirtual 288, 3) := by decide +kernel
theorem dX4_planTheHour_73 : decode cX4_planTheHour 73 = .ok (.isub, 1) := by decide +kernel
theorem dX4_planTheHour_74 : decode cX4_planTheHour 74 = .ok (.iconst 3, 1) := by decide +kernel
theorem dX4_planTheHour_75 : decode cX4_planTheHour 75 = .ok (.invokevirtual 278, 3) := by decide +kernel
theorem dX4_planTheHour_78 : decode cX4_planTheHour 78 = .ok (.return_, 1) := by decide +kernel
theorem dX4_plannedAboveTheLaw_0 : decode cX4_plannedAboveTheLaw 0 = .ok (.aload_n 0, 1) := by decide +kernel
theorem dX4_plannedAboveTheLaw_1 : decode cX4_plannedAboveTheLaw 1 = .ok (.invokevirtual 246, 3) := by decide +kernel
theorem dX4_plannedAboveTheLaw_4 : decode cX4_plannedAboveTheLaw 4 = .ok (.istore_n 1, 1) := by decide +kernel
theorem dX4_plannedAboveTheLaw_5 : decode cX4_plannedAboveTheLaw 5 = .ok (.iload_n 1, 1) := by decide +kernel
theorem dX4_plannedAboveTheLaw_6 : decode cX4_plannedAboveTheLaw 6 = .ok (.iconst (-1), 1) := by decide +kernel
theorem dX4_plannedAboveTheLaw_7 : decode cX4_plannedAboveTheLaw 7 = .ok (.if_icmp .ne 5, 3) := by decide +kernel
theorem dX4_plannedAboveTheLaw_10 : decode cX4_plannedAboveTheLaw 10 = .ok (.iconst 0, 1) := by decide +kernel
theorem dX4_plannedAboveTheLaw_11 : decode cX4_plannedAboveTheLaw 11 = .ok (.ireturn, 1) := by decide +kernel
theorem dX4_plannedAboveTheLaw_12 : decode cX4_plannedAboveTheLaw 12 = .ok (.iconst 0, 1) := by decide +kernel
theorem dX4_plannedAboveTheLaw_13 : decode cX4_plannedAboveTheLaw 13 = .ok (.istore_n 2, 1) := by decide +kernel
theorem dX4_plannedAboveTheLaw_14 : decode cX4_plannedAboveTheLaw 14 = .ok (.iconst 0, 1) := by decide +kernel
theorem dX4_plannedAboveTheLaw_15 : decode cX4_plannedAboveTheLaw 15 = .ok (.istore_n 3, 1) := by decide +kernel
theorem dX4_plannedAboveTheLaw_16 : decode cX4_plannedAboveTheLaw 16 = .ok (.iload_n 3, 1) := by decide +kernel
theorem dX4_plannedAboveTheLaw_17 : decode cX4_plannedAboveTheLaw 17 = .ok (.aload_n 0, 1) := by decide +kernel
theorem dX4_plannedAboveTheLaw_18 : decode cX4_plannedAboveTheLaw 18 = .ok (.getfield 16, 3) := by decide +kernel
theorem dX4_plannedAboveTheLaw_21 : decode cX4_plannedAboveTheLaw 21 = .ok (.invokevirtual 74, 3) := by decide +kernel
theorem dX4_plannedAboveTheLaw_24 : decode cX4_plannedAboveTheLaw 24 = .ok (.if_icmp .ge 27, 3) := by decide +kernel
theorem dX4_plannedAboveTheLaw_27 : decode cX4_plannedAboveTheLaw 27 = .ok (.iload_n 2, 1) := by decide +kernel
theorem dX4_plannedAboveTheLaw_28 : decode cX4_plannedAboveTheLaw 28 = .ok (.aload_n 0, 1) := by decide +kernel
theorem dX4_plannedAboveTheLaw_29 : decode cX4_plannedAboveTheLaw 29 = .ok (.getfield 16, 3) := by decide +kernel
theorem dX4_plannedAboveTheLaw_32 : decode cX4_plannedAboveTheLaw 32 = .ok (.iload_n 3, 1) := by decide +kernel
theorem dX4_plannedAboveTheLaw_33 : decode cX4_plannedAboveTheLaw 33 = .ok (.invokevirtual 256, 3) := by decide +kernel
theorem dX4_plannedAboveTheLaw_36 : decode cX4_plannedAboveTheLaw 36 = .ok (.checkcast 133, 3) := by decide +kernel
theorem dX4_plannedAboveTheLaw_39 : decode cX4_plannedAboveTheLaw 39 = .ok (.iconst 0, 1) := by decide +kernel
theorem dX4_plannedAboveTheLaw_40 : decode cX4_plannedAboveTheLaw 40 = .ok (.invokevirtual 292, 3) := by decide +kernel
theorem dX4_plannedAboveTheLaw_43 : decode cX4_plannedAboveTheLaw 43 = .ok (.iadd, 1) := by decide +kernel
theorem dX4_plannedAboveTheLaw_44 : decode cX4_plannedAboveTheLaw 44 = .ok (.istore_n 2, 1) := by decide +kernel
theorem dX4_plannedAboveTheLaw_45 : decode cX4_plannedAboveTheLaw 45 = .ok (.iinc 3 1, 3) := by decide +kernel
theorem dX4_plannedAboveTheLaw_48 : decode cX4_plannedAboveTheLaw 48 = .ok (.goto (-32), 3) := by decide +kernel
theorem dX4_plannedAboveTheLaw_51 : decode cX4_plannedAboveTheLaw 51 = .ok (.iload_n 2, 1) := by decide +kernel
theorem dX4_plannedAboveTheLaw_52 : decode cX4_plannedAboveTheLaw 52 = .ok (.iconst 0, 1) := by decide +kernel
theorem dX4_plannedAboveTheLaw_53 : decode cX4_plannedAboveTheLaw 53 = .ok (.aload_n 0, 1) := by decide +kernel
theorem dX4_plannedAboveTheLaw_54 : decode cX4_plannedAboveTheLaw 54 = .ok (.invokevirtual 243, 3) := by decide +kernel
theorem dX4_plannedAboveTheLaw_57 : decode cX4_plannedAboveTheLaw 57 = .ok (.iload_n 1, 1) := by decide +kernel
theorem dX4_plannedAboveTheLaw_58 : decode cX4_plannedAboveTheLaw 58 = .ok (.isub, 1) := by decide +kernel
theorem dX4_plannedAboveTheLaw_59 : decode cX4_plannedAboveTheLaw 59 = .ok (.invokestatic 249, 3) := by decide +kernel
theorem dX4_plannedAboveTheLaw_62 : decode cX4_plannedAboveTheLaw 62 = .ok (.isub, 1) := by decide +kernel
theorem dX4_plannedAboveTheLaw_63 : decode cX4_plannedAboveTheLaw 63 = .ok (.ireturn, 1) := by decide +kernel
theorem dX4_plannedNet_0 : decode cX4_plannedNet 0 = .ok (.iconst 0, 1) := by decide +kernel
theorem dX4_plannedNet_1 : decode cX4_plannedNet 1 = .ok (.istore_n 1, 1) := by decide +kernel
theorem dX4_plannedNet_2 : decode cX4_plannedNet 2 = .ok (.iconst 0, 1) := by decide +kernel
theorem dX4_plannedNet_3 : decode cX4_plannedNet 3 = .ok (.istore_n 2, 1) := by decide +kernel
theorem dX4_plannedNet_4 : decode cX4_plannedNet 4 = .ok (.iload_n 2, 1) := by decide +kernel
theorem dX4_plannedNet_5 : decode cX4_plannedNet 5 = .ok (.aload_n 0, 1) := by decide +kernel
theorem dX4_plannedNet_6 : decode cX4_plannedNet 6 = .ok (.getfield 16, 3) := by decide +kernel
theorem dX4_plannedNet_9 : decode cX4_plannedNet 9 = .ok (.invokevirtual 74, 3) := by decide +kernel
theorem dX4_plannedNet_12 : decode cX4_plannedNet 12 = .ok (.if_icmp .ge 26, 3) := by decide +kernel
theorem dX4_plannedNet_15 : decode cX4_plannedNet 15 = .ok (.iload_n 1, 1) := by decide +kernel
theorem dX4_plannedNet_16 : decode cX4_plannedNet 16 = .ok (.aload_n 0, 1) := by decide +kernel
theorem dX4_plannedNet_17 : decode cX4_plannedNet 17 = .ok (.getfield 16, 3) := by decide +kernel
theorem dX4_plannedNet_20 : decode cX4_plannedNet 20 = .ok (.iload_n 2, 1) := by decide +kernel
theorem dX4_plannedNet_21 : decode cX4_plannedNet 21 = .ok (.invokevirtual 256, 3) := by decide +kernel
theorem dX4_plannedNet_24 : decode cX4_plannedNet 24 = .ok (.checkcast 133, 3) := by decide +kernel
theorem dX4_plannedNet_27 : decode cX4_plannedNet 27 = .ok (.getfield 220, 3) := by decide +kernel
theorem dX4_plannedNet_30 : decode cX4_plannedNet 30 = .ok (.iadd, 1) := by decide +kernel
theorem dX4_plannedNet_31 : decode cX4_plannedNet 31 = .ok (.istore_n 1, 1) := by decide +kernel
theorem dX4_plannedNet_32 : decode cX4_plannedNet 32 = .ok (.iinc 2 1, 3) := by decide +kernel
theorem dX4_plannedNet_35 : decode cX4_plannedNet 35 = .ok (.goto (-31), 3) := by decide +kernel
theorem dX4_plannedNet_38 : decode cX4_plannedNet 38 = .ok (.iload_n 1, 1) := by decide +kernel
theorem dX4_plannedNet_39 : decode cX4_plannedNet 39 = .ok (.ireturn, 1) := by decide +kernel
theorem dX4_capacityOfPlant_0 : decode cX4_capacityOfPlant 0 = .ok (.iload_n 1, 1) := by decide +kernel
theorem dX4_capacityOfPlant_1 : decode cX4_capacityOfPlant 1 = .ok (.ifCond .eq 10, 3) := by decide +kernel
theorem dX4_capacityOfPlant_4 : decode cX4_capacityOfPlant 4 = .ok (.aload_n 0, 1) := by decide +kernel
theorem dX4_capacityOfPlant_5 : decode cX4_capacityOfPlant 5 = .ok (.getfield 39, 3) := by decide +kernel
theorem dX4_capacityOfPlant_8 : decode cX4_capacityOfPlant 8 = .ok (.goto 7, 3) := by decide +kernel
theorem dX4_capacityOfPlant_11 : decode cX4_capacityOfPlant 11 = .ok (.aload_n 0, 1) := by decide +kernel
theorem dX4_capacityOfPlant_12 : decode cX4_capacityOfPlant 12 = .ok (.getfield 36, 3) := by decide +kernel
theorem dX4_capacityOfPlant_15 : decode cX4_capacityOfPlant 15 = .ok (.istore_n 2, 1) := by decide +kernel
theorem dX4_capacityOfPlant_16 : decode cX4_capacityOfPlant 16 = .ok (.aload_n 0, 1) := by decide +kernel
theorem dX4_capacityOfPlant_17 : decode cX4_capacityOfPlant 17 = .ok (.getfield 29, 3) := by decide +kernel
theorem dX4_capacityOfPlant_20 : decode cX4_capacityOfPlant 20 = .ok (.iload_n 2, 1) := by decide +kernel
theorem dX4_capacityOfPlant_21 : decode cX4_capacityOfPlant 21 = .ok (.isub, 1) := by decide +kernel
theorem dX4_capacityOfPlant_22 : decode cX4_capacityOfPlant 22 = .ok (.iconst 2, 1) := by decide +kernel
theorem dX4_capacityOfPlant_23 : decode cX4_capacityOfPlant 23 = .ok (.if_icmp .gt 5, 3) := by decide +kernel
theorem dX4_capacityOfPlant_26 : decode cX4_capacityOfPlant 26 = .ok (.iconst 0, 1) := by decide +kernel
theorem dX4_capacityOfPlant_27 : decode cX4_capacityOfPlant 27 = .ok (.ireturn, 1) := by decide +kernel
theorem dX4_capacityOfPlant_28 : decode cX4_capacityOfPlant 28 = .ok (.iconst 0, 1) := by decide +kernel
theorem dX4_capacityOfPlant_29 : decode cX4_capacityOfPlant 29 = .ok (.istore_n 3, 1) := by decide +kernel
theorem dX4_capacityOfPlant_30 : decode cX4_capacityOfPlant 30 = .ok (.iconst 0, 1) := by decide +kernel
theorem dX4_capacityOfPlant_31 : decode cX4_capacityOfPlant 31 = .ok (.istore 4, 2) := by decide +kernel
theorem dX4_capacityOfPlant_33 : decode cX4_capacityOfPlant 33 = .ok (.iload 4, 2) := by decide +kernel
theorem dX4_capacityOfPlant_35 : decode cX4_capacityOfPlant 35 = .ok (.aload_n 0, 1) := by decide +kernel
theorem dX4_capacityOfPlant_36 : decode cX4_capacityOfPlant 36 = .ok (.getfield 10, 3) := by decide +kernel
theorem dX4_capacityOfPlant_39 : decode cX4_capacityOfPlant 39 = .ok (.invokevirtual 74, 3) := by decide +kernel
theorem dX4_capacityOfPlant_42 : decode cX4_capacityOfPlant 42 = .ok (.if_icmp .ge 43, 3) := by decide +kernel
theorem dX4_capacityOfPlant_45 : decode cX4_capacityOfPlant 45 = .ok (.aload_n 0, 1) := by decide +kernel
theorem dX4_capacityOfPlant_46 : decode cX4_capacityOfPlant 46 = .ok (.getfield 10, 3) := by decide +kernel
theorem dX4_capacityOfPlant_49 : decode cX4_capacityOfPlant 49 = .ok (.iload 4, 2) := by decide +kernel
theorem dX4_capacityOfPlant_51 : decode cX4_capacityOfPlant 51 = .ok (.invokevirtual 256, 3) := by decide +kernel
theorem dX4_capacityOfPlant_54 : decode cX4_capacityOfPlant 54 = .ok (.checkcast 59, 3) := by decide +kernel
theorem dX4_capacityOfPlant_57 : decode cX4_capacityOfPlant 57 = .ok (.astore 5, 2) := by decide +kernel
theorem dX4_capacityOfPlant_59 : decode cX4_capacityOfPlant 59 = .ok (.iload_n 3, 1) := by decide +kernel
theorem dX4_capacityOfPlant_60 : decode cX4_capacityOfPlant 60 = .ok (.iload_n 1, 1) := by decide +kernel
theorem dX4_capacityOfPlant_61 : decode cX4_capacityOfPlant 61 = .ok (.ifCond .eq 11, 3) := by decide +kernel
theorem dX4_capacityOfPlant_64 : decode cX4_capacityOfPlant 64 = .ok (.aload 5, 2) := by decide +kernel
theorem dX4_capacityOfPlant_66 : decode cX4_capacityOfPlant 66 = .ok (.invokevirtual 181, 3) := by decide +kernel
theorem dX4_capacityOfPlant_69 : decode cX4_capacityOfPlant 69 = .ok (.goto 8, 3) := by decide +kernel
theorem dX4_capacityOfPlant_72 : decode cX4_capacityOfPlant 72 = .ok (.aload 5, 2) := by decide +kernel
theorem dX4_capacityOfPlant_74 : decode cX4_capacityOfPlant 74 = .ok (.invokevirtual 106, 3) := by decide +kernel
theorem dX4_capacityOfPlant_77 : decode cX4_capacityOfPlant 77 = .ok (.iadd, 1) := by decide +kernel
theorem dX4_capacityOfPlant_78 : decode cX4_capacityOfPlant 78 = .ok (.istore_n 3, 1) := by decide +kernel
theorem dX4_capacityOfPlant_79 : decode cX4_capacityOfPlant 79 = .ok (.iinc 4 1, 3) := by decide +kernel
theorem dX4_capacityOfPlant_82 : decode cX4_capacityOfPlant 82 = .ok (.goto (-49), 3) := by decide +kernel
theorem dX4_capacityOfPlant_85 : decode cX4_capacityOfPlant 85 = .ok (.iload_n 3, 1) := by decide +kernel
theorem dX4_capacityOfPlant_86 : decode cX4_capacityOfPlant 86 = .ok (.ireturn, 1) := by decide +kernel
theorem dX4_curtail_0 : decode cX4_curtail 0 = .ok (.iload_n 2, 1) := by decide +kernel
theorem dX4_curtail_1 : decode cX4_curtail 1 = .ok (.istore 4, 2) := by decide +kernel
theorem dX4_curtail_3 : decode cX4_curtail 3 = .ok (.iconst 3, 1) := by decide +kernel
theorem dX4_curtail_4 : decode cX4_curtail 4 = .ok (.istore 5, 2) := by decide +kernel
theorem dX4_curtail_6 : decode cX4_curtail 6 = .ok (.iload 5, 2) := by decide +kernel
theorem dX4_curtail_8 : decode cX4_curtail 8 = .ok (.ifCond .lt 74, 3) := by decide +kernel
theorem dX4_curtail_11 : decode cX4_curtail 11 = .ok (.aload_n 0, 1) := by decide +kernel
theorem dX4_curtail_12 : decode cX4_curtail 12 = .ok (.getfield 16, 3) := by decide +kernel
theorem dX4_curtail_15 : decode cX4_curtail 15 = .ok (.invokevirtual 74, 3) := by decide +kernel
theorem dX4_curtail_18 : decode cX4_curtail 18 = .ok (.iconst 1, 1) := by decide +kernel
theorem dX4_curtail_19 : decode cX4_curtail 19 = .ok (.isub, 1) := by decide +kernel
theorem dX4_curtail_20 : decode cX4_curtail 20 = .ok (.istore 6, 2) := by decide +kernel
theorem dX4_curtail_22 : decode cX4_curtail 22 = .ok (.iload 6, 2) := by decide +kernel
theorem dX4_curtail_24 : decode cX4_curtail 24 = .ok (.ifCond .lt 52, 3) := by decide +kernel
theorem dX4_curtail_27 : decode cX4_curtail 27 = .ok (.iload 4, 2) := by decide +kernel
theorem dX4_curtail_29 : decode cX4_curtail 29 = .ok (.ifCond .le 47, 3) := by decide +kernel
theorem dX4_curtail_32 : decode cX4_curtail 32 = .ok (.aload_n 0, 1) := by decide +kernel
theorem dX4_curtail_33 : decode cX4_curtail 33 = .ok (.getfield 16, 3) := by decide +kernel
theorem dX4_curtail_36 : decode cX4_curtail 36 = .ok (.iload 6, 2) := by decide +kernel
theorem dX4_curtail_38 : decode cX4_curtail 38 = .ok (.invokevirtual 256, 3) := by decide +kernel
theorem dX4_curtail_41 : decode cX4_curtail 41 = .ok (.checkcast 133, 3) := by decide +kernel
theorem dX4_curtail_44 : decode cX4_curtail 44 = .ok (.astore 7, 2) := by decide +kernel
theorem dX4_curtail_46 : decode cX4_curtail 46 = .ok (.aload 7, 2) := by decide +kernel
theorem dX4_curtail_48 : decode cX4_curtail 48 = .ok (.getfield 295, 3) := by decide +kernel
theorem dX4_curtail_51 : decode cX4_curtail 51 = .ok (.iload 5, 2) := by decide +kernel
theorem dX4_curtail_53 : decode cX4_curtail 53 = .ok (.if_icmp .ne 17, 3) := by decide +kernel
theorem dX4_curtail_56 : decode cX4_curtail 56 = .ok (.iload 4, 2) := by decide +kernel
theorem dX4_curtail_58 : decode cX4_curtail 58 = .ok (.aload 7, 2) := by decide +kernel
theorem dX4_curtail_60 : decode cX4_curtail 60 = .ok (.iload_n 1, 1) := by decide +kernel
theorem dX4_curtail_61 : decode cX4_curtail 61 = .ok (.iload 4, 2) := by decide +kernel
theorem dX4_curtail_63 : decode cX4_curtail 63 = .ok (.iload_n 3, 1) := by decide +kernel
theorem dX4_curtail_64 : decode cX4_curtail 64 = .ok (.invokevirtual 298, 3) := by decide +kernel
theorem dX4_curtail_67 : decode cX4_curtail 67 = .ok (.isub, 1) := by decide +kernel
theorem dX4_curtail_68 : decode cX4_curtail 68 = .ok (.istore 4, 2) := by decide +kernel
theorem dX4_curtail_70 : decode cX4_curtail 70 = .ok (.iinc 6 (-1), 3) := by decide +kernel
theorem dX4_curtail_73 : decode cX4_curtail 73 = .ok (.goto (-51), 3) := by decide +kernel
theorem dX4_curtail_76 : decode cX4_curtail 76 = .ok (.iinc 5 (-1), 3) := by decide +kernel
theorem dX4_curtail_79 : decode cX4_curtail 79 = .ok (.goto (-73), 3) := by decide +kernel
theorem dX4_curtail_82 : decode cX4_curtail 82 = .ok (.return_, 1) := by decide +kernel
theorem dX4_goOneHour_0 : decode cX4_goOneHour 0 = .ok (.aload_n 0, 1) := by decide +kernel
theorem dX4_goOneHour_1 : decode cX4_goOneHour 1 = .ok (.invokevirtual 217, 3) := by decide +kernel
theorem dX4_goOneHour_4 : decode cX4_goOneHour 4 = .ok (.aload_n 0, 1) := by decide +kernel
theorem dX4_goOneHour_5 : decode cX4_goOneHour 5 = .ok (.invokevirtual 282, 3) := by decide +kernel
theorem dX4_goOneHour_8 : decode cX4_goOneHour 8 = .ok (.istore_n 1, 1) := by decide +kernel
theorem dX4_goOneHour_9 : decode cX4_goOneHour 9 = .ok (.iload_n 1, 1) := by decide +kernel
theorem dX4_goOneHour_10 : decode cX4_goOneHour 10 = .ok (.ifCond .le 11, 3) := by decide +kernel
theorem dX4_goOneHour_13 : decode cX4_goOneHour 13 = .ok (.aload_n 0, 1) := by decide +kernel
theorem dX4_goOneHour_14 : decode cX4_goOneHour 14 = .ok (.iload_n 1, 1) := by decide +kernel
theorem dX4_goOneHour_15 : decode cX4_goOneHour 15 = .ok (.invokevirtual 302, 3) := by decide +kernel
theorem dX4_goOneHour_18 : decode cX4_goOneHour 18 = .ok (.goto 13, 3) := by decide +kernel
theorem dX4_goOneHour_21 : decode cX4_goOneHour 21 = .ok (.iload_n 1, 1) := by decide +kernel
theorem dX4_goOneHour_22 : decode cX4_goOneHour 22 = .ok (.ifCond .ge 9, 3) := by decide +kernel
theorem dX4_goOneHour_25 : decode cX4_goOneHour 25 = .ok (.aload_n 0, 1) := by decide +kernel
theorem dX4_goOneHour_26 : decode cX4_goOneHour 26 = .ok (.iload_n 1, 1) := by decide +kernel
theorem dX4_goOneHour_27 : decode cX4_goOneHour 27 = .ok (.ineg, 1) := by decide +kernel
theorem dX4_goOneHour_28 : decode cX4_goOneHour 28 = .ok (.invokevirtual 305, 3) := by decide +kernel
theorem dX4_goOneHour_31 : decode cX4_goOneHour 31 = .ok (.iconst 0, 1) := by decide +kernel
theorem dX4_goOneHour_32 : decode cX4_goOneHour 32 = .ok (.istore_n 2, 1) := by decide +kernel
theorem dX4_goOneHour_33 : decode cX4_goOneHour 33 = .ok (.iload_n 2, 1) := by decide +kernel
theorem dX4_goOneHour_34 : decode cX4_goOneHour 34 = .ok (.aload_n 0, 1) := by decide +kernel
theorem dX4_goOneHour_35 : decode cX4_goOneHour 35 = .ok (.getfield 16, 3) := by decide +kernel
theorem dX4_goOneHour_38 : decode cX4_goOneHour 38 = .ok (.invokevirtual 74, 3) := by decide +kernel
theorem dX4_goOneHour_41 : decode cX4_goOneHour 41 = .ok (.if_icmp .ge 27, 3) := by decide +kernel
theorem dX4_goOneHour_44 : decode cX4_goOneHour 44 = .ok (.aload_n 0, 1) := by decide +kernel
theorem dX4_goOneHour_45 : decode cX4_goOneHour 45 = .ok (.getfield 16, 3) := by decide +kernel
theorem dX4_goOneHour_48 : decode cX4_goOneHour 48 = .ok (.iload_n 2, 1) := by decide +kernel
theorem dX4_goOneHour_49 : decode cX4_goOneHour 49 = .ok (.invokevirtual 256, 3) := by decide +kernel
theorem dX4_goOneHour_52 : decode cX4_goOneHour 52 = .ok (.checkcast 133, 3) := by decide +kernel
theorem dX4_goOneHour_55 : decode cX4_goOneHour 55 = .ok (.aload_n 0, 1) := by decide +kernel
theorem dX4_goOneHour_56 : decode cX4_goOneHour 56 = .ok (.getfield 29, 3) := by decide +kernel
theorem dX4_goOneHour_59 : decode cX4_goOneHour 59 = .ok (.invokevirtual 308, 3) := by decide +kernel
theorem dX4_goOneHour_62 : decode cX4_goOneHour 62 = .ok (.iinc 2 1, 3) := by decide +kernel
theorem dX4_goOneHour_65 : decode cX4_goOneHour 65 = .ok (.goto (-32), 3) := by decide +kernel
theorem dX4_goOneHour_68 : decode cX4_goOneHour 68 = .ok (.iconst 0, 1) := by decide +kernel
theorem dX4_goOneHour_69 : decode cX4_goOneHour 69 = .ok (.istore_n 2, 1) := by decide +kernel
theorem dX4_goOneHour_70 : decode cX4_goOneHour 70 = .ok (.iload_n 2, 1) := by decide +kernel
theorem dX4_goOneHour_71 : decode cX4_goOneHour 71 = .ok (.aload_n 0, 1) := by decide +kernel
theorem dX4_goOneHour_72 : decode cX4_goOneHour 72 = .ok (.getfield 10, 3) := by decide +kernel
theorem dX4_goOneHour_75 : decode cX4_goOneHour 75 = .ok (.invokevirtual 74, 3) := by decide +kernel
theorem dX4_goOneHour_78 : decode cX4_goOneHour 78 = .ok (.if_icmp .ge 33, 3) := by decide +kernel
theorem dX4_goOneHour_81 : decode cX4_goOneHour 81 = .ok (.aload_n 0, 1) := by decide +kernel
theorem dX4_goOneHour_82 : decode cX4_goOneHour 82 = .ok (.dup, 1) := by decide +kernel
theorem dX4_goOneHour_83 : decode cX4_goOneHour 83 = .ok (.getfield 49, 3) := by decide +kernel
theorem dX4_goOneHour_86 : decode cX4_goOneHour 86 = .ok (.aload_n 0, 1) := by decide +kernel
theorem dX4_goOneHour_87 : decode cX4_goOneHour 87 = .ok (.getfield 10, 3) := by decide +kernel
theorem dX4_goOneHour_90 : decode cX4_goOneHour 90 = .ok (.iload_n 2, 1) := by decide +kernel
theorem dX4_goOneHour_91 : decode cX4_goOneHour 91 = .ok (.invokevirtual 256, 3) := by decide +kernel
theorem dX4_goOneHour_94 : decode cX4_goOneHour 94 = .ok (.checkcast 59, 3) := by decide +kernel
theorem dX4_goOneHour_97 : decode cX4_goOneHour 97 = .ok (.invokevirtual 311, 3) := by decide +kernel
theorem dX4_goOneHour_100 : decode cX4_goOneHour 100 = .ok (.i2l, 1) := by decide +kernel
theorem dX4_goOneHour_101 : decode cX4_goOneHour 101 = .ok (.ladd, 1) := by decide +kernel
theorem dX4_goOneHour_102 : decode cX4_goOneHour 102 = .ok (.putfield 49, 3) := by decide +kernel
theorem dX4_goOneHour_105 : decode cX4_goOneHour 105 = .ok (.iinc 2 1, 3) := by decide +kernel
theorem dX4_goOneHour_108 : decode cX4_goOneHour 108 = .ok (.goto (-38), 3) := by decide +kernel
theorem dX4_goOneHour_111 : decode cX4_goOneHour 111 = .ok (.aload_n 0, 1) := by decide +kernel
theorem dX4_goOneHour_112 : decode cX4_goOneHour 112 = .ok (.getfield 25, 3) := by decide +kernel
theorem dX4_goOneHour_115 : decode cX4_goOneHour 115 = .ok (.aload_n 0, 1) := by decide +kernel
theorem dX4_goOneHour_116 : decode cX4_goOneHour 116 = .ok (.getfield 29, 3) := by decide +kernel
theorem dX4_goOneHour_119 : decode cX4_goOneHour 119 = .ok (.iconst 0, 1) := by decide +kernel
theorem dX4_goOneHour_120 : decode cX4_goOneHour 120 = .ok (.invokevirtual 148, 3) := by decide +kernel
theorem dX4_goOneHour_123 : decode cX4_goOneHour 123 = .ok (.pop, 1) := by decide +kernel
theorem dX4_goOneHour_124 : decode cX4_goOneHour 124 = .ok (.aload_n 0, 1) := by decide +kernel
theorem dX4_goOneHour_125 : decode cX4_goOneHour 125 = .ok (.dup, 1) := by decide +kernel
theorem dX4_goOneHour_126 : decode cX4_goOneHour 126 = .ok (.getfield 29, 3) := by decide +kernel
theorem dX4_goOneHour_129 : decode cX4_goOneHour 129 = .ok (.iconst 1, 1) := by decide +kernel
theorem dX4_goOneHour_130 : decode cX4_goOneHour 130 = .ok (.iadd, 1) := by decide +kernel
theorem dX4_goOneHour_131 : decode cX4_goOneHour 131 = .ok (.putfield 29, 3) := by decide +kernel
theorem dX4_goOneHour_134 : decode cX4_goOneHour 134 = .ok (.aload_n 0, 1) := by decide +kernel
theorem dX4_goOneHour_135 : decode cX4_goOneHour 135 = .ok (.getfield 29, 3) := by decide +kernel
theorem dX4_goOneHour_138 : decode cX4_goOneHour 138 = .ok (.bipush 24, 2) := by decide +kernel
theorem dX4_goOneHour_140 : decode cX4_goOneHour 140 = .ok (.irem, 1) := by decide +kernel
theorem dX4_goOneHour_141 : decode cX4_goOneHour 141 = .ok (.ifCond .ne 7, 3) := by decide +kernel
theorem dX4_goOneHour_144 : decode cX4_goOneHour 144 = .ok (.aload_n 0, 1) := by decide +kernel
theorem dX4_goOneHour_145 : decode cX4_goOneHour 145 = .ok (.invokevirtual 314, 3) := by decide +kernel
theorem dX4_goOneHour_148 : decode cX4_goOneHour 148 = .ok (.return_, 1) := by decide +kernel
theorem dX4_flowIn_0 : decode cX4_flowIn 0 = .ok (.iload_n 1, 1) := by decide +kernel
theorem dX4_flowIn_1 : decode cX4_flowIn 1 = .ok (.istore_n 2, 1) := by decide +kernel
theorem dX4_flowIn_2 : decode cX4_flowIn 2 = .ok (.iconst 0, 1) := by decide +kernel
theorem dX4_flowIn_3 : decode cX4_flowIn 3 = .ok (.istore_n 3, 1) := by decide +kernel
theorem dX4_flowIn_4 : decode cX4_flowIn 4 = .ok (.iload_n 3, 1) := by decide +kernel
theorem dX4_flowIn_5 : decode cX4_flowIn 5 = .ok (.aload_n 0, 1) := by decide +kernel
theorem dX4_flowIn_6 : decode cX4_flowIn 6 = .ok (.getfield 10, 3) := by decide +kernel
theorem dX4_flowIn_9 : decode cX4_flowIn 9 = .ok (.invokevirtual 74, 3) := by decide +kernel
theorem dX4_flowIn_12 : decode cX4_flowIn 12 = .ok (.if_icmp .ge 49, 3) := by decide +kernel
theorem dX4_flowIn_15 : decode cX4_flowIn 15 = .ok (.aload_n 0, 1) := by decide +kernel
theorem dX4_flowIn_16 : decode cX4_flowIn 16 = .ok (.getfield 10, 3) := by decide +kernel
theorem dX4_flowIn_19 : decode cX4_flowIn 19 = .ok (.iload_n 3, 1) := by decide +kernel
theorem dX4_flowIn_20 : decode cX4_flowIn 20 = .ok (.invokevirtual 256, 3) := by decide +kernel
theorem dX4_flowIn_23 : decode cX4_flowIn 23 = .ok (.checkcast 59, 3) := by decide +kernel
theorem dX4_flowIn_26 : decode cX4_flowIn 26 = .ok (.astore 4, 2) := by decide +kernel
theorem dX4_flowIn_28 : decode cX4_flowIn 28 = .ok (.iload_n 2, 1) := by decide +kernel
theorem dX4_flowIn_29 : decode cX4_flowIn 29 = .ok (.aload 4, 2) := by decide +kernel
theorem dX4_flowIn_31 : decode cX4_flowIn 31 = .ok (.invokevirtual 181, 3) := by decide +kernel
theorem dX4_flowIn_34 : decode cX4_flowIn 34 = .ok (.invokestatic 317, 3) := by decide +kernel
theorem dX4_flowIn_37 : decode cX4_flowIn 37 = .ok (.istore 5, 2) := by decide +kernel
theorem dX4_flowIn_39 : decode cX4_flowIn 39 = .ok (.aload 4, 2) := by decide +kernel
theorem dX4_flowIn_41 : decode cX4_flowIn 41 = .ok (.iload 5, 2) := by decide +kernel
theorem dX4_flowIn_43 : decode cX4_flowIn 43 = .ok (.aload_n 0, 1) := by decide +kernel
theorem dX4_flowIn_44 : decode cX4_flowIn 44 = .ok (.getfield 33, 3) := by decide +kernel
theorem dX4_flowIn_47 : decode cX4_flowIn 47 = .ok (.invokevirtual 86, 3) := by decide +kernel
theorem dX4_flowIn_50 : decode cX4_flowIn 50 = .ok (.iload_n 2, 1) := by decide +kernel
theorem dX4_flowIn_51 : decode cX4_flowIn 51 = .ok (.iload 5, 2) := by decide +kernel
theorem dX4_flowIn_53 : decode cX4_flowIn 53 = .ok (.isub, 1) := by decide +kernel
theorem dX4_flowIn_54 : decode cX4_flowIn 54 = .ok (.istore_n 2, 1) := by decide +kernel
theorem dX4_flowIn_55 : decode cX4_flowIn 55 = .ok (.iinc 3 1, 3) := by decide +kernel
theorem dX4_flowIn_58 : decode cX4_flowIn 58 = .ok (.goto (-54), 3) := by decide +kernel
theorem dX4_flowIn_61 : decode cX4_flowIn 61 = .ok (.aload_n 0, 1) := by decide +kernel
theorem dX4_flowIn_62 : decode cX4_flowIn 62 = .ok (.dup, 1) := by decide +kernel
theorem dX4_flowIn_63 : decode cX4_flowIn 63 = .ok (.getfield 42, 3) := by decide +kernel
theorem dX4_flowIn_66 : decode cX4_flowIn 66 = .ok (.iload_n 1, 1) := by decide +kernel
theorem dX4_flowIn_67 : decode cX4_flowIn 67 = .ok (.iload_n 2, 1) := by decide +kernel
theorem dX4_flowIn_68 : decode cX4_flowIn 68 = .ok (.isub, 1) := by decide +kernel
theorem dX4_flowIn_69 : decode cX4_flowIn 69 = .ok (.i2l, 1) := by decide +kernel
theorem dX4_flowIn_70 : decode cX4_flowIn 70 = .ok (.ladd, 1) := by decide +kernel
theorem dX4_flowIn_71 : decode cX4_flowIn 71 = .ok (.putfield 42, 3) := by decide +kernel
theorem dX4_flowIn_74 : decode cX4_flowIn 74 = .ok (.iload_n 2, 1) := by decide +kernel
theorem dX4_flowIn_75 : decode cX4_flowIn 75 = .ok (.iload_n 1, 1) := by decide +kernel
theorem dX4_flowIn_76 : decode cX4_flowIn 76 = .ok (.if_icmp .ge 11, 3) := by decide +kernel
theorem dX4_flowIn_79 : decode cX4_flowIn 79 = .ok (.aload_n 0, 1) := by decide +kernel
theorem dX4_flowIn_80 : decode cX4_flowIn 80 = .ok (.aload_n 0, 1) := by decide +kernel
theorem dX4_flowIn_81 : decode cX4_flowIn 81 = .ok (.getfield 29, 3) := by decide +kernel
theorem dX4_flowIn_84 : decode cX4_flowIn 84 = .ok (.putfield 36, 3) := by decide +kernel
theorem dX4_flowIn_87 : decode cX4_flowIn 87 = .ok (.return_, 1) := by decide +kernel
theorem dX4_flowOut_0 : decode cX4_flowOut 0 = .ok (.iload_n 1, 1) := by decide +kernel
theorem dX4_flowOut_1 : decode cX4_flowOut 1 = .ok (.istore_n 2, 1) := by decide +kernel
theorem dX4_flowOut_2 : decode cX4_flowOut 2 = .ok (.iconst 0, 1) := by decide +kernel
theorem dX4_flowOut_3 : decode cX4_flowOut 3 = .ok (.istore_n 3, 1) := by decide +kernel
theorem dX4_flowOut_4 : decode cX4_flowOut 4 = .ok (.iload_n 3, 1) := by decide +kernel
theorem dX4_flowOut_5 : decode cX4_flowOut 5 = .ok (.aload_n 0, 1) := by decide +kernel
theorem dX4_flowOut_6 : decode cX4_flowOut 6 = .ok (.getfield 10, 3) := by decide +kernel
theorem dX4_flowOut_9 : decode cX4_flowOut 9 = .ok (.invokevirtual 74, 3) := by decide +kernel
theorem dX4_flowOut_12 : decode cX4_flowOut 12 = .ok (.if_icmp .ge 39, 3) := by decide +kernel
theorem dX4_flowOut_15 : decode cX4_flowOut 15 = .ok (.aload_n 0, 1) := by decide +kernel
theorem dX4_flowOut_16 : decode cX4_flowOut 16 = .ok (.getfield 10, 3) := by decide +kernel
theorem dX4_flowOut_19 : decode cX4_flowOut 19 = .ok (.iload_n 3, 1) := by decide +kernel
theorem dX4_flowOut_20 : decode cX4_flowOut 20 = .ok (.invokevirtual 256, 3) := by decide +kernel
theorem dX4_flowOut_23 : decode cX4_flowOut 23 = .ok (.checkcast 59, 3) := by decide +kernel
theorem dX4_flowOut_26 : decode cX4_flowOut 26 = .ok (.astore 4, 2) := by decide +kernel
theorem dX4_flowOut_28 : decode cX4_flowOut 28 = .ok (.iload_n 2, 1) := by decide +kernel
theorem dX4_flowOut_29 : decode cX4_flowOut 29 = .ok (.aload 4, 2) := by decide +kernel
theorem dX4_flowOut_31 : decode cX4_flowOut 31 = .ok (.iload_n 2, 1) := by decide +kernel
theorem dX4_flowOut_32 : decode cX4_flowOut 32 = .ok (.aload 4, 2) := by decide +kernel
theorem dX4_flowOut_34 : decode cX4_flowOut 34 = .ok (.invokevirtual 106, 3) := by decide +kernel
theorem dX4_flowOut_37 : decode cX4_flowOut 37 = .ok (.invokestatic 317, 3) := by decide +kernel
theorem dX4_flowOut_40 : decode cX4_flowOut 40 = .ok (.invokevirtual 320, 3) := by decide +kernel
theorem dX4_flowOut_43 : decode cX4_flowOut 43 = .ok (.isub, 1) := by decide +kernel
theorem dX4_flowOut_44 : decode cX4_flowOut 44 = .ok (.istore_n 2, 1) := by decide +kernel
theorem dX4_flowOut_45 : decode cX4_flowOut 45 = .ok (.iinc 3 1, 3) := by decide +kernel
theorem dX4_flowOut_48 : decode cX4_flowOut 48 = .ok (.goto (-44), 3) := by decide +kernel
theorem dX4_flowOut_51 : decode cX4_flowOut 51 = .ok (.aload_n 0, 1) := by decide +kernel
theorem dX4_flowOut_52 : decode cX4_flowOut 52 = .ok (.dup, 1) := by decide +kernel
theorem dX4_flowOut_53 : decode cX4_flowOut 53 = .ok (.getfield 46, 3) := by decide +kernel
theorem dX4_flowOut_56 : decode cX4_flowOut 56 = .ok (.iload_n 1, 1) := by decide +kernel
theorem dX4_flowOut_57 : decode cX4_flowOut 57 = .ok (.iload_n 2, 1) := by decide +kernel
theorem dX4_flowOut_58 : decode cX4_flowOut 58 = .ok (.isub, 1) := by decide +kernel
theorem dX4_flowOut_59 : decode cX4_flowOut 59 = .ok (.i2l, 1) := by decide +kernel
theorem dX4_flowOut_60 : decode cX4_flowOut 60 = .ok (.ladd, 1) := by decide +kernel
theorem dX4_flowOut_61 : decode cX4_flowOut 61 = .ok (.putfield 46, 3) := by decide +kernel
theorem dX4_flowOut_64 : decode cX4_flowOut 64 = .ok (.iload_n 2, 1) := by decide +kernel
theorem dX4_flowOut_65 : decode cX4_flowOut 65 = .ok (.iload_n 1, 1) := by decide +kernel
theorem dX4_flowOut_66 : decode cX4_flowOut 66 = .ok (.if_icmp .ge 11, 3) := by decide +kernel
theorem dX4_flowOut_69 : decode cX4_flowOut 69 = .ok (.aload_n 0, 1) := by decide +kernel
theorem dX4_flowOut_70 : decode cX4_flowOut 70 = .ok (.aload_n 0, 1) := by decide +kernel
theorem dX4_flowOut_71 : decode cX4_flowOut 71 = .ok (.getfield 29, 3) := by decide +kernel
theorem dX4_flowOut_74 : decode cX4_flowOut 74 = .ok (.putfield 39, 3) := by decide +kernel
theorem dX4_flowOut_77 : decode cX4_flowOut 77 = .ok (.return_, 1) := by decide +kernel
theorem dX4_endTheDay_0 : decode cX4_endTheDay 0 = .ok (.iconst 0, 1) := by decide +kernel
theorem dX4_endTheDay_1 : decode cX4_endTheDay 1 = .ok (.istore_n 1, 1) := by decide +kernel
theorem dX4_endTheDay_2 : decode cX4_endTheDay 2 = .ok (.iload_n 1, 1) := by decide +kernel
theorem dX4_endTheDay_3 : decode cX4_endTheDay 3 = .ok (.aload_n 0, 1) := by decide +kernel
theorem dX4_endTheDay_4 : decode cX4_endTheDay 4 = .ok (.getfield 10, 3) := by decide +kernel
theorem dX4_endTheDay_7 : decode cX4_endTheDay 7 = .ok (.invokevirtual 74, 3) := by decide +kernel
theorem dX4_endTheDay_10 : decode cX4_endTheDay 10 = .ok (.if_icmp .ge 33, 3) := by decide +kernel
theorem dX4_endTheDay_13 : decode cX4_endTheDay 13 = .ok (.aload_n 0, 1) := by decide +kernel
theorem dX4_endTheDay_14 : decode cX4_endTheDay 14 = .ok (.dup, 1) := by decide +kernel
theorem dX4_endTheDay_15 : decode cX4_endTheDay 15 = .ok (.getfield 49, 3) := by decide +kernel
theorem dX4_endTheDay_18 : decode cX4_endTheDay 18 = .ok (.aload_n 0, 1) := by decide +kernel
theorem dX4_endTheDay_19 : decode cX4_endTheDay 19 = .ok (.getfield 10, 3) := by decide +kernel
theorem dX4_endTheDay_22 : decode cX4_endTheDay 22 = .ok (.iload_n 1, 1) := by decide +kernel
theorem dX4_endTheDay_23 : decode cX4_endTheDay 23 = .ok (.invokevirtual 256, 3) := by decide +kernel
theorem dX4_endTheDay_26 : decode cX4_endTheDay 26 = .ok (.checkcast 59, 3) := by decide +kernel
theorem dX4_endTheDay_29 : decode cX4_endTheDay 29 = .ok (.invokevirtual 323, 3) := by decide +kernel
theorem dX4_endTheDay_32 : decode cX4_endTheDay 32 = .ok (.i2l, 1) := by decide +kernel
theorem dX4_endTheDay_33 : decode cX4_endTheDay 33 = .ok (.ladd, 1) := by decide +kernel
theorem dX4_endTheDay_34 : decode cX4_endTheDay 34 = .ok (.putfield 49, 3) := by decide +kernel
theorem dX4_endTheDay_37 : decode cX4_endTheDay 37 = .ok (.iinc 1 1, 3) := by decide +kernel
theorem dX4_endTheDay_40 : decode cX4_endTheDay 40 = .ok (.goto (-38), 3) := by decide +kernel
theorem dX4_endTheDay_43 : decode cX4_endTheDay 43 = .ok (.return_, 1) := by decide +kernel
theorem dX4_bestSum_0 : decode cX4_bestSum 0 = .ok (.iload 4, 2) := by decide +kernel
theorem dX4_bestSum_2 : decode cX4_bestSum 2 = .ok (.ifCond .le 10, 3) := by decide +kernel
theorem dX4_bestSum_5 : decode cX4_bestSum 5 = .ok (.iload 4, 2) := by decide +kernel
theorem dX4_bestSum_7 : decode cX4_bestSum 7 = .ok (.bipush 8, 2) := by decide +kernel
theorem dX4_bestSum_9 : decode cX4_bestSum 9 = .ok (.if_icmp .le 5, 3) := by decide +kernel
theorem dX4_bestSum_12 : decode cX4_bestSum 12 = .ok (.lconst 0, 1) := by decide +kernel
theorem dX4_bestSum_13 : decode cX4_bestSum 13 = .ok (.lreturn, 1) := by decide +kernel
theorem dX4_bestSum_14 : decode cX4_bestSum 14 = .ok (.aload_n 0, 1) := by decide +kernel
theorem dX4_bestSum_15 : decode cX4_bestSum 15 = .ok (.aload_n 1, 1) := by decide +kernel
theorem dX4_bestSum_16 : decode cX4_bestSum 16 = .ok (.iload_n 2, 1) := by decide +kernel
theorem dX4_bestSum_17 : decode cX4_bestSum 17 = .ok (.iload_n 3, 1) := by decide +kernel
theorem dX4_bestSum_18 : decode cX4_bestSum 18 = .ok (.iconst 1, 1) := by decide +kernel
theorem dX4_bestSum_19 : decode cX4_bestSum 19 = .ok (.iadd, 1) := by decide +kernel
theorem dX4_bestSum_20 : decode cX4_bestSum 20 = .ok (.iload 4, 2) := by decide +kernel
theorem dX4_bestSum_22 : decode cX4_bestSum 22 = .ok (.iconst 1, 1) := by decide +kernel
theorem dX4_bestSum_23 : decode cX4_bestSum 23 = .ok (.isub, 1) := by decide +kernel
theorem dX4_bestSum_24 : decode cX4_bestSum 24 = .ok (.invokestatic 226, 3) := by decide +kernel
theorem dX4_bestSum_27 : decode cX4_bestSum 27 = .ok (.lstore 5, 2) := by decide +kernel
theorem dX4_bestSum_29 : decode cX4_bestSum 29 = .ok (.aload_n 1, 1) := by decide +kernel
theorem dX4_bestSum_30 : decode cX4_bestSum 30 = .ok (.iload_n 3, 1) := by decide +kernel
theorem dX4_bestSum_31 : decode cX4_bestSum 31 = .ok (.invokevirtual 326, 3) := by decide +kernel
theorem dX4_bestSum_34 : decode cX4_bestSum 34 = .ok (.i2l, 1) := by decide +kernel
theorem dX4_bestSum_35 : decode cX4_bestSum 35 = .ok (.lstore 7, 2) := by decide +kernel
theorem dX4_bestSum_37 : decode cX4_bestSum 37 = .ok (.aload_n 0, 1) := by decide +kernel
theorem dX4_bestSum_38 : decode cX4_bestSum 38 = .ok (.iload_n 2, 1) := by decide +kernel
theorem dX4_bestSum_39 : decode cX4_bestSum 39 = .ok (.invokevirtual 329, 3) := by decide +kernel
theorem dX4_bestSum_42 : decode cX4_bestSum 42 = .ok (.istore 9, 2) := by decide +kernel
theorem dX4_bestSum_44 : decode cX4_bestSum 44 = .ok (.iload 9, 2) := by decide +kernel
theorem dX4_bestSum_46 : decode cX4_bestSum 46 = .ok (.ifCond .le 33, 3) := by decide +kernel
theorem dX4_bestSum_49 : decode cX4_bestSum 49 = .ok (.lload 5, 2) := by decide +kernel
theorem dX4_bestSum_51 : decode cX4_bestSum 51 = .ok (.aload_n 0, 1) := by decide +kernel
theorem dX4_bestSum_52 : decode cX4_bestSum 52 = .ok (.aload_n 1, 1) := by decide +kernel
theorem dX4_bestSum_53 : decode cX4_bestSum 53 = .ok (.iload_n 2, 1) := by decide +kernel
theorem dX4_bestSum_54 : decode cX4_bestSum 54 = .ok (.iload 9, 2) := by decide +kernel
theorem dX4_bestSum_56 : decode cX4_bestSum 56 = .ok (.iadd, 1) := by decide +kernel
theorem dX4_bestSum_57 : decode cX4_bestSum 57 = .ok (.iload_n 3, 1) := by decide +kernel
theorem dX4_bestSum_58 : decode cX4_bestSum 58 = .ok (.iconst 1, 1) := by decide +kernel
theorem dX4_bestSum_59 : decode cX4_bestSum 59 = .ok (.iadd, 1) := by decide +kernel
theorem dX4_bestSum_60 : decode cX4_bestSum 60 = .ok (.iload 4, 2) := by decide +kernel
theorem dX4_bestSum_62 : decode cX4_bestSum 62 = .ok (.iconst 1, 1) := by decide +kernel
theorem dX4_bestSum_63 : decode cX4_bestSum 63 = .ok (.isub, 1) := by decide +kernel
theorem dX4_bestSum_64 : decode cX4_bestSum 64 = .ok (.invokestatic 226, 3) := by decide +kernel
theorem dX4_bestSum_67 : decode cX4_bestSum 67 = .ok (.iload 9, 2) := by decide +kernel
theorem dX4_bestSum_69 : decode cX4_bestSum 69 = .ok (.i2l, 1) := by decide +kernel
theorem dX4_bestSum_70 : decode cX4_bestSum 70 = .ok (.lload 7, 2) := by decide +kernel
theorem dX4_bestSum_72 : decode cX4_bestSum 72 = .ok (.lmul, 1) := by decide +kernel
theorem dX4_bestSum_73 : decode cX4_bestSum 73 = .ok (.lsub, 1) := by decide +kernel
theorem dX4_bestSum_74 : decode cX4_bestSum 74 = .ok (.invokestatic 234, 3) := by decide +kernel
theorem dX4_bestSum_77 : decode cX4_bestSum 77 = .ok (.lstore 5, 2) := by decide +kernel
theorem dX4_bestSum_79 : decode cX4_bestSum 79 = .ok (.aload_n 0, 1) := by decide +kernel
theorem dX4_bestSum_80 : decode cX4_bestSum 80 = .ok (.iload_n 2, 1) := by decide +kernel
theorem dX4_bestSum_81 : decode cX4_bestSum 81 = .ok (.invokevirtual 332, 3) := by decide +kernel
theorem dX4_bestSum_84 : decode cX4_bestSum 84 = .ok (.istore 10, 2) := by decide +kernel
theorem dX4_bestSum_86 : decode cX4_bestSum 86 = .ok (.iload 10, 2) := by decide +kernel
theorem dX4_bestSum_88 : decode cX4_bestSum 88 = .ok (.ifCond .le 33, 3) := by decide +kernel
theorem dX4_bestSum_91 : decode cX4_bestSum 91 = .ok (.lload 5, 2) := by decide +kernel
theorem dX4_bestSum_93 : decode cX4_bestSum 93 = .ok (.aload_n 0, 1) := by decide +kernel
theorem dX4_bestSum_94 : decode cX4_bestSum 94 = .ok (.aload_n 1, 1) := by decide +kernel
theorem dX4_bestSum_95 : decode cX4_bestSum 95 = .ok (.iload_n 2, 1) := by decide +kernel
theorem dX4_bestSum_96 : decode cX4_bestSum 96 = .ok (.iload 10, 2) := by decide +kernel
theorem dX4_bestSum_98 : decode cX4_bestSum 98 = .ok (.isub, 1) := by decide +kernel
theorem dX4_bestSum_99 : decode cX4_bestSum 99 = .ok (.iload_n 3, 1) := by decide +kernel
theorem dX4_bestSum_100 : decode cX4_bestSum 100 = .ok (.iconst 1, 1) := by decide +kernel
theorem dX4_bestSum_101 : decode cX4_bestSum 101 = .ok (.iadd, 1) := by decide +kernel
theorem dX4_bestSum_102 : decode cX4_bestSum 102 = .ok (.iload 4, 2) := by decide +kernel
theorem dX4_bestSum_104 : decode cX4_bestSum 104 = .ok (.iconst 1, 1) := by decide +kernel
theorem dX4_bestSum_105 : decode cX4_bestSum 105 = .ok (.isub, 1) := by decide +kernel
theorem dX4_bestSum_106 : decode cX4_bestSum 106 = .ok (.invokestatic 226, 3) := by decide +kernel
theorem dX4_bestSum_109 : decode cX4_bestSum 109 = .ok (.iload 10, 2) := by decide +kernel
theorem dX4_bestSum_111 : decode cX4_bestSum 111 = .ok (.i2l, 1) := by decide +kernel
theorem dX4_bestSum_112 : decode cX4_bestSum 112 = .ok (.lload 7, 2) := by decide +kernel
theorem dX4_bestSum_114 : decode cX4_bestSum 114 = .ok (.lmul, 1) := by decide +kernel
theorem dX4_bestSum_115 : decode cX4_bestSum 115 = .ok (.ladd, 1) := by decide +kernel
theorem dX4_bestSum_116 : decode cX4_bestSum 116 = .ok (.invokestatic 234, 3) := by decide +kernel
theorem dX4_bestSum_119 : decode cX4_bestSum 119 = .ok (.lstore 5, 2) := by decide +kernel
theorem dX4_bestSum_121 : decode cX4_bestSum 121 = .ok (.lload 5, 2) := by decide +kernel
theorem dX4_bestSum_123 : decode cX4_bestSum 123 = .ok (.lreturn, 1) := by decide +kernel
theorem dX4_sumOfWay_0 : decode cX4_sumOfWay 0 = .ok (.aload_n 1, 1) := by decide +kernel
theorem dX4_sumOfWay_1 : decode cX4_sumOfWay 1 = .ok (.getfield 153, 3) := by decide +kernel
theorem dX4_sumOfWay_4 : decode cX4_sumOfWay 4 = .ok (.istore 4, 2) := by decide +kernel
theorem dX4_sumOfWay_6 : decode cX4_sumOfWay 6 = .ok (.iload_n 2, 1) := by decide +kernel
theorem dX4_sumOfWay_7 : decode cX4_sumOfWay 7 = .ok (.istore 5, 2) := by decide +kernel
theorem dX4_sumOfWay_9 : decode cX4_sumOfWay 9 = .ok (.lconst 0, 1) := by decide +kernel
theorem dX4_sumOfWay_10 : decode cX4_sumOfWay 10 = .ok (.lstore 6, 2) := by decide +kernel
theorem dX4_sumOfWay_12 : decode cX4_sumOfWay 12 = .ok (.iconst 0, 1) := by decide +kernel
theorem dX4_sumOfWay_13 : decode cX4_sumOfWay 13 = .ok (.istore 8, 2) := by decide +kernel
theorem dX4_sumOfWay_15 : decode cX4_sumOfWay 15 = .ok (.iload 8, 2) := by decide +kernel
theorem dX4_sumOfWay_17 : decode cX4_sumOfWay 17 = .ok (.iload_n 3, 1) := by decide +kernel
theorem dX4_sumOfWay_18 : decode cX4_sumOfWay 18 = .ok (.if_icmp .ge 86, 3) := by decide +kernel
theorem dX4_sumOfWay_21 : decode cX4_sumOfWay 21 = .ok (.iload 5, 2) := by decide +kernel
theorem dX4_sumOfWay_23 : decode cX4_sumOfWay 23 = .ok (.iconst 3, 1) := by decide +kernel
theorem dX4_sumOfWay_24 : decode cX4_sumOfWay 24 = .ok (.irem, 1) := by decide +kernel
theorem dX4_sumOfWay_25 : decode cX4_sumOfWay 25 = .ok (.istore 9, 2) := by decide +kernel
theorem dX4_sumOfWay_27 : decode cX4_sumOfWay 27 = .ok (.iload 5, 2) := by decide +kernel
theorem dX4_sumOfWay_29 : decode cX4_sumOfWay 29 = .ok (.iconst 3, 1) := by decide +kernel
theorem dX4_sumOfWay_30 : decode cX4_sumOfWay 30 = .ok (.idiv, 1) := by decide +kernel
theorem dX4_sumOfWay_31 : decode cX4_sumOfWay 31 = .ok (.istore 5, 2) := by decide +kernel
theorem dX4_sumOfWay_33 : decode cX4_sumOfWay 33 = .ok (.iload 9, 2) := by decide +kernel
theorem dX4_sumOfWay_35 : decode cX4_sumOfWay 35 = .ok (.iconst 1, 1) := by decide +kernel
theorem dX4_sumOfWay_36 : decode cX4_sumOfWay 36 = .ok (.if_icmp .ne 12, 3) := by decide +kernel
theorem dX4_sumOfWay_39 : decode cX4_sumOfWay 39 = .ok (.aload_n 1, 1) := by decide +kernel
theorem dX4_sumOfWay_40 : decode cX4_sumOfWay 40 = .ok (.iload 4, 2) := by decide +kernel
theorem dX4_sumOfWay_42 : decode cX4_sumOfWay 42 = .ok (.invokevirtual 329, 3) := by decide +kernel
theorem dX4_sumOfWay_45 : decode cX4_sumOfWay 45 = .ok (.goto 20, 3) := by decide +kernel
theorem dX4_sumOfWay_48 : decode cX4_sumOfWay 48 = .ok (.iload 9, 2) := by decide +kernel
theorem dX4_sumOfWay_50 : decode cX4_sumOfWay 50 = .ok (.iconst 2, 1) := by decide +kernel
theorem dX4_sumOfWay_51 : decode cX4_sumOfWay 51 = .ok (.if_icmp .ne 13, 3) := by decide +kernel
theorem dX4_sumOfWay_54 : decode cX4_sumOfWay 54 = .ok (.aload_n 1, 1) := by decide +kernel
theorem dX4_sumOfWay_55 : decode cX4_sumOfWay 55 = .ok (.iload 4, 2) := by decide +kernel
theorem dX4_sumOfWay_57 : decode cX4_sumOfWay 57 = .ok (.invokevirtual 332, 3) := by decide +kernel
theorem dX4_sumOfWay_60 : decode cX4_sumOfWay 60 = .ok (.ineg, 1) := by decide +kernel
theorem dX4_sumOfWay_61 : decode cX4_sumOfWay 61 = .ok (.goto 4, 3) := by decide +kernel
theorem dX4_sumOfWay_64 : decode cX4_sumOfWay 64 = .ok (.iconst 0, 1) := by decide +kernel
theorem dX4_sumOfWay_65 : decode cX4_sumOfWay 65 = .ok (.istore 10, 2) := by decide +kernel
theorem dX4_sumOfWay_67 : decode cX4_sumOfWay 67 = .ok (.iload 4, 2) := by decide +kernel
theorem dX4_sumOfWay_69 : decode cX4_sumOfWay 69 = .ok (.iload 10, 2) := by decide +kernel
theorem dX4_sumOfWay_71 : decode cX4_sumOfWay 71 = .ok (.iadd, 1) := by decide +kernel
theorem dX4_sumOfWay_72 : decode cX4_sumOfWay 72 = .ok (.istore 4, 2) := by decide +kernel
theorem dX4_sumOfWay_74 : decode cX4_sumOfWay 74 = .ok (.lload 6, 2) := by decide +kernel
theorem dX4_sumOfWay_76 : decode cX4_sumOfWay 76 = .ok (.iload 10, 2) := by decide +kernel
theorem dX4_sumOfWay_78 : decode cX4_sumOfWay 78 = .ok (.i2l, 1) := by decide +kernel
theorem dX4_sumOfWay_79 : decode cX4_sumOfWay 79 = .ok (.aload_n 0, 1) := by decide +kernel
theorem dX4_sumOfWay_80 : decode cX4_sumOfWay 80 = .ok (.getfield 25, 3) := by decide +kernel
theorem dX4_sumOfWay_83 : decode cX4_sumOfWay 83 = .ok (.aload_n 0, 1) := by decide +kernel
theorem dX4_sumOfWay_84 : decode cX4_sumOfWay 84 = .ok (.getfield 29, 3) := by decide +kernel
theorem dX4_sumOfWay_87 : decode cX4_sumOfWay 87 = .ok (.iload 8, 2) := by decide +kernel
theorem dX4_sumOfWay_89 : decode cX4_sumOfWay 89 = .ok (.iadd, 1) := by decide +kernel
theorem dX4_sumOfWay_90 : decode cX4_sumOfWay 90 = .ok (.invokevirtual 326, 3) := by decide +kernel
theorem dX4_sumOfWay_93 : decode cX4_sumOfWay 93 = .ok (.i2l, 1) := by decide +kernel
theorem dX4_sumOfWay_94 : decode cX4_sumOfWay 94 = .ok (.lmul, 1) := by decide +kernel
theorem dX4_sumOfWay_95 : decode cX4_sumOfWay 95 = .ok (.lsub, 1) := by decide +kernel
theorem dX4_sumOfWay_96 : decode cX4_sumOfWay 96 = .ok (.lstore 6, 2) := by decide +kernel
theorem dX4_sumOfWay_98 : decode cX4_sumOfWay 98 = .ok (.iinc 8 1, 3) := by decide +kernel
theorem dX4_sumOfWay_101 : decode cX4_sumOfWay 101 = .ok (.goto (-86), 3) := by decide +kernel
theorem dX4_sumOfWay_104 : decode cX4_sumOfWay 104 = .ok (.lload 6, 2) := by decide +kernel
theorem dX4_sumOfWay_106 : decode cX4_sumOfWay 106 = .ok (.lreturn, 1) := by decide +kernel
theorem dX5_init_0 : decode cX5_init 0 = .ok (.aload_n 0, 1) := by decide +kernel
theorem dX5_init_1 : decode cX5_init 1 = .ok (.invokespecial 1, 3) := by decide +kernel
theorem dX5_init_4 : decode cX5_init 4 = .ok (.aload_n 0, 1) := by decide +kernel
theorem dX5_init_5 : decode cX5_init 5 = .ok (.iconst 5, 1) := by decide +kernel
theorem dX5_init_6 : decode cX5_init 6 = .ok (.newarray .int, 2) := by decide +kernel
theorem dX5_init_8 : decode cX5_init 8 = .ok (.putfield 7, 3) := by decide +kernel
theorem dX5_init_11 : decode cX5_init 11 = .ok (.aload_n 0, 1) := by decide +kernel
theorem dX5_init_12 : decode cX5_init 12 = .ok (.iconst 5, 1) := by decide +kernel
theorem dX5_init_13 : decode cX5_init 13 = .ok (.newarray .int, 2) := by decide +kernel
theorem dX5_init_15 : decode cX5_init 15 = .ok (.putfield 13, 3) := by decide +kernel
theorem dX5_init_18 : decode cX5_init 18 = .ok (.aload_n 0, 1) := by decide +kernel
theorem dX5_init_19 : decode cX5_init 19 = .ok (.iconst 5, 1) := by decide +kernel
theorem dX5_init_20 : decode cX5_init 20 = .ok (.newarray .int, 2) := by decide +kernel
theorem dX5_init_22 : decode cX5_init 22 = .ok (.putfield 16, 3) := by decide +kernel
theorem dX5_init_25 : decode cX5_init 25 = .ok (.aload_n 0, 1) := by decide +kernel
theorem dX5_init_26 : decode cX5_init 26 = .ok (.iconst 5, 1) := by decide +kernel
theorem dX5_init_27 : decode cX5_init 27 = .ok (.newarray .int, 2) := by decide +kernel
theorem dX5_init_29 : decode cX5_init 29 = .ok (.putfield 19, 3) := by decide +kernel
theorem dX5_init_32 : decode cX5_init 32 = .ok (.aload_n 0, 1) := by decide +kernel
theorem dX5_init_33 : decode cX5_init 33 = .ok (.iconst 5, 1) := by decide +kernel
theorem dX5_init_34 : decode cX5_init 34 = .ok (.newarray .int, 2) := by decide +kernel
theorem dX5_init_36 : decode cX5_init 36 = .ok (.putfield 22, 3) := by decide +kernel
theorem dX5_init_39 : decode cX5_init 39 = .ok (.aload_n 0, 1) := by decide +kernel
theorem dX5_init_40 : decode cX5_init 40 = .ok (.iconst 5, 1) := by decide +kernel
theorem dX5_init_41 : decode cX5_init 41 = .ok (.newarray .int, 2) := by decide +kernel
theorem dX5_init_43 : decode cX5_init 43 = .ok (.putfield 25, 3) := by decide +kernel
theorem dX5_init_46 : decode cX5_init 46 = .ok (.aload_n 0, 1) := by decide +kernel
theorem dX5_init_47 : decode cX5_init 47 = .ok (.iconst 5, 1) := by decide +kernel
theorem dX5_init_48 : decode cX5_init 48 = .ok (.newarray .int, 2) := by decide +kernel
theorem dX5_init_50 : decode cX5_init 50 = .ok (.putfield 28, 3) := by decide +kernel
theorem dX5_init_53 : decode cX5_init 53 = .ok (.aload_n 0, 1) := by decide +kernel
theorem dX5_init_54 : decode cX5_init 54 = .ok (.iconst 5, 1) := by decide +kernel
theorem dX5_init_55 : decode cX5_init 55 = .ok (.newarray .int, 2) := by decide +kernel
theorem dX5_init_57 : decode cX5_init 57 = .ok (.putfield 31, 3) := by decide +kernel
theorem dX5_init_60 : decode cX5_init 60 = .ok (.aload_n 0, 1) := by decide +kernel
theorem dX5_init_61 : decode cX5_init 61 = .ok (.iconst 5, 1) := by decide +kernel
theorem dX5_init_62 : decode cX5_init 62 = .ok (.newarray .int, 2) := by decide +kernel
theorem dX5_init_64 : decode cX5_init 64 = .ok (.putfield 34, 3) := by decide +kernel
theorem dX5_init_67 : decode cX5_init 67 = .ok (.aload_n 0, 1) := by decide +kernel
theorem dX5_init_68 : decode cX5_init 68 = .ok (.iconst 5, 1) := by decide +kernel
theorem dX5_init_69 : decode cX5_init 69 = .ok (.newarray .int, 2) := by decide +kernel
theorem dX5_init_71 : decode cX5_init 71 = .ok (.putfield 37, 3) := by decide +kernel
theorem dX5_init_74 : decode cX5_init 74 = .ok (.aload_n 0, 1) := by decide +kernel
theorem dX5_init_75 : decode cX5_init 75 = .ok (.iconst 5, 1) := by decide +kernel
theorem dX5_init_76 : decode cX5_init 76 = .ok (.newarray .long, 2) := by decide +kernel
theorem dX5_init_78 : decode cX5_init 78 = .ok (.putfield 40, 3) := by decide +kernel
theorem dX5_init_81 : decode cX5_init 81 = .ok (.aload_n 0, 1) := by decide +kernel
theorem dX5_init_82 : decode cX5_init 82 = .ok (.iconst 5, 1) := by decide +kernel
theorem dX5_init_83 : decode cX5_init 83 = .ok (.newarray .int, 2) := by decide +kernel
theorem dX5_init_85 : decode cX5_init 85 = .ok (.putfield 44, 3) := by decide +kernel
theorem dX5_init_88 : decode cX5_init 88 = .ok (.aload_n 0, 1) := by decide +kernel
theorem dX5_init_89 : decode cX5_init 89 = .ok (.sipush 10000, 3) := by decide +kernel
theorem dX5_init_92 : decode cX5_init 92 = .ok (.putfield 47, 3) := by decide +kernel
theorem dX5_init_95 : decode cX5_init 95 = .ok (.aload_n 0, 1) := by decide +kernel
theorem dX5_init_96 : decode cX5_init 96 = .ok (.bipush 6, 2) := by decide +kernel
theorem dX5_init_98 : decode cX5_init 98 = .ok (.newarray .int, 2) := by decide +kernel
theorem dX5_init_100 : decode cX5_init 100 = .ok (.putfield 51, 3) := by decide +kernel
theorem dX5_init_103 : decode cX5_init 103 = .ok (.aload_n 0, 1) := by decide +kernel
theorem dX5_init_104 : decode cX5_init 104 = .ok (.bipush 6, 2) := by decide +kernel
theorem dX5_init_106 : decode cX5_init 106 = .ok (.newarray .int, 2) := by decide +kernel
theorem dX5_init_108 : decode cX5_init 108 = .ok (.putfield 54, 3) := by decide +kernel
theorem dX5_init_111 : decode cX5_init 111 = .ok (.aload_n 0, 1) := by decide +kernel
theorem dX5_init_112 : decode cX5_init 112 = .ok (.bipush 6, 2) := by decide +kernel
theorem dX5_init_114 : decode cX5_init 114 = .ok (.newarray .int, 2) := by decide +kernel
theorem dX5_init_116 : decode cX5_init 116 = .ok (.putfield 57, 3) := by decide +kernel
theorem dX5_init_119 : decode cX5_init 119 = .ok (.aload_n 0, 1) := by decide +kernel
theorem dX5_init_120 : decode cX5_init 120 = .ok (.bipush 6, 2) := by decide +kernel
theorem dX5_init_122 : decode cX5_init 122 = .ok (.newarray .int, 2) := by decide +kernel
theorem dX5_init_124 : decode cX5_init 124 = .ok (.putfield 60, 3) := by decide +kernel
theorem dX5_init_127 : decode cX5_init 127 = .ok (.aload_n 0, 1) := by decide +kernel
theorem dX5_init_128 : decode cX5_init 128 = .ok (.bipush 6, 2) := by decide +kernel
theorem dX5_init_130 : decode cX5_init 130 = .ok (.newarray .int, 2) := by decide +kernel
theorem dX5_init_132 : decode cX5_init 132 = .ok (.putfield 63, 3) := by decide +kernel
theorem dX5_init_135 : decode cX5_init 135 = .ok (.aload_n 0, 1) := by decide +kernel
theorem dX5_init_136 : decode cX5_init 136 = .ok (.bipush 6, 2) := by decide +kernel
theorem dX5_init_138 : decode cX5_init 138 = .ok (.newarray .long, 2) := by decide +kernel
theorem dX5_init_140 : decode cX5_init 140 = .ok (.putfield 66, 3) := by decide +kernel
theorem dX5_init_143 : decode cX5_init 143 = .ok (.aload_n 0, 1) := by decide +kernel
theorem dX5_init_144 : decode cX5_init 144 = .ok (.bipush 6, 2) := by decide +kernel
theorem dX5_init_146 : decode cX5_init 146 = .ok (.newarray .long, 2) := by decide +kernel
theorem dX5_init_148 : decode cX5_init 148 = .ok (.putfield 69, 3) := by decide +kernel
theorem dX5_init_151 : decode cX5_init 151 = .ok (.aload_n 0, 1) := by decide +kernel
theorem dX5_init_152 : decode cX5_init 152 = .ok (.bipush 6, 2) := by decide +kernel
theorem dX5_init_154 : decode cX5_init 154 = .ok (.newarray .long, 2) := by decide +kernel
theorem dX5_init_156 : decode cX5_init 156 = .ok (.putfield 72, 3) := by decide +kernel
theorem dX5_init_159 : decode cX5_init 159 = .ok (.aload_n 0, 1) := by decide +kernel
theorem dX5_init_160 : decode cX5_init 160 = .ok (.sipush 384, 3) := by decide +kernel
theorem dX5_init_163 : decode cX5_init 163 = .ok (.newarray .int, 2) := by decide +kernel
theorem dX5_init_165 : decode cX5_init 165 = .ok (.putfield 75, 3) := by decide +kernel
theorem dX5_init_168 : decode cX5_init 168 = .ok (.aload_n 0, 1) := by decide +kernel
theorem dX5_init_169 : decode cX5_init 169 = .ok (.bipush 64, 2) := by decide +kernel
theorem dX5_init_171 : decode cX5_init 171 = .ok (.newarray .int, 2) := by decide +kernel
theorem dX5_init_173 : decode cX5_init 173 = .ok (.putfield 78, 3) := by decide +kernel
theorem dX5_init_176 : decode cX5_init 176 = .ok (.aload_n 0, 1) := by decide +kernel
theorem dX5_init_177 : decode cX5_init 177 = .ok (.bipush 20, 2) := by decide +kernel
theorem dX5_init_179 : decode cX5_init 179 = .ok (.newarray .int, 2) := by decide +kernel
theorem dX5_init_181 : decode cX5_init 181 = .ok (.putfield 81, 3) := by decide +kernel
theorem dX5_init_184 : decode cX5_init 184 = .ok (.aload_n 0, 1) := by decide +kernel
theorem dX5_init_185 : decode cX5_init 185 = .ok (.bipush 20, 2) := by decide +kernel
theorem dX5_init_187 : decode cX5_init 187 = .ok (.newarray .int, 2) := by decide +kernel
theorem dX5_init_189 : decode cX5_init 189 = .ok (.putfield 84, 3) := by decide +kernel
theorem dX5_init_192 : decode cX5_init 192 = .ok (.aload_n 0, 1) := by decide +kernel
theorem dX5_init_193 : decode cX5_init 193 = .ok (.bipush 20, 2) := by decide +kernel
theorem dX5_init_195 : decode cX5_init 195 = .ok (.newarray .int, 2) := by decide +kernel
theorem dX5_init_197 : decode cX5_init 197 = .ok (.putfield 87, 3) := by decide +kernel
theorem dX5_init_200 : decode cX5_init 200 = .ok (.aload_n 0, 1) := by decide +kernel
theorem dX5_init_201 : decode cX5_init 201 = .ok (.bipush 6, 2) := by decide +kernel
theorem dX5_init_203 : decode cX5_init 203 = .ok (.newarray .int, 2) := by decide +kernel
theorem dX5_init_205 : decode cX5_init 205 = .ok (.putfield 90, 3) := by decide +kernel
theorem dX5_init_208 : decode cX5_init 208 = .ok (.aload_n 0, 1) := by decide +kernel
theorem dX5_init_209 : decode cX5_init 209 = .ok (.bipush 6, 2) := by decide +kernel
theorem dX5_init_211 : decode cX5_init 211 = .ok (.newarray .int, 2) := by decide +kernel
theorem dX5_init_213 : decode cX5_init 213 = .ok (.putfield 93, 3) := by decide +kernel
theorem dX5_init_216 : decode cX5_init 216 = .ok (.aload_n 0, 1) := by decide +kernel
theorem dX5_init_217 : decode cX5_init 217 = .ok (.bipush 6, 2) := by decide +kernel
theorem dX5_init_219 : decode cX5_init 219 = .ok (.newarray .int, 2) := by decide +kernel
theorem dX5_init_221 : decode cX5_init 221 = .ok (.putfield 96, 3) := by decide +kernel
theorem dX5_init_224 : decode cX5_init 224 = .ok (.aload_n 0, 1) := by decide +kernel
theorem dX5_init_225 : decode cX5_init 225 = .ok (.bipush 6, 2) := by decide +kernel
theorem dX5_init_227 : decode cX5_init 227 = .ok (.newarray .int, 2) := by decide +kernel
theorem dX5_init_229 : decode cX5_init 229 = .ok (.putfield 99, 3) := by decide +kernel
theorem dX5_init_232 : decode cX5_init 232 = .ok (.return_, 1) := by decide +kernel
theorem dX5_thrown_0 : decode cX5_thrown 0 = .ok (.aload_n 0, 1) := by decide +kernel
theorem dX5_thrown_1 : decode cX5_thrown 1 = .ok (.getfield 102, 3) := by decide +kernel
theorem dX5_thrown_4 : decode cX5_thrown 4 = .ok (.ireturn, 1) := by decide +kernel
theorem dX5_holds_0 : decode cX5_holds 0 = .ok (.aload_n 0, 1) := by decide +kernel
theorem dX5_holds_1 : decode cX5_holds 1 = .ok (.iload_n 1, 1) := by decide +kernel
theorem dX5_holds_2 : decode cX5_holds 2 = .ok (.putfield 102, 3) := by decide +kernel
theorem dX5_holds_5 : decode cX5_holds 5 = .ok (.iload_n 1, 1) := by decide +kernel
theorem dX5_holds_6 : decode cX5_holds 6 = .ok (.ifCond .ne 7, 3) := by decide +kernel
theorem dX5_holds_9 : decode cX5_holds 9 = .ok (.iconst 1, 1) := by decide +kernel
theorem dX5_holds_10 : decode cX5_holds 10 = .ok (.goto 4, 3) := by decide +kernel
theorem dX5_holds_13 : decode cX5_holds 13 = .ok (.iconst 0, 1) := by decide +kernel
theorem dX5_holds_14 : decode cX5_holds 14 = .ok (.ireturn, 1) := by decide +kernel
theorem dX5_isIn_0 : decode cX5_isIn 0 = .ok (.iload_n 0, 1) := by decide +kernel
theorem dX5_isIn_1 : decode cX5_isIn 1 = .ok (.iload_n 1, 1) := by decide +kernel
theorem dX5_isIn_2 : decode cX5_isIn 2 = .ok (.if_icmp .lt 12, 3) := by decide +kernel
theorem dX5_isIn_5 : decode cX5_isIn 5 = .ok (.iload_n 0, 1) := by decide +kernel
theorem dX5_isIn_6 : decode cX5_isIn 6 = .ok (.iload_n 2, 1) := by decide +kernel
theorem dX5_isIn_7 : decode cX5_isIn 7 = .ok (.if_icmp .gt 7, 3) := by decide +kernel
theorem dX5_isIn_10 : decode cX5_isIn 10 = .ok (.iconst 1, 1) := by decide +kernel
theorem dX5_isIn_11 : decode cX5_isIn 11 = .ok (.goto 4, 3) := by decide +kernel
theorem dX5_isIn_14 : decode cX5_isIn 14 = .ok (.iconst 0, 1) := by decide +kernel
theorem dX5_isIn_15 : decode cX5_isIn 15 = .ok (.ireturn, 1) := by decide +kernel
theorem dX5_isStore_0 : decode cX5_isStore 0 = .ok (.iload_n 1, 1) := by decide +kernel
theorem dX5_isStore_1 : decode cX5_isStore 1 = .ok (.iconst 0, 1) := by decide +kernel
theorem dX5_isStore_2 : decode cX5_isStore 2 = .ok (.aload_n 0, 1) := by decide +kernel
theorem dX5_isStore_3 : decode cX5_isStore 3 = .ok (.getfield 105, 3) := by decide +kernel
theorem dX5_isStore_6 : decode cX5_isStore 6 = .ok (.iconst 1, 1) := by decide +kernel
theorem dX5_isStore_7 : decode cX5_isStore 7 = .ok (.isub, 1) := by decide +kernel
theorem dX5_isStore_8 : decode cX5_isStore 8 = .ok (.invokestatic 108, 3) := by decide +kernel
theorem dX5_isStore_11 : decode cX5_isStore 11 = .ok (.ireturn, 1) := by decide +kernel
theorem dX5_isCustomer_0 : decode cX5_isCustomer 0 = .ok (.iload_n 1, 1) := by decide +kernel
theorem dX5_isCustomer_1 : decode cX5_isCustomer 1 = .ok (.iconst 0, 1) := by decide +kernel
theorem dX5_isCustomer_2 : decode cX5_isCustomer 2 = .ok (.aload_n 0, 1) := by decide +kernel
theorem dX5_isCustomer_3 : decode cX5_isCustomer 3 = .ok (.getfield 112, 3) := by decide +kernel
theorem dX5_isCustomer_6 : decode cX5_isCustomer 6 = .ok (.iconst 1, 1) := by decide +kernel
theorem dX5_isCustomer_7 : decode cX5_isCustomer 7 = .ok (.isub, 1) := by decide +kernel
theorem dX5_isCustomer_8 : decode cX5_isCustomer 8 = .ok (.invokestatic 108, 3) := by decide +kernel
theorem dX5_isCustomer_11 : decode cX5_isCustomer 11 = .ok (.ireturn, 1) := by decide +kernel
theorem dX5_lesser_0 : decode cX5_lesser 0 = .ok (.iload_n 0, 1) := by decide +kernel
theorem dX5_lesser_1 : decode cX5_lesser 1 = .ok (.iload_n 1, 1) := by decide +kernel
theorem dX5_lesser_2 : decode cX5_lesser 2 = .ok (.if_icmp .ge 7, 3) := by decide +kernel
theorem dX5_lesser_5 : decode cX5_lesser 5 = .ok (.iload_n 0, 1) := by decide +kernel
theorem dX5_lesser_6 : decode cX5_lesser 6 = .ok (.goto 4, 3) := by decide +kernel
theorem dX5_lesser_9 : decode cX5_lesser 9 = .ok (.iload_n 1, 1) := by decide +kernel
theorem dX5_lesser_10 : decode cX5_lesser 10 = .ok (.ireturn, 1) := by decide +kernel
theorem dX5_roomOf_0 : decode cX5_roomOf 0 = .ok (.aload_n 0, 1) := by decide +kernel
theorem dX5_roomOf_1 : decode cX5_roomOf 1 = .ok (.getfield 13, 3) := by decide +kernel
theorem dX5_roomOf_4 : decode cX5_roomOf 4 = .ok (.iload_n 1, 1) := by decide +kernel
theorem dX5_roomOf_5 : decode cX5_roomOf 5 = .ok (.iaload, 1) := by decide +kernel
theorem dX5_roomOf_6 : decode cX5_roomOf 6 = .ok (.aload_n 0, 1) := by decide +kernel
theorem dX5_roomOf_7 : decode cX5_roomOf 7 = .ok (.getfield 16, 3) := by decide +kernel
theorem dX5_roomOf_10 : decode cX5_roomOf 10 = .ok (.iload_n 1, 1) := by decide +kernel
theorem dX5_roomOf_11 : decode cX5_roomOf 11 = .ok (.iaload, 1) := by decide +kernel
theorem dX5_roomOf_12 : decode cX5_roomOf 12 = .ok (.isub, 1) := by decide +kernel
theorem dX5_roomOf_13 : decode cX5_roomOf 13 = .ok (.ireturn, 1) := by decide +kernel
theorem dX5_leastGas_0 : decode cX5_leastGas 0 = .ok (.iload_n 0, 1) := by decide +kernel
theorem dX5_leastGas_1 : decode cX5_leastGas 1 = .ok (.iload_n 1, 1) := by decide +kernel
theorem dX5_leastGas_2 : decode cX5_leastGas 2 = .ok (.imul, 1) := by decide +kernel
theorem dX5_leastGas_3 : decode cX5_leastGas 3 = .ok (.bipush 99, 2) := by decide +kernel
theorem dX5_leastGas_5 : decode cX5_leastGas 5 = .ok (.iadd, 1) := by decide +kernel
theorem dX5_leastGas_6 : decode cX5_leastGas 6 = .ok (.bipush 100, 2) := by decide +kernel
theorem dX5_leastGas_8 : decode cX5_leastGas 8 = .ok (.idiv, 1) := by decide +kernel
theorem dX5_leastGas_9 : decode cX5_leastGas 9 = .ok (.ireturn, 1) := by decide +kernel
theorem dX5_mostGas_0 : decode cX5_mostGas 0 = .ok (.iload_n 0, 1) := by decide +kernel
theorem dX5_mostGas_1 : decode cX5_mostGas 1 = .ok (.iload_n 1, 1) := by decide +kernel
theorem dX5_mostGas_2 : decode cX5_mostGas 2 = .ok (.imul, 1) := by decide +kernel
theorem dX5_mostGas_3 : decode cX5_mostGas 3 = .ok (.bipush 100, 2) := by decide +kernel
theorem dX5_mostGas_5 : decode cX5_mostGas 5 = .ok (.idiv, 1) := by decide +kernel
theorem dX5_mostGas_6 : decode cX5_mostGas 6 = .ok (.ireturn, 1) := by decide +kernel
theorem dX5_pressureOf_0 : decode cX5_pressureOf 0 = .ok (.bipush 100, 2) := by decide +kernel
theorem dX5_pressureOf_2 : decode cX5_pressureOf 2 = .ok (.aload_n 0, 1) := by decide +kernel
theorem dX5_pressureOf_3 : decode cX5_pressureOf 3 = .ok (.getfield 19, 3) := by decide +kernel
theorem dX5_pressureOf_6 : decode cX5_pressureOf 6 = .ok (.iload_n 1, 1) := by decide +kernel
theorem dX5_pressureOf_7 : decode cX5_pressureOf 7 = .ok (.iaload, 1) := by decide +kernel
theorem dX5_pressureOf_8 : decode cX5_pressureOf 8 = .ok (.imul, 1) := by decide +kernel
theorem dX5_pressureOf_9 : decode cX5_pressureOf 9 = .ok (.aload_n 0, 1) := by decide +kernel
theorem dX5_pressureOf_10 : decode cX5_pressureOf 10 = .ok (.iload_n 1, 1) := by decide +kernel
theorem dX5_pressureOf_11 : decode cX5_pressureOf 11 = .ok (.invokevirtual 115, 3) := by decide +kernel
theorem dX5_pressureOf_14 : decode cX5_pressureOf 14 = .ok (.idiv, 1) := by decide +kernel
theorem dX5_pressureOf_15 : decode cX5_pressureOf 15 = .ok (.ireturn, 1) := by decide +kernel
theorem dX5_rateOf_0 : decode cX5_rateOf 0 = .ok (.aload_n 0, 1) := by decide +kernel
theorem dX5_rateOf_1 : decode cX5_rateOf 1 = .ok (.iload_n 1, 1) := by decide +kernel
theorem dX5_rateOf_2 : decode cX5_rateOf 2 = .ok (.invokevirtual 119, 3) := by decide +kernel
theorem dX5_rateOf_5 : decode cX5_rateOf 5 = .ok (.istore_n 3, 1) := by decide +kernel
theorem dX5_rateOf_6 : decode cX5_rateOf 6 = .ok (.iload_n 2, 1) := by decide +kernel
theorem dX5_rateOf_7 : decode cX5_rateOf 7 = .ok (.ifCond .eq 14, 3) := by decide +kernel
theorem dX5_rateOf_10 : decode cX5_rateOf 10 = .ok (.aload_n 0, 1) := by decide +kernel
theorem dX5_rateOf_11 : decode cX5_rateOf 11 = .ok (.getfield 25, 3) := by decide +kernel
theorem dX5_rateOf_14 : decode cX5_rateOf 14 = .ok (.iload_n 1, 1) := by decide +kernel
theorem dX5_rateOf_15 : decode cX5_rateOf 15 = .ok (.iaload, 1) := by decide +kernel
theorem dX5_rateOf_16 : decode cX5_rateOf 16 = .ok (.iload_n 3, 1) := by decide +kernel
theorem dX5_rateOf_17 : decode cX5_rateOf 17 = .ok (.isub, 1) := by decide +kernel
theorem dX5_rateOf_18 : decode cX5_rateOf 18 = .ok (.goto 11, 3) := by decide +kernel
theorem dX5_rateOf_21 : decode cX5_rateOf 21 = .ok (.iload_n 3, 1) := by decide +kernel
theorem dX5_rateOf_22 : decode cX5_rateOf 22 = .ok (.aload_n 0, 1) := by decide +kernel
theorem dX5_rateOf_23 : decode cX5_rateOf 23 = .ok (.getfield 22, 3) := by decide +kernel
theorem dX5_rateOf_26 : decode cX5_rateOf 26 = .ok (.iload_n 1, 1) := by decide +kernel
theorem dX5_rateOf_27 : decode cX5_rateOf 27 = .ok (.iaload, 1) := by decide +kernel
theorem dX5_rateOf_28 : decode cX5_rateOf 28 = .ok (.isub, 1) := by decide +kernel
theorem dX5_rateOf_29 : decode cX5_rateOf 29 = .ok (.istore 4, 2) := by decide +kernel
theorem dX5_rateOf_31 : decode cX5_rateOf 31 = .ok (.iload_n 2, 1) := by decide +kernel
theorem dX5_rateOf_32 : decode cX5_rateOf 32 = .ok (.ifCond .eq 27, 3) := by decide +kernel
theorem dX5_rateOf_35 : decode cX5_rateOf 35 = .ok (.aload_n 0, 1) := by decide +kernel
theorem dX5_rateOf_36 : decode cX5_rateOf 36 = .ok (.getfield 25, 3) := by decide +kernel
theorem dX5_rateOf_39 : decode cX5_rateOf 39 = .ok (.iload_n 1, 1) := by decide +kernel
theorem dX5_rateOf_40 : decode cX5_rateOf 40 = .ok (.iaload, 1) := by decide +kernel
theorem dX5_rateOf_41 : decode cX5_rateOf 41 = .ok (.aload_n 0, 1) := by decide +kernel
theorem dX5_rateOf_42 : decode cX5_rateOf 42 = .ok (.iload_n 1, 1) := by decide +kernel
theorem dX5_rateOf_43 : decode cX5_rateOf 43 = .ok (.invokevirtual 115, 3) := by decide +kernel
theorem dX5_rateOf_46 : decode cX5_rateOf 46 = .ok (.invokestatic 122, 3) := by decide +kernel
theorem dX5_rateOf_49 : decode cX5_rateOf 49 = .ok (.aload_n 0, 1) := by decide +kernel
theorem dX5_rateOf_50 : decode cX5_rateOf 50 = .ok (.getfield 19, 3) := by decide +kernel
theorem dX5_rateOf_53 : decode cX5_rateOf 53 = .ok (.iload_n 1, 1) := by decide +kernel
theorem dX5_rateOf_54 : decode cX5_rateOf 54 = .ok (.iaload, 1) := by decide +kernel
theorem dX5_rateOf_55 : decode cX5_rateOf 55 = .ok (.isub, 1) := by decide +kernel
theorem dX5_rateOf_56 : decode cX5_rateOf 56 = .ok (.goto 24, 3) := by decide +kernel
theorem dX5_rateOf_59 : decode cX5_rateOf 59 = .ok (.aload_n 0, 1) := by decide +kernel
theorem dX5_rateOf_60 : decode cX5_rateOf 60 = .ok (.getfield 19, 3) := by decide +kernel
theorem dX5_rateOf_63 : decode cX5_rateOf 63 = .ok (.iload_n 1, 1) := by decide +kernel
theorem dX5_rateOf_64 : decode cX5_rateOf 64 = .ok (.iaload, 1) := by decide +kernel
theorem dX5_rateOf_65 : decode cX5_rateOf 65 = .ok (.aload_n 0, 1) := by decide +kernel
theorem dX5_rateOf_66 : decode cX5_rateOf 66 = .ok (.getfield 22, 3) := by decide +kernel
theorem dX5_rateOf_69 : decode cX5_rateOf 69 = .ok (.iload_n 1, 1) := by decide +kernel
theorem dX5_rateOf_70 : decode cX5_rateOf 70 = .ok (.iaload, 1) := by decide +kernel
theorem dX5_rateOf_71 : decode cX5_rateOf 71 = .ok (.aload_n 0, 1) := by decide +kernel
theorem dX5_rateOf_72 : decode cX5_rateOf 72 = .ok (.iload_n 1, 1) := by decide +kernel
theorem dX5_rateOf_73 : decode cX5_rateOf 73 = .ok (.invokevirtual 115, 3) := by decide +kernel
theorem dX5_rateOf_76 : decode cX5_rateOf 76 = .ok (.invokestatic 126, 3) := by decide +kernel
theorem dX5_rateOf_79 : decode cX5_rateOf 79 = .ok (.isub, 1) := by decide +kernel
theorem dX5_rateOf_80 : decode cX5_rateOf 80 = .ok (.istore 5, 2) := by decide +kernel
theorem dX5_rateOf_82 : decode cX5_rateOf 82 = .ok (.iload 4, 2) := by decide +kernel
theorem dX5_rateOf_84 : decode cX5_rateOf 84 = .ok (.ifCond .le 8, 3) := by decide +kernel
theorem dX5_rateOf_87 : decode cX5_rateOf 87 = .ok (.iload 5, 2) := by decide +kernel
theorem dX5_rateOf_89 : decode cX5_rateOf 89 = .ok (.ifCond .gt 5, 3) := by decide +kernel
theorem dX5_rateOf_92 : decode cX5_rateOf 92 = .ok (.iconst 0, 1) := by decide +kernel
theorem dX5_rateOf_93 : decode cX5_rateOf 93 = .ok (.ireturn, 1) := by decide +kernel
theorem dX5_rateOf_94 : decode cX5_rateOf 94 = .ok (.aload_n 0, 1) := by decide +kernel
theorem dX5_rateOf_95 : decode cX5_rateOf 95 = .ok (.getfield 31, 3) := by decide +kernel
theorem dX5_rateOf_98 : decode cX5_rateOf 98 = .ok (.iload_n 1, 1) := by decide +kernel
theorem dX5_rateOf_99 : decode cX5_rateOf 99 = .ok (.iaload, 1) := by decide +kernel
theorem dX5_rateOf_100 : decode cX5_rateOf 100 = .ok (.i2l, 1) := by decide +kernel
theorem dX5_rateOf_101 : decode cX5_rateOf 101 = .ok (.aload_n 0, 1) := by decide +kernel
theorem dX5_rateOf_102 : decode cX5_rateOf 102 = .ok (.getfield 34, 3) := by decide +kernel
theorem dX5_rateOf_105 : decode cX5_rateOf 105 = .ok (.iload_n 1, 1) := by decide +kernel
theorem dX5_rateOf_106 : decode cX5_rateOf 106 = .ok (.iaload, 1) := by decide +kernel
theorem dX5_rateOf_107 : decode cX5_rateOf 107 = .ok (.i2l, 1) := by decide +kernel
theorem dX5_rateOf_108 : decode cX5_rateOf 108 = .ok (.lmul, 1) := by decide +kernel
theorem dX5_rateOf_109 : decode cX5_rateOf 109 = .ok (.iload 4, 2) := by decide +kernel
theorem dX5_rateOf_111 : decode cX5_rateOf 111 = .ok (.i2l, 1) := by decide +kernel
theorem dX5_rateOf_112 : decode cX5_rateOf 112 = .ok (.lmul, 1) := by decide +kernel
theorem dX5_rateOf_113 : decode cX5_rateOf 113 = .ok (.ldc2_w 129, 3) := by decide +kernel
theorem dX5_rateOf_116 : decode cX5_rateOf 116 = .ok (.ldiv, 1) := by decide +kernel
theorem dX5_rateOf_117 : decode cX5_rateOf 117 = .ok (.lstore 6, 2) := by decide +kernel
theorem dX5_rateOf_119 : decode cX5_rateOf 119 = .ok (.lload 6, 2) := by decide +kernel
theorem dX5_rateOf_121 : decode cX5_rateOf 121 = .ok (.iload 5, 2) := by decide +kernel
theorem dX5_rateOf_123 : decode cX5_rateOf 123 = .ok (.i2l, 1) := by decide +kernel
theorem dX5_rateOf_124 : decode cX5_rateOf 124 = .ok (.lcmp, 1) := by decide +kernel
theorem dX5_rateOf_125 : decode cX5_rateOf 125 = .ok (.ifCond .ge 9, 3) := by decide +kernel
theorem dX5_rateOf_128 : decode cX5_rateOf 128 = .ok (.lload 6, 2) := by decide +kernel
theorem dX5_rateOf_130 : decode cX5_rateOf 130 = .ok (.l2i, 1) := by decide +kernel
theorem dX5_rateOf_131 : decode cX5_rateOf 131 = .ok (.goto 5, 3) := by decide +kernel
theorem dX5_rateOf_134 : decode cX5_rateOf 134 = .ok (.iload 5, 2) := by decide +kernel
theorem dX5_rateOf_136 : decode cX5_rateOf 136 = .ok (.ireturn, 1) := by decide +kernel
theorem dX5_store_0 : decode cX5_store 0 = .ok (.iload_n 1, 1) := by decide +kernel
theorem dX5_store_1 : decode cX5_store 1 = .ok (.iconst 0, 1) := by decide +kernel
theorem dX5_store_2 : decode cX5_store 2 = .ok (.iconst 2, 1) := by decide +kernel
theorem dX5_store_3 : decode cX5_store 3 = .ok (.invokestatic 108, 3) := by decide +kernel
theorem dX5_store_6 : decode cX5_store 6 = .ok (.ifCond .eq 53, 3) := by decide +kernel
theorem dX5_store_9 : decode cX5_store 9 = .ok (.iload_n 2, 1) := by decide +kernel
theorem dX5_store_10 : decode cX5_store 10 = .ok (.iconst 1, 1) := by decide +kernel
theorem dX5_store_11 : decode cX5_store 11 = .ok (.ldc 131, 2) := by decide +kernel
theorem dX5_store_13 : decode cX5_store 13 = .ok (.invokestatic 108, 3) := by decide +kernel
theorem dX5_store_16 : decode cX5_store 16 = .ok (.ifCond .eq 43, 3) := by decide +kernel
theorem dX5_store_19 : decode cX5_store 19 = .ok (.iload 4, 2) := by decide +kernel
theorem dX5_store_21 : decode cX5_store 21 = .ok (.iconst 0, 1) := by decide +kernel
theorem dX5_store_22 : decode cX5_store 22 = .ok (.sipush 1000, 3) := by decide +kernel
theorem dX5_store_25 : decode cX5_store 25 = .ok (.invokestatic 108, 3) := by decide +kernel
theorem dX5_store_28 : decode cX5_store 28 = .ok (.ifCond .eq 31, 3) := by decide +kernel
theorem dX5_store_31 : decode cX5_store 31 = .ok (.iload 5, 2) := by decide +kernel
theorem dX5_store_33 : decode cX5_store 33 = .ok (.iload 4, 2) := by decide +kernel
theorem dX5_store_35 : decode cX5_store 35 = .ok (.sipush 1000, 3) := by decide +kernel
theorem dX5_store_38 : decode cX5_store 38 = .ok (.invokestatic 108, 3) := by decide +kernel
theorem dX5_store_41 : decode cX5_store 41 = .ok (.ifCond .eq 18, 3) := by decide +kernel
theorem dX5_store_44 : decode cX5_store 44 = .ok (.iload 6, 2) := by decide +kernel
theorem dX5_store_46 : decode cX5_store 46 = .ok (.iconst 0, 1) := by decide +kernel
theorem dX5_store_47 : decode cX5_store 47 = .ok (.ldc 132, 2) := by decide +kernel
theorem dX5_store_49 : decode cX5_store 49 = .ok (.invokestatic 108, 3) := by decide +kernel
theorem dX5_store_52 : decode cX5_store 52 = .ok (.ifCond .eq 7, 3) := by decide +kernel
theorem dX5_store_55 : decode cX5_store 55 = .ok (.iconst 1, 1) := by decide +kernel
theorem dX5_store_56 : decode cX5_store 56 = .ok (.goto 4, 3) := by decide +kernel
theorem dX5_store_59 : decode cX5_store 59 = .ok (.iconst 0, 1) := by decide +kernel
theorem dX5_store_60 : decode cX5_store 60 = .ok (.istore 7, 2) := by decide +kernel
theorem dX5_store_62 : decode cX5_store 62 = .ok (.iload 7, 2) := by decide +kernel
theorem dX5_store_64 : decode cX5_store 64 = .ok (.ifCond .eq 26, 3) := by decide +kernel
theorem dX5_store_67 : decode cX5_store 67 = .ok (.iload_n 3, 1) := by decide +kernel
theorem dX5_store_68 : decode cX5_store 68 = .ok (.iload 4, 2) := by decide +kernel
theorem dX5_store_70 : decode cX5_store 70 = .ok (.iload_n 2, 1) := by decide +kernel
theorem dX5_store_71 : decode cX5_store 71 = .ok (.invokestatic 126, 3) := by decide +kernel
theorem dX5_store_74 : decode cX5_store 74 = .ok (.iload 5, 2) := by decide +kernel
theorem dX5_store_76 : decode cX5_store 76 = .ok (.iload_n 2, 1) := by decide +kernel
theorem dX5_store_77 : decode cX5_store 77 = .ok (.invokestatic 122, 3) := by decide +kernel
theorem dX5_store_80 : decode cX5_store 80 = .ok (.invokestatic 108, 3) := by decide +kernel
theorem dX5_store_83 : decode cX5_store 83 = .ok (.ifCond .eq 7, 3) := by decide +kernel
theorem dX5_store_86 : decode cX5_store 86 = .ok (.iconst 1, 1) := by decide +kernel
theorem dX5_store_87 : decode cX5_store 87 = .ok (.goto 4, 3) := by decide +kernel
theorem dX5_store_90 : decode cX5_store 90 = .ok (.iconst 0, 1) := by decide +kernel
theorem dX5_store_91 : decode cX5_store 91 = .ok (.istore 8, 2) := by decide +kernel
theorem dX5_store_93 : decode cX5_store 93 = .ok (.aload_n 0, 1) := by decide +kernel
theorem dX5_store_94 : decode cX5_store 94 = .ok (.iload 8, 2) := by decide +kernel
theorem dX5_store_96 : decode cX5_store 96 = .ok (.ifCond .ne 7, 3) := by decide +kernel
theorem dX5_store_99 : decode cX5_store 99 = .ok (.iconst 1, 1) := by decide +kernel
theorem dX5_store_100 : decode cX5_store 100 = .ok (.goto 16, 3) := by decide +kernel
theorem dX5_store_103 : decode cX5_store 103 = .ok (.aload_n 0, 1) := by decide +kernel
theorem dX5_store_104 : decode cX5_store 104 = .ok (.getfield 105, 3) := by decide +kernel
theorem dX5_store_107 : decode cX5_store 107 = .ok (.iconst 5, 1) := by decide +kernel
theorem dX5_store_108 : decode cX5_store 108 = .ok (.if_icmp .ne 7, 3) := by decide +kernel
theorem dX5_store_111 : decode cX5_store 111 = .ok (.iconst 2, 1) := by decide +kernel
theorem dX5_store_112 : decode cX5_store 112 = .ok (.goto 4, 3) := by decide +kernel
theorem dX5_store_115 : decode cX5_store 115 = .ok (.iconst 0, 1) := by decide +kernel
theorem dX5_store_116 : decode cX5_store 116 = .ok (.invokevirtual 133, 3) := by decide +kernel
theorem dX5_store_119 : decode cX5_store 119 = .ok (.ifCond .ne 5, 3) := by decide +kernel
theorem dX5_store_122 : decode cX5_store 122 = .ok (.iconst 0, 1) := by decide +kernel
theorem dX5_store_123 : decode cX5_store 123 = .ok (.ireturn, 1) := by decide +kernel
theorem dX5_store_124 : decode cX5_store 124 = .ok (.aload_n 0, 1) := by decide +kernel
theorem dX5_store_125 : decode cX5_store 125 = .ok (.getfield 7, 3) := by decide +kernel
theorem dX5_store_128 : decode cX5_store 128 = .ok (.aload_n 0, 1) := by decide +kernel
theorem dX5_store_129 : decode cX5_store 129 = .ok (.getfield 105, 3) := by decide +kernel
theorem dX5_store_132 : decode cX5_store 132 = .ok (.iload_n 1, 1) := by decide +kernel
theorem dX5_store_133 : decode cX5_store 133 = .ok (.iastore, 1) := by decide +kernel
theorem dX5_store_134 : decode cX5_store 134 = .ok (.aload_n 0, 1) := by decide +kernel
theorem dX5_store_135 : decode cX5_store 135 = .ok (.getfield 13, 3) := by decide +kernel
theorem dX5_store_138 : decode cX5_store 138 = .ok (.aload_n 0, 1) := by decide +kernel
theorem dX5_store_139 : decode cX5_store 139 = .ok (.getfield 105, 3) := by decide +kernel
theorem dX5_store_142 : decode cX5_store 142 = .ok (.iload_n 2, 1) := by decide +kernel
theorem dX5_store_143 : decode cX5_store 143 = .ok (.iastore, 1) := by decide +kernel
theorem dX5_store_144 : decode cX5_store 144 = .ok (.aload_n 0, 1) := by decide +kernel
theorem dX5_store_145 : decode cX5_store 145 = .ok (.getfield 19, 3) := by decide +kernel
theorem dX5_store_148 : decode cX5_store 148 = .ok (.aload_n 0, 1) := by decide +kernel
theorem dX5_store_149 : decode cX5_store 149 = .ok (.getfield 105, 3) := by decide +kernel
theorem dX5_store_152 : decode cX5_store 152 = .ok (.iload_n 3, 1) := by decide +kernel
theorem dX5_store_153 : decode cX5_store 153 = .ok (.iastore, 1) := by decide +kernel
theorem dX5_store_154 : decode cX5_store 154 = .ok (.aload_n 0, 1) := by decide +kernel
theorem dX5_store_155 : decode cX5_store 155 = .ok (.getfield 22, 3) := by decide +kernel
theorem dX5_store_158 : decode cX5_store 158 = .ok (.aload_n 0, 1) := by decide +kernel
theorem dX5_store_159 : decode cX5_store 159 = .ok (.getfield 105, 3) := by decide +kernel
theorem dX5_store_162 : decode cX5_store 162 = .ok (.iload 4, 2) := by decide +kernel
theorem dX5_store_164 : decode cX5_store 164 = .ok (.iastore, 1) := by decide +kernel
theorem dX5_store_165 : decode cX5_store 165 = .ok (.aload_n 0, 1) := by decide +kernel
theorem dX5_store_166 : decode cX5_store 166 = .ok (.getfield 25, 3) := by decide +kernel
theorem dX5_store_169 : decode cX5_store 169 = .ok (.aload_n 0, 1) := by decide +kernel
theorem dX5_store_170 : decode cX5_store 170 = .ok (.getfield 105, 3) := by decide +kernel
theorem dX5_store_173 : decode cX5_store 173 = .ok (.iload 5, 2) := by decide +kernel
theorem dX5_store_175 : decode cX5_store 175 = .ok (.iastore, 1) := by decide +kernel
theorem dX5_store_176 : decode cX5_store 176 = .ok (.aload_n 0, 1) := by decide +kernel
theorem dX5_store_177 : decode cX5_store 177 = .ok (.getfield 28, 3) := by decide +kernel
theorem dX5_store_180 : decode cX5_store 180 = .ok (.aload_n 0, 1) := by decide +kernel
theorem dX5_store_181 : decode cX5_store 181 = .ok (.getfield 105, 3) := by decide +kernel
theorem dX5_store_184 : decode cX5_store 184 = .ok (.iload 6, 2) := by decide +kernel
theorem dX5_store_186 : decode cX5_store 186 = .ok (.iastore, 1) := by decide +kernel
theorem dX5_store_187 : decode cX5_store 187 = .ok (.aload_n 0, 1) := by decide +kernel
theorem dX5_store_188 : decode cX5_store 188 = .ok (.getfield 40, 3) := by decide +kernel
theorem dX5_store_191 : decode cX5_store 191 = .ok (.aload_n 0, 1) := by decide +kernel
theorem dX5_store_192 : decode cX5_store 192 = .ok (.getfield 105, 3) := by decide +kernel
theorem dX5_store_195 : decode cX5_store 195 = .ok (.iload_n 3, 1) := by decide +kernel
theorem dX5_store_196 : decode cX5_store 196 = .ok (.i2l, 1) := by decide +kernel
theorem dX5_store_197 : decode cX5_store 197 = .ok (.aload_n 0, 1) := by decide +kernel
theorem dX5_store_198 : decode cX5_store 198 = .ok (.getfield 47, 3) := by decide +kernel
theorem dX5_store_201 : decode cX5_store 201 = .ok (.i2l, 1) := by decide +kernel
theorem dX5_store_202 : decode cX5_store 202 = .ok (.lmul, 1) := by decide +kernel
theorem dX5_store_203 : decode cX5_store 203 = .ok (.lastore, 1) := by decide +kernel
theorem dX5_store_204 : decode cX5_store 204 = .ok (.aload_n 0, 1) := by decide +kernel
theorem dX5_store_205 : decode cX5_store 205 = .ok (.dup, 1) := by decide +kernel
theorem dX5_store_206 : decode cX5_store 206 = .ok (.getfield 136, 3) := by decide +kernel
theorem dX5_store_209 : decode cX5_store 209 = .ok (.iload_n 3, 1) := by decide +kernel
theorem dX5_store_210 : decode cX5_store 210 = .ok (.i2l, 1) := by decide +kernel
theorem dX5_store_211 : decode cX5_store 211 = .ok (.ladd, 1) := by decide +kernel
theorem dX5_store_212 : decode cX5_store 212 = .ok (.putfield 136, 3) := by decide +kernel
theorem dX5_store_215 : decode cX5_store 215 = .ok (.aload_n 0, 1) := by decide +kernel
theorem dX5_store_216 : decode cX5_store 216 = .ok (.dup, 1) := by decide +kernel
theorem dX5_store_217 : decode cX5_store 217 = .ok (.getfield 105, 3) := by decide +kernel
theorem dX5_store_220 : decode cX5_store 220 = .ok (.iconst 1, 1) := by decide +kernel
theorem dX5_store_221 : decode cX5_store 221 = .ok (.iadd, 1) := by decide +kernel
theorem dX5_store_222 : decode cX5_store 222 = .ok (.putfield 105, 3) := by decide +kernel
theorem dX5_store_225 : decode cX5_store 225 = .ok (.aload_n 0, 1) := by decide +kernel
theorem dX5_store_226 : decode cX5_store 226 = .ok (.getfield 105, 3) := by decide +kernel
theorem dX5_store_229 : decode cX5_store 229 = .ok (.iconst 1, 1) := by decide +kernel
theorem dX5_store_230 : decode cX5_store 230 = .ok (.isub, 1) := by decide +kernel
theorem dX5_store_231 : decode cX5_store 231 = .ok (.ireturn, 1) := by decide +kernel
theorem dX5_wells_0 : decode cX5_wells 0 = .ok (.iload_n 2, 1) := by decide +kernel
theorem dX5_wells_1 : decode cX5_wells 1 = .ok (.iconst 0, 1) := by decide +kernel
theorem dX5_wells_2 : decode cX5_wells 2 = .ok (.bipush 100, 2) := by decide +kernel
theorem dX5_wells_4 : decode cX5_wells 4 = .ok (.invokestatic 108, 3) := by decide +kernel
theorem dX5_wells_7 : decode cX5_wells 7 = .ok (.ifCond .eq 18, 3) := by decide +kernel
theorem dX5_wells_10 : decode cX5_wells 10 = .ok (.iload_n 3, 1) := by decide +kernel
theorem dX5_wells_11 : decode cX5_wells 11 = .ok (.iconst 0, 1) := by decide +kernel
theorem dX5_wells_12 : decode cX5_wells 12 = .ok (.sipush 1000, 3) := by decide +kernel
theorem dX5_wells_15 : decode cX5_wells 15 = .ok (.invokestatic 108, 3) := by decide +kernel
theorem dX5_wells_18 : decode cX5_wells 18 = .ok (.ifCond .eq 7, 3) := by decide +kernel
theorem dX5_wells_21 : decode cX5_wells 21 = .ok (.iconst 1, 1) := by decide +kernel
theorem dX5_wells_22 : decode cX5_wells 22 = .ok (.goto 4, 3) := by decide +kernel
theorem dX5_wells_25 : decode cX5_wells 25 = .ok (.iconst 0, 1) := by decide +kernel
theorem dX5_wells_26 : decode cX5_wells 26 = .ok (.istore 4, 2) := by decide +kernel
theorem dX5_wells_28 : decode cX5_wells 28 = .ok (.aload_n 0, 1) := by decide +kernel
theorem dX5_wells_29 : decode cX5_wells 29 = .ok (.aload_n 0, 1) := by decide +kernel
theorem dX5_wells_30 : decode cX5_wells 30 = .ok (.iload_n 1, 1) := by decide +kernel
theorem dX5_wells_31 : decode cX5_wells 31 = .ok (.invokevirtual 140, 3) := by decide +kernel
theorem dX5_wells_34 : decode cX5_wells 34 = .ok (.ifCond .ne 7, 3) := by decide +kernel
theorem dX5_wells_37 : decode cX5_wells 37 = .ok (.iconst 1, 1) := by decide +kernel
theorem dX5_wells_38 : decode cX5_wells 38 = .ok (.goto 13, 3) := by decide +kernel
theorem dX5_wells_41 : decode cX5_wells 41 = .ok (.iload 4, 2) := by decide +kernel
theorem dX5_wells_43 : decode cX5_wells 43 = .ok (.ifCond .eq 7, 3) := by decide +kernel
theorem dX5_wells_46 : decode cX5_wells 46 = .ok (.iconst 0, 1) := by decide +kernel
theorem dX5_wells_47 : decode cX5_wells 47 = .ok (.goto 4, 3) := by decide +kernel
theorem dX5_wells_50 : decode cX5_wells 50 = .ok (.iconst 2, 1) := by decide +kernel
theorem dX5_wells_51 : decode cX5_wells 51 = .ok (.invokevirtual 133, 3) := by decide +kernel
theorem dX5_wells_54 : decode cX5_wells 54 = .ok (.ifCond .ne 5, 3) := by decide +kernel
theorem dX5_wells_57 : decode cX5_wells 57 = .ok (.iconst 0, 1) := by decide +kernel
theorem dX5_wells_58 : decode cX5_wells 58 = .ok (.ireturn, 1) := by decide +kernel
theorem dX5_wells_59 : decode cX5_wells 59 = .ok (.aload_n 0, 1) := by decide +kernel
theorem dX5_wells_60 : decode cX5_wells 60 = .ok (.getfield 31, 3) := by decide +kernel
theorem dX5_wells_63 : decode cX5_wells 63 = .ok (.iload_n 1, 1) := by decide +kernel
theorem dX5_wells_64 : decode cX5_wells 64 = .ok (.iload_n 2, 1) := by decide +kernel
theorem dX5_wells_65 : decode cX5_wells 65 = .ok (.iastore, 1) := by decide +kernel
theorem dX5_wells_66 : decode cX5_wells 66 = .ok (.aload_n 0, 1) := by decide +kernel
theorem dX5_wells_67 : decode cX5_wells 67 = .ok (.getfield 34, 3) := by decide +kernel
theorem dX5_wells_70 : decode cX5_wells 70 = .ok (.iload_n 1, 1) := by decide +kernel
theorem dX5_wells_71 : decode cX5_wells 71 = .ok (.iload_n 3, 1) := by decide +kernel
theorem dX5_wells_72 : decode cX5_wells 72 = .ok (.iastore, 1) := by decide +kernel
theorem dX5_wells_73 : decode cX5_wells 73 = .ok (.aload_n 0, 1) := by decide +kernel
theorem dX5_wells_74 : decode cX5_wells 74 = .ok (.iload_n 1, 1) := by decide +kernel
theorem dX5_wells_75 : decode cX5_wells 75 = .ok (.iconst 0, 1) := by decide +kernel
theorem dX5_wells_76 : decode cX5_wells 76 = .ok (.invokevirtual 143, 3) := by decide +kernel
theorem dX5_wells_79 : decode cX5_wells 79 = .ok (.ireturn, 1) := by decide +kernel
theorem dX5_leak_0 : decode cX5_leak 0 = .ok (.aload_n 0, 1) := by decide +kernel
theorem dX5_leak_1 : decode cX5_leak 1 = .ok (.aload_n 0, 1) := by decide +kernel
theorem dX5_leak_2 : decode cX5_leak 2 = .ok (.iload_n 1, 1) := by decide +kernel
theorem dX5_leak_3 : decode cX5_leak 3 = .ok (.invokevirtual 140, 3) := by decide +kernel
theorem dX5_leak_6 : decode cX5_leak 6 = .ok (.ifCond .ne 7, 3) := by decide +kernel
theorem dX5_leak_9 : decode cX5_leak 9 = .ok (.iconst 1, 1) := by decide +kernel
theorem dX5_leak_10 : decode cX5_leak 10 = .ok (.goto 19, 3) := by decide +kernel
theorem dX5_leak_13 : decode cX5_leak 13 = .ok (.iload_n 2, 1) := by decide +kernel
theorem dX5_leak_14 : decode cX5_leak 14 = .ok (.iconst 0, 1) := by decide +kernel
theorem dX5_leak_15 : decode cX5_leak 15 = .ok (.sipush 1000, 3) := by decide +kernel
theorem dX5_leak_18 : decode cX5_leak 18 = .ok (.invokestatic 108, 3) := by decide +kernel
theorem dX5_leak_21 : decode cX5_leak 21 = .ok (.ifCond .eq 7, 3) := by decide +kernel
theorem dX5_leak_24 : decode cX5_leak 24 = .ok (.iconst 0, 1) := by decide +kernel
theorem dX5_leak_25 : decode cX5_leak 25 = .ok (.goto 4, 3) := by decide +kernel
theorem dX5_leak_28 : decode cX5_leak 28 = .ok (.iconst 2, 1) := by decide +kernel
theorem dX5_leak_29 : decode cX5_leak 29 = .ok (.invokevirtual 133, 3) := by decide +kernel
theorem dX5_leak_32 : decode cX5_leak 32 = .ok (.ifCond .ne 5, 3) := by decide +kernel
theorem dX5_leak_35 : decode cX5_leak 35 = .ok (.iconst 0, 1) := by decide +kernel
theorem dX5_leak_36 : decode cX5_leak 36 = .ok (.ireturn, 1) := by decide +kernel
theorem dX5_leak_37 : decode cX5_leak 37 = .ok (.aload_n 0, 1) := by decide +kernel
theorem dX5_leak_38 : decode cX5_leak 38 = .ok (.getfield 37, 3) := by decide +kernel
theorem dX5_leak_41 : decode cX5_leak 41 = .ok (.iload_n 1, 1) := by decide +kernel
theorem dX5_leak_42 : decode cX5_leak 42 = .ok (.iaload, 1) := by decide +kernel
theorem dX5_leak_43 : decode cX5_leak 43 = .ok (.istore_n 3, 1) := by decide +kernel
theorem dX5_leak_44 : decode cX5_leak 44 = .ok (.aload_n 0, 1) := by decide +kernel
theorem dX5_leak_45 : decode cX5_leak 45 = .ok (.getfield 37, 3) := by decide +kernel
theorem dX5_leak_48 : decode cX5_leak 48 = .ok (.iload_n 1, 1) := by decide +kernel
theorem dX5_leak_49 : decode cX5_leak 49 = .ok (.iload_n 2, 1) := by decide +kernel
theorem dX5_leak_50 : decode cX5_leak 50 = .ok (.iastore, 1) := by decide +kernel
theorem dX5_leak_51 : decode cX5_leak 51 = .ok (.iload_n 3, 1) := by decide +kernel
theorem dX5_leak_52 : decode cX5_leak 52 = .ok (.ireturn, 1) := by decide +kernel
theorem dX5_leach_0 : decode cX5_leach 0 = .ok (.aload_n 0, 1) := by decide +kernel
theorem dX5_leach_1 : decode cX5_leach 1 = .ok (.iload_n 1, 1) := by decide +kernel
theorem dX5_leach_2 : decode cX5_leach 2 = .ok (.invokevirtual 140, 3) := by decide +kernel
theorem dX5_leach_5 : decode cX5_leach 5 = .ok (.istore_n 3, 1) := by decide +kernel
theorem dX5_leach_6 : decode cX5_leach 6 = .ok (.iload_n 2, 1) := by decide +kernel
theorem dX5_leach_7 : decode cX5_leach 7 = .ok (.iconst 1, 1) := by decide +kernel
theorem dX5_leach_8 : decode cX5_leach 8 = .ok (.ldc 131, 2) := by decide +kernel
theorem dX5_leach_10 : decode cX5_leach 10 = .ok (.invokestatic 108, 3) := by decide +kernel
theorem dX5_leach_13 : decode cX5_leach 13 = .ok (.istore 4, 2) := by decide +kernel
theorem dX5_leach_15 : decode cX5_leach 15 = .ok (.iload_n 3, 1) := by decide +kernel
theorem dX5_leach_16 : decode cX5_leach 16 = .ok (.ifCond .eq 44, 3) := by decide +kernel
theorem dX5_leach_19 : decode cX5_leach 19 = .ok (.iload 4, 2) := by decide +kernel
theorem dX5_leach_21 : decode cX5_leach 21 = .ok (.ifCond .eq 39, 3) := by decide +kernel
theorem dX5_leach_24 : decode cX5_leach 24 = .ok (.aload_n 0, 1) := by decide +kernel
theorem dX5_leach_25 : decode cX5_leach 25 = .ok (.getfield 7, 3) := by decide +kernel
theorem dX5_leach_28 : decode cX5_leach 28 = .ok (.iload_n 1, 1) := by decide +kernel
theorem dX5_leach_29 : decode cX5_leach 29 = .ok (.iaload, 1) := by decide +kernel
theorem dX5_leach_30 : decode cX5_leach 30 = .ok (.iconst 1, 1) := by decide +kernel
theorem dX5_leach_31 : decode cX5_leach 31 = .ok (.if_icmp .ne 29, 3) := by decide +kernel
theorem dX5_leach_34 : decode cX5_leach 34 = .ok (.aload_n 0, 1) := by decide +kernel
theorem dX5_leach_35 : decode cX5_leach 35 = .ok (.getfield 19, 3) := by decide +kernel
theorem dX5_leach_38 : decode cX5_leach 38 = .ok (.iload_n 1, 1) := by decide +kernel
theorem dX5_leach_39 : decode cX5_leach 39 = .ok (.iaload, 1) := by decide +kernel
theorem dX5_leach_40 : decode cX5_leach 40 = .ok (.ifCond .ne 20, 3) := by decide +kernel
theorem dX5_leach_43 : decode cX5_leach 43 = .ok (.aload_n 0, 1) := by decide +kernel
theorem dX5_leach_44 : decode cX5_leach 44 = .ok (.getfield 13, 3) := by decide +kernel
theorem dX5_leach_47 : decode cX5_leach 47 = .ok (.iload_n 1, 1) := by decide +kernel
theorem dX5_leach_48 : decode cX5_leach 48 = .ok (.iaload, 1) := by decide +kernel
theorem dX5_leach_49 : decode cX5_leach 49 = .ok (.iload_n 2, 1) := by decide +kernel
theorem dX5_leach_50 : decode cX5_leach 50 = .ok (.iadd, 1) := by decide +kernel
theorem dX5_leach_51 : decode cX5_leach 51 = .ok (.ldc 131, 2) := by decide +kernel
theorem dX5_leach_53 : decode cX5_leach 53 = .ok (.if_icmp .gt 7, 3) := by decide +kernel
theorem dX5_leach_56 : decode cX5_leach 56 = .ok (.iconst 1, 1) := by decide +kernel
theorem dX5_leach_57 : decode cX5_leach 57 = .ok (.goto 4, 3) := by decide +kernel
theorem dX5_leach_60 : decode cX5_leach 60 = .ok (.iconst 0, 1) := by decide +kernel
theorem dX5_leach_61 : decode cX5_leach 61 = .ok (.istore 5, 2) := by decide +kernel
theorem dX5_leach_63 : decode cX5_leach 63 = .ok (.aload_n 0, 1) := by decide +kernel
theorem dX5_leach_64 : decode cX5_leach 64 = .ok (.iload_n 3, 1) := by decide +kernel
theorem dX5_leach_65 : decode cX5_leach 65 = .ok (.ifCond .ne 7, 3) := by decide +kernel
theorem dX5_leach_68 : decode cX5_leach 68 = .ok (.iconst 1, 1) := by decide +kernel
theorem dX5_leach_69 : decode cX5_leach 69 = .ok (.goto 22, 3) := by decide +kernel
theorem dX5_leach_72 : decode cX5_leach 72 = .ok (.iload 4, 2) := by decide +kernel
theorem dX5_leach_74 : decode cX5_leach 74 = .ok (.ifCond .ne 7, 3) := by decide +kernel
theorem dX5_leach_77 : decode cX5_leach 77 = .ok (.iconst 2, 1) := by decide +kernel
theorem dX5_leach_78 : decode cX5_leach 78 = .ok (.goto 13, 3) := by decide +kernel
theorem dX5_leach_81 : decode cX5_leach 81 = .ok (.iload 5, 2) := by decide +kernel
theorem dX5_leach_83 : decode cX5_leach 83 = .ok (.ifCond .eq 7, 3) := by decide +kernel
theorem dX5_leach_86 : decode cX5_leach 86 = .ok (.iconst 0, 1) := by decide +kernel
theorem dX5_leach_87 : decode cX5_leach 87 = .ok (.goto 4, 3) := by decide +kernel
theorem dX5_leach_90 : decode cX5_leach 90 = .ok (.iconst 3, 1) := by decide +kernel
theorem dX5_leach_91 : decode cX5_leach 91 = .ok (.invokevirtual 133, 3) := by decide +kernel
theorem dX5_leach_94 : decode cX5_leach 94 = .ok (.ifCond .ne 5, 3) := by decide +kernel
theorem dX5_leach_97 : decode cX5_leach 97 = .ok (.iconst 0, 1) := by decide +kernel
theorem dX5_leach_98 : decode cX5_leach 98 = .ok (.ireturn, 1) := by decide +kernel
theorem dX5_leach_99 : decode cX5_leach 99 = .ok (.aload_n 0, 1) := by decide +kernel
theorem dX5_leach_100 : decode cX5_leach 100 = .ok (.getfield 13, 3) := by decide +kernel
theorem dX5_leach_103 : decode cX5_leach 103 = .ok (.iload_n 1, 1) := by decide +kernel
theorem dX5_leach_104 : decode cX5_leach 104 = .ok (.dup2, 1) := by decide +kernel
theorem dX5_leach_105 : decode cX5_leach 105 = .ok (.iaload, 1) := by decide +kernel
theorem dX5_leach_106 : decode cX5_leach 106 = .ok (.iload_n 2, 1) := by decide +kernel
theorem dX5_leach_107 : decode cX5_leach 107 = .ok (.iadd, 1) := by decide +kernel
theorem dX5_leach_108 : decode cX5_leach 108 = .ok (.iastore, 1) := by decide +kernel
theorem dX5_leach_109 : decode cX5_leach 109 = .ok (.aload_n 0, 1) := by decide +kernel
theorem dX5_leach_110 : decode cX5_leach 110 = .ok (.getfield 13, 3) := by decide +kernel
theorem dX5_leach_113 : decode cX5_leach 113 = .ok (.iload_n 1, 1) := by decide +kernel
theorem dX5_leach_114 : decode cX5_leach 114 = .ok (.iaload, 1) := by decide +kernel
theorem dX5_leach_115 : decode cX5_leach 115 = .ok (.ireturn, 1) := by decide +kernel
theorem dX5_heat_0 : decode cX5_heat 0 = .ok (.aload_n 0, 1) := by decide +kernel
theorem dX5_heat_1 : decode cX5_heat 1 = .ok (.iload_n 1, 1) := by decide +kernel
theorem dX5_heat_2 : decode cX5_heat 2 = .ok (.iconst 0, 1) := by decide +kernel
theorem dX5_heat_3 : decode cX5_heat 3 = .ok (.sipush 20000, 3) := by decide +kernel
theorem dX5_heat_6 : decode cX5_heat 6 = .ok (.invokestatic 108, 3) := by decide +kernel
theorem dX5_heat_9 : decode cX5_heat 9 = .ok (.ifCond .eq 7, 3) := by decide +kernel
theorem dX5_heat_12 : decode cX5_heat 12 = .ok (.iconst 0, 1) := by decide +kernel
theorem dX5_heat_13 : decode cX5_heat 13 = .ok (.goto 4, 3) := by decide +kernel
theorem dX5_heat_16 : decode cX5_heat 16 = .ok (.iconst 1, 1) := by decide +kernel
theorem dX5_heat_17 : decode cX5_heat 17 = .ok (.invokevirtual 133, 3) := by decide +kernel
theorem dX5_heat_20 : decode cX5_heat 20 = .ok (.ifCond .ne 5, 3) := by decide +kernel
theorem dX5_heat_23 : decode cX5_heat 23 = .ok (.iconst 0, 1) := by decide +kernel
theorem dX5_heat_24 : decode cX5_heat 24 = .ok (.ireturn, 1) := by decide +kernel
theorem dX5_heat_25 : decode cX5_heat 25 = .ok (.aload_n 0, 1) := by decide +kernel
theorem dX5_heat_26 : decode cX5_heat 26 = .ok (.getfield 47, 3) := by decide +kernel
theorem dX5_heat_29 : decode cX5_heat 29 = .ok (.istore_n 2, 1) := by decide +kernel
theorem dX5_heat_30 : decode cX5_heat 30 = .ok (.aload_n 0, 1) := by decide +kernel
theorem dX5_heat_31 : decode cX5_heat 31 = .ok (.iload_n 1, 1) := by decide +kernel
theorem dX5_heat_32 : decode cX5_heat 32 = .ok (.putfield 47, 3) := by decide +kernel
theorem dX5_heat_35 : decode cX5_heat 35 = .ok (.iload_n 2, 1) := by decide +kernel
theorem dX5_heat_36 : decode cX5_heat 36 = .ok (.ireturn, 1) := by decide +kernel
theorem dX5_customer_0 : decode cX5_customer 0 = .ok (.iload_n 1, 1) := by decide +kernel
theorem dX5_customer_1 : decode cX5_customer 1 = .ok (.iconst 1, 1) := by decide +kernel
theorem dX5_customer_2 : decode cX5_customer 2 = .ok (.ldc 132, 2) := by decide +kernel
theorem dX5_customer_4 : decode cX5_customer 4 = .ok (.invokestatic 108, 3) := by decide +kernel
theorem dX5_customer_7 : decode cX5_customer 7 = .ok (.ifCond .eq 37, 3) := by decide +kernel
theorem dX5_customer_10 : decode cX5_customer 10 = .ok (.iload_n 2, 1) := by decide +kernel
theorem dX5_customer_11 : decode cX5_customer 11 = .ok (.iconst 0, 1) := by decide +kernel
theorem dX5_customer_12 : decode cX5_customer 12 = .ok (.ldc 131, 2) := by decide +kernel
theorem dX5_customer_14 : decode cX5_customer 14 = .ok (.invokestatic 108, 3) := by decide +kernel
theorem dX5_customer_17 : decode cX5_customer 17 = .ok (.ifCond .eq 27, 3) := by decide +kernel
theorem dX5_customer_20 : decode cX5_customer 20 = .ok (.iload_n 3, 1) := by decide +kernel
theorem dX5_customer_21 : decode cX5_customer 21 = .ok (.iconst 0, 1) := by decide +kernel
theorem dX5_customer_22 : decode cX5_customer 22 = .ok (.ldc 131, 2) := by decide +kernel
theorem dX5_customer_24 : decode cX5_customer 24 = .ok (.invokestatic 108, 3) := by decide +kernel
theorem dX5_customer_27 : decode cX5_customer 27 = .ok (.ifCond .eq 17, 3) := by decide +kernel
theorem dX5_customer_30 : decode cX5_customer 30 = .ok (.iload 4, 2) := by decide +kernel
theorem dX5_customer_32 : decode cX5_customer 32 = .ok (.iconst 0, 1) := by decide +kernel
theorem dX5_customer_33 : decode cX5_customer 33 = .ok (.iconst 3, 1) := by decide +kernel
theorem dX5_customer_34 : decode cX5_customer 34 = .ok (.invokestatic 108, 3) := by decide +kernel
theorem dX5_customer_37 : decode cX5_customer 37 = .ok (.ifCond .eq 7, 3) := by decide +kernel
theorem dX5_customer_40 : decode cX5_customer 40 = .ok (.iconst 1, 1) := by decide +kernel
theorem dX5_customer_41 : decode cX5_customer 41 = .ok (.goto 4, 3) := by decide +kernel
theorem dX5_customer_44 : decode cX5_customer 44 = .ok (.iconst 0, 1) := by decide +kernel
theorem dX5_customer_45 : decode cX5_customer 45 = .ok (.istore 5, 2) := by decide +kernel
theorem dX5_customer_47 : decode cX5_customer 47 = .ok (.aload_n 0, 1) := by decide +kernel
theorem dX5_customer_48 : decode cX5_customer 48 = .ok (.iload 5, 2) := by decide +kernel
theorem dX5_customer_50 : decode cX5_customer 50 = .ok (.ifCond .ne 7, 3) := by decide +kernel
theorem dX5_customer_53 : decode cX5_customer 53 = .ok (.iconst 1, 1) := by decide +kernel
theorem dX5_customer_54 : decode cX5_customer 54 = .ok (.goto 17, 3) := by decide +kernel
theorem dX5_customer_57 : decode cX5_customer 57 = .ok (.aload_n 0, 1) := by decide +kernel
theorem dX5_customer_58 : decode cX5_customer 58 = .ok (.getfield 112, 3) := by decide +kernel
theorem dX5_customer_61 : decode cX5_customer 61 = .ok (.bipush 6, 2) := by decide +kernel
theorem dX5_customer_63 : decode cX5_customer 63 = .ok (.if_icmp .ne 7, 3) := by decide +kernel
theorem dX5_customer_66 : decode cX5_customer 66 = .ok (.iconst 2, 1) := by decide +kernel
theorem dX5_customer_67 : decode cX5_customer 67 = .ok (.goto 4, 3) := by decide +kernel
theorem dX5_customer_70 : decode cX5_customer 70 = .ok (.iconst 0, 1) := by decide +kernel
theorem dX5_customer_71 : decode cX5_customer 71 = .ok (.invokevirtual 133, 3) := by decide +kernel
theorem dX5_customer_74 : decode cX5_customer 74 = .ok (.ifCond .ne 5, 3) := by decide +kernel
theorem dX5_customer_77 : decode cX5_customer 77 = .ok (.iconst 0, 1) := by decide +kernel
theorem dX5_customer_78 : decode cX5_customer 78 = .ok (.ireturn, 1) := by decide +kernel
theorem dX5_customer_79 : decode cX5_customer 79 = .ok (.aload_n 0, 1) := by decide +kernel
theorem dX5_customer_80 : decode cX5_customer 80 = .ok (.getfield 51, 3) := by decide +kernel
theorem dX5_customer_83 : decode cX5_customer 83 = .ok (.aload_n 0, 1) := by decide +kernel
theorem dX5_customer_84 : decode cX5_customer 84 = .ok (.getfield 112, 3) := by decide +kernel
theorem dX5_customer_87 : decode cX5_customer 87 = .ok (.iload_n 1, 1) := by decide +kernel
theorem dX5_customer_88 : decode cX5_customer 88 = .ok (.iastore, 1) := by decide +kernel
theorem dX5_customer_89 : decode cX5_customer 89 = .ok (.aload_n 0, 1) := by decide +kernel
theorem dX5_customer_90 : decode cX5_customer 90 = .ok (.getfield 54, 3) := by decide +kernel
theorem dX5_customer_93 : decode cX5_customer 93 = .ok (.aload_n 0, 1) := by decide +kernel
theorem dX5_customer_94 : decode cX5_customer 94 = .ok (.getfield 112, 3) := by decide +kernel
theorem dX5_customer_97 : decode cX5_customer 97 = .ok (.iload_n 2, 1) := by decide +kernel
theorem dX5_customer_98 : decode cX5_customer 98 = .ok (.iastore, 1) := by decide +kernel
theorem dX5_customer_99 : decode cX5_customer 99 = .ok (.aload_n 0, 1) := by decide +kernel
theorem dX5_customer_100 : decode cX5_customer 100 = .ok (.getfield 57, 3) := by decide +kernel
theorem dX5_customer_103 : decode cX5_customer 103 = .ok (.aload_n 0, 1) := by decide +kernel
theorem dX5_customer_104 : decode cX5_customer 104 = .ok (.getfield 112, 3) := by decide +kernel
theorem dX5_customer_107 : decode cX5_customer 107 = .ok (.iload_n 3, 1) := by decide +kernel
theorem dX5_customer_108 : decode cX5_customer 108 = .ok (.iastore, 1) := by decide +kernel
theorem dX5_customer_109 : decode cX5_customer 109 = .ok (.aload_n 0, 1) := by decide +kernel
theorem dX5_customer_110 : decode cX5_customer 110 = .ok (.getfield 60, 3) := by decide +kernel
theorem dX5_customer_113 : decode cX5_customer 113 = .ok (.aload_n 0, 1) := by decide +kernel
theorem dX5_customer_114 : decode cX5_customer 114 = .ok (.getfield 112, 3) := by decide +kernel
theorem dX5_customer_117 : decode cX5_customer 117 = .ok (.iload 4, 2) := by decide +kernel
theorem dX5_customer_119 : decode cX5_customer 119 = .ok (.iastore, 1) := by decide +kernel
theorem dX5_customer_120 : decode cX5_customer 120 = .ok (.aload_n 0, 1) := by decide +kernel
theorem dX5_customer_121 : decode cX5_customer 121 = .ok (.dup, 1) := by decide +kernel
theorem dX5_customer_122 : decode cX5_customer 122 = .ok (.getfield 112, 3) := by decide +kernel
theorem dX5_customer_125 : decode cX5_customer 125 = .ok (.iconst 1, 1) := by decide +kernel
theorem dX5_customer_126 : decode cX5_customer 126 = .ok (.iadd, 1) := by decide +kernel
theorem dX5_customer_127 : decode cX5_customer 127 = .ok (.putfield 112, 3) := by decide +kernel
theorem dX5_customer_130 : decode cX5_customer 130 = .ok (.aload_n 0, 1) := by decide +kernel
theorem dX5_customer_131 : decode cX5_customer 131 = .ok (.getfield 112, 3) := by decide +kernel
theorem dX5_customer_134 : decode cX5_customer 134 = .ok (.iconst 1, 1) := by decide +kernel
theorem dX5_customer_135 : decode cX5_customer 135 = .ok (.isub, 1) := by decide +kernel
theorem dX5_customer_136 : decode cX5_customer 136 = .ok (.ireturn, 1) := by decide +kernel
theorem dX5_rateWith_0 : decode cX5_rateWith 0 = .ok (.iload_n 3, 1) := by decide +kernel
theorem dX5_rateWith_1 : decode cX5_rateWith 1 = .ok (.ifCond .eq 42, 3) := by decide +kernel
theorem dX5_rateWith_4 : decode cX5_rateWith 4 = .ok (.ldc2_w 147, 3) := by decide +kernel
theorem dX5_rateWith_7 : decode cX5_rateWith 7 = .ok (.iload_n 2, 1) := by decide +kernel
theorem dX5_rateWith_8 : decode cX5_rateWith 8 = .ok (.i2l, 1) := by decide +kernel
theorem dX5_rateWith_9 : decode cX5_rateWith 9 = .ok (.lmul, 1) := by decide +kernel
theorem dX5_rateWith_10 : decode cX5_rateWith 10 = .ok (.ldc2_w 149, 3) := by decide +kernel
theorem dX5_rateWith_13 : decode cX5_rateWith 13 = .ok (.aload_n 0, 1) := by decide +kernel
theorem dX5_rateWith_14 : decode cX5_rateWith 14 = .ok (.getfield 51, 3) := by decide +kernel
theorem dX5_rateWith_17 : decode cX5_rateWith 17 = .ok (.iload_n 1, 1) := by decide +kernel
theorem dX5_rateWith_18 : decode cX5_rateWith 18 = .ok (.iaload, 1) := by decide +kernel
theorem dX5_rateWith_19 : decode cX5_rateWith 19 = .ok (.i2l, 1) := by decide +kernel
theorem dX5_rateWith_20 : decode cX5_rateWith 20 = .ok (.lmul, 1) := by decide +kernel
theorem dX5_rateWith_21 : decode cX5_rateWith 21 = .ok (.lcmp, 1) := by decide +kernel
theorem dX5_rateWith_22 : decode cX5_rateWith 22 = .ok (.ifCond .le 14, 3) := by decide +kernel
theorem dX5_rateWith_25 : decode cX5_rateWith 25 = .ok (.aload_n 0, 1) := by decide +kernel
theorem dX5_rateWith_26 : decode cX5_rateWith 26 = .ok (.getfield 54, 3) := by decide +kernel
theorem dX5_rateWith_29 : decode cX5_rateWith 29 = .ok (.iload_n 1, 1) := by decide +kernel
theorem dX5_rateWith_30 : decode cX5_rateWith 30 = .ok (.iaload, 1) := by decide +kernel
theorem dX5_rateWith_31 : decode cX5_rateWith 31 = .ok (.iconst 2, 1) := by decide +kernel
theorem dX5_rateWith_32 : decode cX5_rateWith 32 = .ok (.idiv, 1) := by decide +kernel
theorem dX5_rateWith_33 : decode cX5_rateWith 33 = .ok (.goto 9, 3) := by decide +kernel
theorem dX5_rateWith_36 : decode cX5_rateWith 36 = .ok (.aload_n 0, 1) := by decide +kernel
theorem dX5_rateWith_37 : decode cX5_rateWith 37 = .ok (.getfield 54, 3) := by decide +kernel
theorem dX5_rateWith_40 : decode cX5_rateWith 40 = .ok (.iload_n 1, 1) := by decide +kernel
theorem dX5_rateWith_41 : decode cX5_rateWith 41 = .ok (.iaload, 1) := by decide +kernel
theorem dX5_rateWith_42 : decode cX5_rateWith 42 = .ok (.ireturn, 1) := by decide +kernel
theorem dX5_rateWith_43 : decode cX5_rateWith 43 = .ok (.ldc2_w 147, 3) := by decide +kernel
theorem dX5_rateWith_46 : decode cX5_rateWith 46 = .ok (.iload_n 2, 1) := by decide +kernel
theorem dX5_rateWith_47 : decode cX5_rateWith 47 = .ok (.i2l, 1) := by decide +kernel
theorem dX5_rateWith_48 : decode cX5_rateWith 48 = .ok (.lmul, 1) := by decide +kernel
theorem dX5_rateWith_49 : decode cX5_rateWith 49 = .ok (.aload_n 0, 1) := by decide +kernel
theorem dX5_rateWith_50 : decode cX5_rateWith 50 = .ok (.getfield 51, 3) := by decide +kernel
theorem dX5_rateWith_53 : decode cX5_rateWith 53 = .ok (.iload_n 1, 1) := by decide +kernel
theorem dX5_rateWith_54 : decode cX5_rateWith 54 = .ok (.iaload, 1) := by decide +kernel
theorem dX5_rateWith_55 : decode cX5_rateWith 55 = .ok (.i2l, 1) := by decide +kernel
theorem dX5_rateWith_56 : decode cX5_rateWith 56 = .ok (.lcmp, 1) := by decide +kernel
theorem dX5_rateWith_57 : decode cX5_rateWith 57 = .ok (.ifCond .ge 14, 3) := by decide +kernel
theorem dX5_rateWith_60 : decode cX5_rateWith 60 = .ok (.aload_n 0, 1) := by decide +kernel
theorem dX5_rateWith_61 : decode cX5_rateWith 61 = .ok (.getfield 57, 3) := by decide +kernel
theorem dX5_rateWith_64 : decode cX5_rateWith 64 = .ok (.iload_n 1, 1) := by decide +kernel
theorem dX5_rateWith_65 : decode cX5_rateWith 65 = .ok (.iaload, 1) := by decide +kernel
theorem dX5_rateWith_66 : decode cX5_rateWith 66 = .ok (.iconst 2, 1) := by decide +kernel
theorem dX5_rateWith_67 : decode cX5_rateWith 67 = .ok (.idiv, 1) := by decide +kernel
theorem dX5_rateWith_68 : decode cX5_rateWith 68 = .ok (.goto 9, 3) := by decide +kernel
theorem dX5_rateWith_71 : decode cX5_rateWith 71 = .ok (.aload_n 0, 1) := by decide +kernel
theorem dX5_rateWith_72 : decode cX5_rateWith 72 = .ok (.getfield 57, 3) := by decide +kernel
theorem dX5_rateWith_75 : decode cX5_rateWith 75 = .ok (.iload_n 1, 1) := by decide +kernel
theorem dX5_rateWith_76 : decode cX5_rateWith 76 = .ok (.iaload, 1) := by decide +kernel
theorem dX5_rateWith_77 : decode cX5_rateWith 77 = .ok (.ireturn, 1) := by decide +kernel
theorem dX5_nominate_0 : decode cX5_nominate 0 = .ok (.iload_n 2, 1) := by decide +kernel
theorem dX5_nominate_1 : decode cX5_nominate 1 = .ok (.aload_n 0, 1) := by decide +kernel
theorem dX5_nominate_2 : decode cX5_nominate 2 = .ok (.getfield 151, 3) := by decide +kernel
theorem dX5_nominate_5 : decode cX5_nominate 5 = .ok (.iconst 2, 1) := by decide +kernel
theorem dX5_nominate_6 : decode cX5_nominate 6 = .ok (.iadd, 1) := by decide +kernel
theorem dX5_nominate_7 : decode cX5_nominate 7 = .ok (.if_icmp .lt 29, 3) := by decide +kernel
theorem dX5_nominate_10 : decode cX5_nominate 10 = .ok (.iload_n 2, 1) := by decide +kernel
theorem dX5_nominate_11 : decode cX5_nominate 11 = .ok (.aload_n 0, 1) := by decide +kernel
theorem dX5_nominate_12 : decode cX5_nominate 12 = .ok (.getfield 151, 3) := by decide +kernel
theorem dX5_nominate_15 : decode cX5_nominate 15 = .ok (.bipush 60, 2) := by decide +kernel
theorem dX5_nominate_17 : decode cX5_nominate 17 = .ok (.iadd, 1) := by decide +kernel
theorem dX5_nominate_18 : decode cX5_nominate 18 = .ok (.if_icmp .gt 18, 3) := by decide +kernel
theorem dX5_nominate_21 : decode cX5_nominate 21 = .ok (.iload_n 3, 1) := by decide +kernel
theorem dX5_nominate_22 : decode cX5_nominate 22 = .ok (.ldc 154, 2) := by decide +kernel
theorem dX5_nominate_24 : decode cX5_nominate 24 = .ok (.ldc 132, 2) := by decide +kernel
theorem dX5_nominate_26 : decode cX5_nominate 26 = .ok (.invokestatic 108, 3) := by decide +kernel
theorem dX5_nominate_29 : decode cX5_nominate 29 = .ok (.ifCond .eq 7, 3) := by decide +kernel
theorem dX5_nominate_32 : decode cX5_nominate 32 = .ok (.iconst 1, 1) := by decide +kernel
theorem dX5_nominate_33 : decode cX5_nominate 33 = .ok (.goto 4, 3) := by decide +kernel
theorem dX5_nominate_36 : decode cX5_nominate 36 = .ok (.iconst 0, 1) := by decide +kernel
theorem dX5_nominate_37 : decode cX5_nominate 37 = .ok (.istore 4, 2) := by decide +kernel
theorem dX5_nominate_39 : decode cX5_nominate 39 = .ok (.aload_n 0, 1) := by decide +kernel
theorem dX5_nominate_40 : decode cX5_nominate 40 = .ok (.aload_n 0, 1) := by decide +kernel
theorem dX5_nominate_41 : decode cX5_nominate 41 = .ok (.iload_n 1, 1) := by decide +kernel
theorem dX5_nominate_42 : decode cX5_nominate 42 = .ok (.invokevirtual 155, 3) := by decide +kernel
theorem dX5_nominate_45 : decode cX5_nominate 45 = .ok (.ifCond .ne 7, 3) := by decide +kernel
theorem dX5_nominate_48 : decode cX5_nominate 48 = .ok (.iconst 1, 1) := by decide +kernel
theorem dX5_nominate_49 : decode cX5_nominate 49 = .ok (.goto 13, 3) := by decide +kernel
theorem dX5_nominate_52 : decode cX5_nominate 52 = .ok (.iload 4, 2) := by decide +kernel
theorem dX5_nominate_54 : decode cX5_nominate 54 = .ok (.ifCond .eq 7, 3) := by decide +kernel
theorem dX5_nominate_57 : decode cX5_nominate 57 = .ok (.iconst 0, 1) := by decide +kernel
theorem dX5_nominate_58 : decode cX5_nominate 58 = .ok (.goto 4, 3) := by decide +kernel
theorem dX5_nominate_61 : decode cX5_nominate 61 = .ok (.iconst 2, 1) := by decide +kernel
theorem dX5_nominate_62 : decode cX5_nominate 62 = .ok (.invokevirtual 133, 3) := by decide +kernel
theorem dX5_nominate_65 : decode cX5_nominate 65 = .ok (.ifCond .ne 5, 3) := by decide +kernel
theorem dX5_nominate_68 : decode cX5_nominate 68 = .ok (.iconst 0, 1) := by decide +kernel
theorem dX5_nominate_69 : decode cX5_nominate 69 = .ok (.ireturn, 1) := by decide +kernel
theorem dX5_nominate_70 : decode cX5_nominate 70 = .ok (.bipush 64, 2) := by decide +kernel
theorem dX5_nominate_72 : decode cX5_nominate 72 = .ok (.iload_n 1, 1) := by decide +kernel
theorem dX5_nominate_73 : decode cX5_nominate 73 = .ok (.imul, 1) := by decide +kernel
theorem dX5_nominate_74 : decode cX5_nominate 74 = .ok (.iload_n 2, 1) := by decide +kernel
theorem dX5_nominate_75 : decode cX5_nominate 75 = .ok (.bipush 64, 2) := by decide +kernel
theorem dX5_nominate_77 : decode cX5_nominate 77 = .ok (.irem, 1) := by decide +kernel
theorem dX5_nominate_78 : decode cX5_nominate 78 = .ok (.iadd, 1) := by decide +kernel
theorem dX5_nominate_79 : decode cX5_nominate 79 = .ok (.istore 5, 2) := by decide +kernel
theorem dX5_nominate_81 : decode cX5_nominate 81 = .ok (.aload_n 0, 1) := by decide +kernel
theorem dX5_nominate_82 : decode cX5_nominate 82 = .ok (.getfield 75, 3) := by decide +kernel
theorem dX5_nominate_85 : decode cX5_nominate 85 = .ok (.iload 5, 2) := by decide +kernel
theorem dX5_nominate_87 : decode cX5_nominate 87 = .ok (.iaload, 1) := by decide +kernel
theorem dX5_nominate_88 : decode cX5_nominate 88 = .ok (.istore 6, 2) := by decide +kernel
theorem dX5_nominate_90 : decode cX5_nominate 90 = .ok (.aload_n 0, 1) := by decide +kernel
theorem dX5_nominate_91 : decode cX5_nominate 91 = .ok (.getfield 75, 3) := by decide +kernel
theorem dX5_nominate_94 : decode cX5_nominate 94 = .ok (.iload 5, 2) := by decide +kernel
theorem dX5_nominate_96 : decode cX5_nominate 96 = .ok (.iload_n 3, 1) := by decide +kernel
theorem dX5_nominate_97 : decode cX5_nominate 97 = .ok (.iastore, 1) := by decide +kernel
theorem dX5_nominate_98 : decode cX5_nominate 98 = .ok (.iload 6, 2) := by decide +kernel
theorem dX5_nominate_100 : decode cX5_nominate 100 = .ok (.ireturn, 1) := by decide +kernel
theorem dX5_transfer_0 : decode cX5_transfer 0 = .ok (.aload_n 0, 1) := by decide +kernel
theorem dX5_transfer_1 : decode cX5_transfer 1 = .ok (.iload_n 1, 1) := by decide +kernel
theorem dX5_transfer_2 : decode cX5_transfer 2 = .ok (.invokevirtual 155, 3) := by decide +kernel
theorem dX5_transfer_5 : decode cX5_transfer 5 = .ok (.ifCond .eq 15, 3) := by decide +kernel
theorem dX5_transfer_8 : decode cX5_transfer 8 = .ok (.aload_n 0, 1) := by decide +kernel
theorem dX5_transfer_9 : decode cX5_transfer 9 = .ok (.iload_n 2, 1) := by decide +kernel
theorem dX5_transfer_10 : decode cX5_transfer 10 = .ok (.invokevirtual 155, 3) := by decide +kernel
theorem dX5_transfer_13 : decode cX5_transfer 13 = .ok (.ifCond .eq 7, 3) := by decide +kernel
theorem dX5_transfer_16 : decode cX5_transfer 16 = .ok (.iconst 1, 1) := by decide +kernel
theorem dX5_transfer_17 : decode cX5_transfer 17 = .ok (.goto 4, 3) := by decide +kernel
theorem dX5_transfer_20 : decode cX5_transfer 20 = .ok (.iconst 0, 1) := by decide +kernel
theorem dX5_transfer_21 : decode cX5_transfer 21 = .ok (.istore 4, 2) := by decide +kernel
theorem dX5_transfer_23 : decode cX5_transfer 23 = .ok (.iload_n 1, 1) := by decide +kernel
theorem dX5_transfer_24 : decode cX5_transfer 24 = .ok (.iload_n 2, 1) := by decide +kernel
theorem dX5_transfer_25 : decode cX5_transfer 25 = .ok (.if_icmp .eq 17, 3) := by decide +kernel
theorem dX5_transfer_28 : decode cX5_transfer 28 = .ok (.iload_n 3, 1) := by decide +kernel
theorem dX5_transfer_29 : decode cX5_transfer 29 = .ok (.iconst 1, 1) := by decide +kernel
theorem dX5_transfer_30 : decode cX5_transfer 30 = .ok (.ldc 132, 2) := by decide +kernel
theorem dX5_transfer_32 : decode cX5_transfer 32 = .ok (.invokestatic 108, 3) := by decide +kernel
theorem dX5_transfer_35 : decode cX5_transfer 35 = .ok (.ifCond .eq 7, 3) := by decide +kernel
theorem dX5_transfer_38 : decode cX5_transfer 38 = .ok (.iconst 1, 1) := by decide +kernel
theorem dX5_transfer_39 : decode cX5_transfer 39 = .ok (.goto 4, 3) := by decide +kernel
theorem dX5_transfer_42 : decode cX5_transfer 42 = .ok (.iconst 0, 1) := by decide +kernel
theorem dX5_transfer_43 : decode cX5_transfer 43 = .ok (.istore 5, 2) := by decide +kernel
theorem dX5_transfer_45 : decode cX5_transfer 45 = .ok (.iload 4, 2) := by decide +kernel
theorem dX5_transfer_47 : decode cX5_transfer 47 = .ok (.ifCond .eq 34, 3) := by decide +kernel
theorem dX5_transfer_50 : decode cX5_transfer 50 = .ok (.aload_n 0, 1) := by decide +kernel
theorem dX5_transfer_51 : decode cX5_transfer 51 = .ok (.getfield 63, 3) := by decide +kernel
theorem dX5_transfer_54 : decode cX5_transfer 54 = .ok (.iload_n 1, 1) := by decide +kernel
theorem dX5_transfer_55 : decode cX5_transfer 55 = .ok (.iaload, 1) := by decide +kernel
theorem dX5_transfer_56 : decode cX5_transfer 56 = .ok (.iload_n 3, 1) := by decide +kernel
theorem dX5_transfer_57 : decode cX5_transfer 57 = .ok (.if_icmp .lt 24, 3) := by decide +kernel
theorem dX5_transfer_60 : decode cX5_transfer 60 = .ok (.aload_n 0, 1) := by decide +kernel
theorem dX5_transfer_61 : decode cX5_transfer 61 = .ok (.getfield 51, 3) := by decide +kernel
theorem dX5_transfer_64 : decode cX5_transfer 64 = .ok (.iload_n 2, 1) := by decide +kernel
theorem dX5_transfer_65 : decode cX5_transfer 65 = .ok (.iaload, 1) := by decide +kernel
theorem dX5_transfer_66 : decode cX5_transfer 66 = .ok (.aload_n 0, 1) := by decide +kernel
theorem dX5_transfer_67 : decode cX5_transfer 67 = .ok (.getfield 63, 3) := by decide +kernel
theorem dX5_transfer_70 : decode cX5_transfer 70 = .ok (.iload_n 2, 1) := by decide +kernel
theorem dX5_transfer_71 : decode cX5_transfer 71 = .ok (.iaload, 1) := by decide +kernel
theorem dX5_transfer_72 : decode cX5_transfer 72 = .ok (.isub, 1) := by decide +kernel
theorem dX5_transfer_73 : decode cX5_transfer 73 = .ok (.iload_n 3, 1) := by decide +kernel
theorem dX5_transfer_74 : decode cX5_transfer 74 = .ok (.if_icmp .lt 7, 3) := by decide +kernel
theorem dX5_transfer_77 : decode cX5_transfer 77 = .ok (.iconst 1, 1) := by decide +kernel
theorem dX5_transfer_78 : decode cX5_transfer 78 = .ok (.goto 4, 3) := by decide +kernel
theorem dX5_transfer_81 : decode cX5_transfer 81 = .ok (.iconst 0, 1) := by decide +kernel
theorem dX5_transfer_82 : decode cX5_transfer 82 = .ok (.istore 6, 2) := by decide +kernel
theorem dX5_transfer_84 : decode cX5_transfer 84 = .ok (.aload_n 0, 1) := by decide +kernel
theorem dX5_transfer_85 : decode cX5_transfer 85 = .ok (.iload 4, 2) := by decide +kernel
theorem dX5_transfer_87 : decode cX5_transfer 87 = .ok (.ifCond .ne 7, 3) := by decide +kernel
theorem dX5_transfer_90 : decode cX5_transfer 90 = .ok (.iconst 1, 1) := by decide +kernel
theorem dX5_transfer_91 : decode cX5_transfer 91 = .ok (.goto 22, 3) := by decide +kernel
theorem dX5_transfer_94 : decode cX5_transfer 94 = .ok (.iload 5, 2) := by decide +kernel
theorem dX5_transfer_96 : decode cX5_transfer 96 = .ok (.ifCond .ne 7, 3) := by decide +kernel
theorem dX5_transfer_99 : decode cX5_transfer 99 = .ok (.iconst 2, 1) := by decide +kernel
theorem dX5_transfer_100 : decode cX5_transfer 100 = .ok (.goto 13, 3) := by decide +kernel
theorem dX5_transfer_103 : decode cX5_transfer 103 = .ok (.iload 6, 2) := by decide +kernel
theorem dX5_transfer_105 : decode cX5_transfer 105 = .ok (.ifCond .eq 7, 3) := by decide +kernel
theorem dX5_transfer_108 : decode cX5_transfer 108 = .ok (.iconst 0, 1) := by decide +kernel
theorem dX5_transfer_109 : decode cX5_transfer 109 = .ok (.goto 4, 3) := by decide +kernel
theorem dX5_transfer_112 : decode cX5_transfer 112 = .ok (.iconst 3, 1) := by decide +kernel
theorem dX5_transfer_113 : decode cX5_transfer 113 = .ok (.invokevirtual 133, 3) := by decide +kernel
theorem dX5_transfer_116 : decode cX5_transfer 116 = .ok (.ifCond .ne 5, 3) := by decide +kernel
theorem dX5_transfer_119 : decode cX5_transfer 119 = .ok (.iconst 0, 1) := by decide +kernel
theorem dX5_transfer_120 : decode cX5_transfer 120 = .ok (.ireturn, 1) := by decide +kernel
theorem dX5_transfer_121 : decode cX5_transfer 121 = .ok (.aload_n 0, 1) := by decide +kernel
theorem dX5_transfer_122 : decode cX5_transfer 122 = .ok (.getfield 63, 3) := by decide +kernel
theorem dX5_transfer_125 : decode cX5_transfer 125 = .ok (.iload_n 1, 1) := by decide +kernel
theorem dX5_transfer_126 : decode cX5_transfer 126 = .ok (.dup2, 1) := by decide +kernel
theorem dX5_transfer_127 : decode cX5_transfer 127 = .ok (.iaload, 1) := by decide +kernel
theorem dX5_transfer_128 : decode cX5_transfer 128 = .ok (.iload_n 3, 1) := by decide +kernel
theorem dX5_transfer_129 : decode cX5_transfer 129 = .ok (.isub, 1) := by decide +kernel
theorem dX5_transfer_130 : decode cX5_transfer 130 = .ok (.iastore, 1) := by decide +kernel
theorem dX5_transfer_131 : decode cX5_transfer 131 = .ok (.aload_n 0, 1) := by decide +kernel
theorem dX5_transfer_132 : decode cX5_transfer 132 = .ok (.getfield 63, 3) := by decide +kernel
theorem dX5_transfer_135 : decode cX5_transfer 135 = .ok (.iload_n 2, 1) := by decide +kernel
theorem dX5_transfer_136 : decode cX5_transfer 136 = .ok (.dup2, 1) := by decide +kernel
theorem dX5_transfer_137 : decode cX5_transfer 137 = .ok (.iaload, 1) := by decide +kernel
theorem dX5_transfer_138 : decode cX5_transfer 138 = .ok (.iload_n 3, 1) := by decide +kernel
theorem dX5_transfer_139 : decode cX5_transfer 139 = .ok (.iadd, 1) := by decide +kernel
theorem dX5_transfer_140 : decode cX5_transfer 140 = .ok (.iastore, 1) := by decide +kernel
theorem dX5_transfer_141 : decode cX5_transfer 141 = .ok (.aload_n 0, 1) := by decide +kernel
theorem dX5_transfer_142 : decode cX5_transfer 142 = .ok (.getfield 63, 3) := by decide +kernel
theorem dX5_transfer_145 : decode cX5_transfer 145 = .ok (.iload_n 2, 1) := by decide +kernel
theorem dX5_transfer_146 : decode cX5_transfer 146 = .ok (.iaload, 1) := by decide +kernel
theorem dX5_transfer_147 : decode cX5_transfer 147 = .ok (.ireturn, 1) := by decide +kernel
theorem dX5_law_0 : decode cX5_law 0 = .ok (.iload_n 1, 1) := by decide +kernel
theorem dX5_law_1 : decode cX5_law 1 = .ok (.aload_n 0, 1) := by decide +kernel
theorem dX5_law_2 : decode cX5_law 2 = .ok (.getfield 151, 3) := by decide +kernel
theorem dX5_law_5 : decode cX5_law 5 = .ok (.sipush 10000, 3) := by decide +kernel
theorem dX5_law_8 : decode cX5_law 8 = .ok (.invokestatic 108, 3) := by decide +kernel
theorem dX5_law_11 : decode cX5_law 11 = .ok (.ifCond .eq 28, 3) := by decide +kernel
theorem dX5_law_14 : decode cX5_law 14 = .ok (.iload_n 2, 1) := by decide +kernel
theorem dX5_law_15 : decode cX5_law 15 = .ok (.iload_n 1, 1) := by decide +kernel
theorem dX5_law_16 : decode cX5_law 16 = .ok (.sipush 10000, 3) := by decide +kernel
theorem dX5_law_19 : decode cX5_law 19 = .ok (.invokestatic 108, 3) := by decide +kernel
theorem dX5_law_22 : decode cX5_law 22 = .ok (.ifCond .eq 17, 3) := by decide +kernel
theorem dX5_law_25 : decode cX5_law 25 = .ok (.iload_n 3, 1) := by decide +kernel
theorem dX5_law_26 : decode cX5_law 26 = .ok (.iconst 0, 1) := by decide +kernel
theorem dX5_law_27 : decode cX5_law 27 = .ok (.ldc 158, 2) := by decide +kernel
theorem dX5_law_29 : decode cX5_law 29 = .ok (.invokestatic 108, 3) := by decide +kernel
theorem dX5_law_32 : decode cX5_law 32 = .ok (.ifCond .eq 7, 3) := by decide +kernel
theorem dX5_law_35 : decode cX5_law 35 = .ok (.iconst 1, 1) := by decide +kernel
theorem dX5_law_36 : decode cX5_law 36 = .ok (.goto 4, 3) := by decide +kernel
theorem dX5_law_39 : decode cX5_law 39 = .ok (.iconst 0, 1) := by decide +kernel
theorem dX5_law_40 : decode cX5_law 40 = .ok (.istore 4, 2) := by decide +kernel
theorem dX5_law_42 : decode cX5_law 42 = .ok (.aload_n 0, 1) := by decide +kernel
theorem dX5_law_43 : decode cX5_law 43 = .ok (.iload 4, 2) := by decide +kernel
theorem dX5_law_45 : decode cX5_law 45 = .ok (.ifCond .ne 7, 3) := by decide +kernel
theorem dX5_law_48 : decode cX5_law 48 = .ok (.iconst 1, 1) := by decide +kernel
theorem dX5_law_49 : decode cX5_law 49 = .ok (.goto 17, 3) := by decide +kernel
theorem dX5_law_52 : decode cX5_law 52 = .ok (.aload_n 0, 1) := by decide +kernel
theorem dX5_law_53 : decode cX5_law 53 = .ok (.getfield 159, 3) := by decide +kernel
theorem dX5_law_56 : decode cX5_law 56 = .ok (.bipush 20, 2) := by decide +kernel
theorem dX5_law_58 : decode cX5_law 58 = .ok (.if_icmp .ne 7, 3) := by decide +kernel
theorem dX5_law_61 : decode cX5_law 61 = .ok (.iconst 2, 1) := by decide +kernel
theorem dX5_law_62 : decode cX5_law 62 = .ok (.goto 4, 3) := by decide +kernel
theorem dX5_law_65 : decode cX5_law 65 = .ok (.iconst 0, 1) := by decide +kernel
theorem dX5_law_66 : decode cX5_law 66 = .ok (.invokevirtual 133, 3) := by decide +kernel
theorem dX5_law_69 : decode cX5_law 69 = .ok (.ifCond .ne 5, 3) := by decide +kernel
theorem dX5_law_72 : decode cX5_law 72 = .ok (.iconst 0, 1) := by decide +kernel
theorem dX5_law_73 : decode cX5_law 73 = .ok (.ireturn, 1) := by decide +kernel
theorem dX5_law_74 : decode cX5_law 74 = .ok (.aload_n 0, 1) := by decide +kernel
theorem dX5_law_75 : decode cX5_law 75 = .ok (.getfield 81, 3) := by decide +kernel
theorem dX5_law_78 : decode cX5_law 78 = .ok (.aload_n 0, 1) := by decide +kernel
theorem dX5_law_79 : decode cX5_law 79 = .ok (.getfield 159, 3) := by decide +kernel
theorem dX5_law_82 : decode cX5_law 82 = .ok (.iload_n 1, 1) := by decide +kernel
theorem dX5_law_83 : decode cX5_law 83 = .ok (.iastore, 1) := by decide +kernel
theorem dX5_law_84 : decode cX5_law 84 = .ok (.aload_n 0, 1) := by decide +kernel
theorem dX5_law_85 : decode cX5_law 85 = .ok (.getfield 84, 3) := by decide +kernel
theorem dX5_law_88 : decode cX5_law 88 = .ok (.aload_n 0, 1) := by decide +kernel
theorem dX5_law_89 : decode cX5_law 89 = .ok (.getfield 159, 3) := by decide +kernel
theorem dX5_law_92 : decode cX5_law 92 = .ok (.iload_n 2, 1) := by decide +kernel
theorem dX5_law_93 : decode cX5_law 93 = .ok (.iastore, 1) := by decide +kernel
theorem dX5_law_94 : decode cX5_law 94 = .ok (.aload_n 0, 1) := by decide +kernel
theorem dX5_law_95 : decode cX5_law 95 = .ok (.getfield 87, 3) := by decide +kernel
theorem dX5_law_98 : decode cX5_law 98 = .ok (.aload_n 0, 1) := by decide +kernel
theorem dX5_law_99 : decode cX5_law 99 = .ok (.getfield 159, 3) := by decide +kernel
theorem dX5_law_102 : decode cX5_law 102 = .ok (.iload_n 3, 1) := by decide +kernel
theorem dX5_law_103 : decode cX5_law 103 = .ok (.iastore, 1) := by decide +kernel
theorem dX5_law_104 : decode cX5_law 104 = .ok (.aload_n 0, 1) := by decide +kernel
theorem dX5_law_105 : decode cX5_law 105 = .ok (.dup, 1) := by decide +kernel
theorem dX5_law_106 : decode cX5_law 106 = .ok (.getfield 159, 3) := by decide +kernel
theorem dX5_law_109 : decode cX5_law 109 = .ok (.iconst 1, 1) := by decide +kernel
theorem dX5_law_110 : decode cX5_law 110 = .ok (.iadd, 1) := by decide +kernel
theorem dX5_law_111 : decode cX5_law 111 = .ok (.putfield 159, 3) := by decide +kernel
theorem dX5_law_114 : decode cX5_law 114 = .ok (.aload_n 0, 1) := by decide +kernel
theorem dX5_law_115 : decode cX5_law 115 = .ok (.getfield 159, 3) := by decide +kernel
theorem dX5_law_118 : decode cX5_law 118 = .ok (.ireturn, 1) := by decide +kernel
theorem dX5_lawNow_0 : decode cX5_lawNow 0 = .ok (.iconst (-1), 1) := by decide +kernel
theorem dX5_lawNow_1 : decode cX5_lawNow 1 = .ok (.istore_n 1, 1) := by decide +kernel
theorem dX5_lawNow_2 : decode cX5_lawNow 2 = .ok (.iconst 0, 1) := by decide +kernel
theorem dX5_lawNow_3 : decode cX5_lawNow 3 = .ok (.istore_n 2, 1) := by decide +kernel
theorem dX5_lawNow_4 : decode cX5_lawNow 4 = .ok (.iload_n 2, 1) := by decide +kernel
theorem dX5_lawNow_5 : decode cX5_lawNow 5 = .ok (.aload_n 0, 1) := by decide +kernel
theorem dX5_lawNow_6 : decode cX5_lawNow 6 = .ok (.getfield 159, 3) := by decide +kernel
theorem dX5_lawNow_9 : decode cX5_lawNow 9 = .ok (.if_icmp .ge 37, 3) := by decide +kernel
theorem dX5_lawNow_12 : decode cX5_lawNow 12 = .ok (.aload_n 0, 1) := by decide +kernel
theorem dX5_lawNow_13 : decode cX5_lawNow 13 = .ok (.getfield 151, 3) := by decide +kernel
theorem dX5_lawNow_16 : decode cX5_lawNow 16 = .ok (.aload_n 0, 1) := by decide +kernel
theorem dX5_lawNow_17 : decode cX5_lawNow 17 = .ok (.getfield 81, 3) := by decide +kernel
theorem dX5_lawNow_20 : decode cX5_lawNow 20 = .ok (.iload_n 2, 1) := by decide +kernel
theorem dX5_lawNow_21 : decode cX5_lawNow 21 = .ok (.iaload, 1) := by decide +kernel
theorem dX5_lawNow_22 : decode cX5_lawNow 22 = .ok (.aload_n 0, 1) := by decide +kernel
theorem dX5_lawNow_23 : decode cX5_lawNow 23 = .ok (.getfield 84, 3) := by decide +kernel
theorem dX5_lawNow_26 : decode cX5_lawNow 26 = .ok (.iload_n 2, 1) := by decide +kernel
theorem dX5_lawNow_27 : decode cX5_lawNow 27 = .ok (.iaload, 1) := by decide +kernel
theorem dX5_lawNow_28 : decode cX5_lawNow 28 = .ok (.invokestatic 108, 3) := by decide +kernel
theorem dX5_lawNow_31 : decode cX5_lawNow 31 = .ok (.ifCond .eq 7, 3) := by decide +kernel
theorem dX5_lawNow_34 : decode cX5_lawNow 34 = .ok (.iload_n 2, 1) := by decide +kernel
theorem dX5_lawNow_35 : decode cX5_lawNow 35 = .ok (.goto 4, 3) := by decide +kernel
theorem dX5_lawNow_38 : decode cX5_lawNow 38 = .ok (.iload_n 1, 1) := by decide +kernel
theorem dX5_lawNow_39 : decode cX5_lawNow 39 = .ok (.istore_n 1, 1) := by decide +kernel
theorem dX5_lawNow_40 : decode cX5_lawNow 40 = .ok (.iinc 2 1, 3) := by decide +kernel
theorem dX5_lawNow_43 : decode cX5_lawNow 43 = .ok (.goto (-39), 3) := by decide +kernel
theorem dX5_lawNow_46 : decode cX5_lawNow 46 = .ok (.iload_n 1, 1) := by decide +kernel
theorem dX5_lawNow_47 : decode cX5_lawNow 47 = .ok (.ireturn, 1) := by decide +kernel
theorem dX5_price_0 : decode cX5_price 0 = .ok (.iload_n 1, 1) := by decide +kernel
theorem dX5_price_1 : decode cX5_price 1 = .ok (.aload_n 0, 1) := by decide +kernel
theorem dX5_price_2 : decode cX5_price 2 = .ok (.getfield 151, 3) := by decide +kernel
theorem dX5_price_5 : decode cX5_price 5 = .ok (.if_icmp .lt 31, 3) := by decide +kernel
theorem dX5_price_8 : decode cX5_price 8 = .ok (.iload_n 1, 1) := by decide +kernel
theorem dX5_price_9 : decode cX5_price 9 = .ok (.aload_n 0, 1) := by decide +kernel
theorem dX5_price_10 : decode cX5_price 10 = .ok (.getfield 151, 3) := by decide +kernel
theorem dX5_price_13 : decode cX5_price 13 = .ok (.bipush 60, 2) := by decide +kernel
theorem dX5_price_15 : decode cX5_price 15 = .ok (.iadd, 1) := by decide +kernel
theorem dX5_price_16 : decode cX5_price 16 = .ok (.if_icmp .gt 20, 3) := by decide +kernel
theorem dX5_price_19 : decode cX5_price 19 = .ok (.iload_n 2, 1) := by decide +kernel
theorem dX5_price_20 : decode cX5_price 20 = .ok (.sipush (-1000), 3) := by decide +kernel
theorem dX5_price_23 : decode cX5_price 23 = .ok (.sipush 1000, 3) := by decide +kernel
theorem dX5_price_26 : decode cX5_price 26 = .ok (.invokestatic 108, 3) := by decide +kernel
theorem dX5_price_29 : decode cX5_price 29 = .ok (.ifCond .eq 7, 3) := by decide +kernel
theorem dX5_price_32 : decode cX5_price 32 = .ok (.iconst 1, 1) := by decide +kernel
theorem dX5_price_33 : decode cX5_price 33 = .ok (.goto 4, 3) := by decide +kernel
theorem dX5_price_36 : decode cX5_price 36 = .ok (.iconst 0, 1) := by decide +kernel
theorem dX5_price_37 : decode cX5_price 37 = .ok (.istore_n 3, 1) := by decide +kernel
theorem dX5_price_38 : decode cX5_price 38 = .ok (.aload_n 0, 1) := by decide +kernel
theorem dX5_price_39 : decode cX5_price 39 = .ok (.iload_n 3, 1) := by decide +kernel
theorem dX5_price_40 : decode cX5_price 40 = .ok (.ifCond .eq 7, 3) := by decide +kernel
theorem dX5_price_43 : decode cX5_price 43 = .ok (.iconst 0, 1) := by decide +kernel
theorem dX5_price_44 : decode cX5_price 44 = .ok (.goto 4, 3) := by decide +kernel
theorem dX5_price_47 : decode cX5_price 47 = .ok (.iconst 1, 1) := by decide +kernel
theorem dX5_price_48 : decode cX5_price 48 = .ok (.invokevirtual 133, 3) := by decide +kernel
theorem dX5_price_51 : decode cX5_price 51 = .ok (.ifCond .ne 5, 3) := by decide +kernel
theorem dX5_price_54 : decode cX5_price 54 = .ok (.iconst 0, 1) := by decide +kernel
theorem dX5_price_55 : decode cX5_price 55 = .ok (.ireturn, 1) := by decide +kernel
theorem dX5_price_56 : decode cX5_price 56 = .ok (.aload_n 0, 1) := by decide +kernel
theorem dX5_price_57 : decode cX5_price 57 = .ok (.getfield 78, 3) := by decide +kernel
theorem dX5_price_60 : decode cX5_price 60 = .ok (.iload_n 1, 1) := by decide +kernel
theorem dX5_price_61 : decode cX5_price 61 = .ok (.bipush 64, 2) := by decide +kernel
theorem dX5_price_63 : decode cX5_price 63 = .ok (.irem, 1) := by decide +kernel
theorem dX5_price_64 : decode cX5_price 64 = .ok (.iaload, 1) := by decide +kernel
theorem dX5_price_65 : decode cX5_price 65 = .ok (.istore 4, 2) := by decide +kernel
theorem dX5_price_67 : decode cX5_price 67 = .ok (.aload_n 0, 1) := by decide +kernel
theorem dX5_price_68 : decode cX5_price 68 = .ok (.getfield 78, 3) := by decide +kernel
theorem dX5_price_71 : decode cX5_price 71 = .ok (.iload_n 1, 1) := by decide +kernel
theorem dX5_price_72 : decode cX5_price 72 = .ok (.bipush 64, 2) := by decide +kernel
theorem dX5_price_74 : decode cX5_price 74 = .ok (.irem, 1) := by decide +kernel
theorem dX5_price_75 : decode cX5_price 75 = .ok (.iload_n 2, 1) := by decide +kernel
theorem dX5_price_76 : decode cX5_price 76 = .ok (.iastore, 1) := by decide +kernel
theorem dX5_price_77 : decode cX5_price 77 = .ok (.iload 4, 2) := by decide +kernel
theorem dX5_price_79 : decode cX5_price 79 = .ok (.ireturn, 1) := by decide +kernel
theorem dX5_all_0 : decode cX5_all 0 = .ok (.lconst 0, 1) := by decide +kernel
theorem dX5_all_1 : decode cX5_all 1 = .ok (.lstore_n 1, 1) := by decide +kernel
theorem dX5_all_2 : decode cX5_all 2 = .ok (.iconst 0, 1) := by decide +kernel
theorem dX5_all_3 : decode cX5_all 3 = .ok (.istore_n 3, 1) := by decide +kernel
theorem dX5_all_4 : decode cX5_all 4 = .ok (.iload_n 3, 1) := by decide +kernel
theorem dX5_all_5 : decode cX5_all 5 = .ok (.aload_n 0, 1) := by decide +kernel
theorem dX5_all_6 : decode cX5_all 6 = .ok (.getfield 112, 3) := by decide +kernel
theorem dX5_all_9 : decode cX5_all 9 = .ok (.if_icmp .ge 19, 3) := by decide +kernel
theorem dX5_all_12 : decode cX5_all 12 = .ok (.lload_n 1, 1) := by decide +kernel
theorem dX5_all_13 : decode cX5_all 13 = .ok (.aload_n 0, 1) := by decide +kernel
theorem dX5_all_14 : decode cX5_all 14 = .ok (.getfield 63, 3) := by decide +kernel
theorem dX5_all_17 : decode cX5_all 17 = .ok (.iload_n 3, 1) := by decide +kernel
theorem dX5_all_18 : decode cX5_all 18 = .ok (.iaload, 1) := by decide +kernel
theorem dX5_all_19 : decode cX5_all 19 = .ok (.i2l, 1) := by decide +kernel
theorem dX5_all_20 : decode cX5_all 20 = .ok (.ladd, 1) := by decide +kernel
theorem dX5_all_21 : decode cX5_all 21 = .ok (.lstore_n 1, 1) := by decide +kernel
theorem dX5_all_22 : decode cX5_all 22 = .ok (.iinc 3 1, 3) := by decide +kernel
theorem dX5_all_25 : decode cX5_all 25 = .ok (.goto (-21), 3) := by decide +kernel
theorem dX5_all_28 : decode cX5_all 28 = .ok (.lload_n 1, 1) := by decide +kernel
theorem dX5_all_29 : decode cX5_all 29 = .ok (.lreturn, 1) := by decide +kernel
theorem dX5_sum_0 : decode cX5_sum 0 = .ok (.iconst 0, 1) := by decide +kernel
theorem dX5_sum_1 : decode cX5_sum 1 = .ok (.istore_n 2, 1) := by decide +kernel
theorem dX5_sum_2 : decode cX5_sum 2 = .ok (.iconst 0, 1) := by decide +kernel
theorem dX5_sum_3 : decode cX5_sum 3 = .ok (.istore_n 3, 1) := by decide +kernel
theorem dX5_sum_4 : decode cX5_sum 4 = .ok (.iload_n 3, 1) := by decide +kernel
theorem dX5_sum_5 : decode cX5_sum 5 = .ok (.aload_n 0, 1) := by decide +kernel
theorem dX5_sum_6 : decode cX5_sum 6 = .ok (.getfield 112, 3) := by decide +kernel
theorem dX5_sum_9 : decode cX5_sum 9 = .ok (.if_icmp .ge 31, 3) := by decide +kernel
theorem dX5_sum_12 : decode cX5_sum 12 = .ok (.iload_n 2, 1) := by decide +kernel
theorem dX5_sum_13 : decode cX5_sum 13 = .ok (.iload_n 1, 1) := by decide +kernel
theorem dX5_sum_14 : decode cX5_sum 14 = .ok (.ifCond .eq 12, 3) := by decide +kernel
theorem dX5_sum_17 : decode cX5_sum 17 = .ok (.aload_n 0, 1) := by decide +kernel
theorem dX5_sum_18 : decode cX5_sum 18 = .ok (.getfield 90, 3) := by decide +kernel
theorem dX5_sum_21 : decode cX5_sum 21 = .ok (.iload_n 3, 1) := by decide +kernel
theorem dX5_sum_22 : decode cX5_sum 22 = .ok (.iaload, 1) := by decide +kernel
theorem dX5_sum_23 : decode cX5_sum 23 = .ok (.goto 9, 3) := by decide +kernel
theorem dX5_sum_26 : decode cX5_sum 26 = .ok (.aload_n 0, 1) := by decide +kernel
theorem dX5_sum_27 : decode cX5_sum 27 = .ok (.getfield 93, 3) := by decide +kernel
theorem dX5_sum_30 : decode cX5_sum 30 = .ok (.iload_n 3, 1) := by decide +kernel
theorem dX5_sum_31 : decode cX5_sum 31 = .ok (.iaload, 1) := by decide +kernel
theorem dX5_sum_32 : decode cX5_sum 32 = .ok (.iadd, 1) := by decide +kernel
theorem dX5_sum_33 : decode cX5_sum 33 = .ok (.istore_n 2, 1) := by decide +kernel
theorem dX5_sum_34 : decode cX5_sum 34 = .ok (.iinc 3 1, 3) := by decide +kernel
theorem dX5_sum_37 : decode cX5_sum 37 = .ok (.goto (-33), 3) := by decide +kernel
theorem dX5_sum_40 : decode cX5_sum 40 = .ok (.iload_n 2, 1) := by decide +kernel
theorem dX5_sum_41 : decode cX5_sum 41 = .ok (.ireturn, 1) := by decide +kernel
theorem dX5_curtails_0 : decode cX5_curtails 0 = .ok (.iload_n 2, 1) := by decide +kernel
theorem dX5_curtails_1 : decode cX5_curtails 1 = .ok (.istore 4, 2) := by decide +kernel
theorem dX5_curtails_3 : decode cX5_curtails 3 = .ok (.iconst 4, 1) := by decide +kernel
theorem dX5_curtails_4 : decode cX5_curtails 4 = .ok (.aload_n 0, 1) := by decide +kernel
theorem dX5_curtails_5 : decode cX5_curtails 5 = .ok (.getfield 112, 3) := by decide +kernel
theorem dX5_curtails_8 : decode cX5_curtails 8 = .ok (.imul, 1) := by decide +kernel
theorem dX5_curtails_9 : decode cX5_curtails 9 = .ok (.iconst 1, 1) := by decide +kernel
theorem dX5_curtails_10 : decode cX5_curtails 10 = .ok (.isub, 1) := by decide +kernel
theorem dX5_curtails_11 : decode cX5_curtails 11 = .ok (.istore 5, 2) := by decide +kernel
theorem dX5_curtails_13 : decode cX5_curtails 13 = .ok (.iload 5, 2) := by decide +kernel
theorem dX5_curtails_15 : decode cX5_curtails 15 = .ok (.ifCond .lt 164, 3) := by decide +kernel
theorem dX5_curtails_18 : decode cX5_curtails 18 = .ok (.iload 4, 2) := by decide +kernel
theorem dX5_curtails_20 : decode cX5_curtails 20 = .ok (.ifCond .le 159, 3) := by decide +kernel
theorem dX5_curtails_23 : decode cX5_curtails 23 = .ok (.iload 5, 2) := by decide +kernel
theorem dX5_curtails_25 : decode cX5_curtails 25 = .ok (.aload_n 0, 1) := by decide +kernel
theorem dX5_curtails_26 : decode cX5_curtails 26 = .ok (.getfield 112, 3) := by decide +kernel
theorem dX5_curtails_29 : decode cX5_curtails 29 = .ok (.irem, 1) := by decide +kernel
theorem dX5_curtails_30 : decode cX5_curtails 30 = .ok (.istore 6, 2) := by decide +kernel
theorem dX5_curtails_32 : decode cX5_curtails 32 = .ok (.aload_n 0, 1) := by decide +kernel
theorem dX5_curtails_33 : decode cX5_curtails 33 = .ok (.getfield 60, 3) := by decide +kernel
theorem dX5_curtails_36 : decode cX5_curtails 36 = .ok (.iload 6, 2) := by decide +kernel
theorem dX5_curtails_38 : decode cX5_curtails 38 = .ok (.iaload, 1) := by decide +kernel
theorem dX5_curtails_39 : decode cX5_curtails 39 = .ok (.iload 5, 2) := by decide +kernel
theorem dX5_curtails_41 : decode cX5_curtails 41 = .ok (.aload_n 0, 1) := by decide +kernel
theorem dX5_curtails_42 : decode cX5_curtails 42 = .ok (.getfield 112, 3) := by decide +kernel
theorem dX5_curtails_45 : decode cX5_curtails 45 = .ok (.idiv, 1) := by decide +kernel
theorem dX5_curtails_46 : decode cX5_curtails 46 = .ok (.if_icmp .ne 32, 3) := by decide +kernel
theorem dX5_curtails_49 : decode cX5_curtails 49 = .ok (.iload 4, 2) := by decide +kernel
theorem dX5_curtails_51 : decode cX5_curtails 51 = .ok (.iload_n 1, 1) := by decide +kernel
theorem dX5_curtails_52 : decode cX5_curtails 52 = .ok (.ifCond .eq 13, 3) := by decide +kernel
theorem dX5_curtails_55 : decode cX5_curtails 55 = .ok (.aload_n 0, 1) := by decide +kernel
theorem dX5_curtails_56 : decode cX5_curtails 56 = .ok (.getfield 90, 3) := by decide +kernel
theorem dX5_curtails_59 : decode cX5_curtails 59 = .ok (.iload 6, 2) := by decide +kernel
theorem dX5_curtails_61 : decode cX5_curtails 61 = .ok (.iaload, 1) := by decide +kernel
theorem dX5_curtails_62 : decode cX5_curtails 62 = .ok (.goto 10, 3) := by decide +kernel
theorem dX5_curtails_65 : decode cX5_curtails 65 = .ok (.aload_n 0, 1) := by decide +kernel
theorem dX5_curtails_66 : decode cX5_curtails 66 = .ok (.getfield 93, 3) := by decide +kernel
theorem dX5_curtails_69 : decode cX5_curtails 69 = .ok (.iload 6, 2) := by decide +kernel
theorem dX5_curtails_71 : decode cX5_curtails 71 = .ok (.iaload, 1) := by decide +kernel
theorem dX5_curtails_72 : decode cX5_curtails 72 = .ok (.invokestatic 162, 3) := by decide +kernel
theorem dX5_curtails_75 : decode cX5_curtails 75 = .ok (.goto 4, 3) := by decide +kernel
theorem dX5_curtails_78 : decode cX5_curtails 78 = .ok (.iconst 0, 1) := by decide +kernel
theorem dX5_curtails_79 : decode cX5_curtails 79 = .ok (.istore 7, 2) := by decide +kernel
theorem dX5_curtails_81 : decode cX5_curtails 81 = .ok (.aload_n 0, 1) := by decide +kernel
theorem dX5_curtails_82 : decode cX5_curtails 82 = .ok (.getfield 90, 3) := by decide +kernel
theorem dX5_curtails_85 : decode cX5_curtails 85 = .ok (.iload 6, 2) := by decide +kernel
theorem dX5_curtails_87 : decode cX5_curtails 87 = .ok (.dup2, 1) := by decide +kernel
theorem dX5_curtails_88 : decode cX5_curtails 88 = .ok (.iaload, 1) := by decide +kernel
theorem dX5_curtails_89 : decode cX5_curtails 89 = .ok (.iload_n 1, 1) := by decide +kernel
theorem dX5_curtails_90 : decode cX5_curtails 90 = .ok (.ifCond .eq 8, 3) := by decide +kernel
theorem dX5_curtails_93 : decode cX5_curtails 93 = .ok (.iload 7, 2) := by decide +kernel
theorem dX5_curtails_95 : decode cX5_curtails 95 = .ok (.goto 4, 3) := by decide +kernel
theorem dX5_curtails_98 : decode cX5_curtails 98 = .ok (.iconst 0, 1) := by decide +kernel
theorem dX5_curtails_99 : decode cX5_curtails 99 = .ok (.isub, 1) := by decide +kernel
theorem dX5_curtails_100 : decode cX5_curtails 100 = .ok (.iastore, 1) := by decide +kernel
theorem dX5_curtails_101 : decode cX5_curtails 101 = .ok (.aload_n 0, 1) := by decide +kernel
theorem dX5_curtails_102 : decode cX5_curtails 102 = .ok (.getfield 93, 3) := by decide +kernel
theorem dX5_curtails_105 : decode cX5_curtails 105 = .ok (.iload 6, 2) := by decide +kernel
theorem dX5_curtails_107 : decode cX5_curtails 107 = .ok (.dup2, 1) := by decide +kernel
theorem dX5_curtails_108 : decode cX5_curtails 108 = .ok (.iaload, 1) := by decide +kernel
theorem dX5_curtails_109 : decode cX5_curtails 109 = .ok (.iload_n 1, 1) := by decide +kernel
theorem dX5_curtails_110 : decode cX5_curtails 110 = .ok (.ifCond .eq 7, 3) := by decide +kernel
theorem dX5_curtails_113 : decode cX5_curtails 113 = .ok (.iconst 0, 1) := by decide +kernel
theorem dX5_curtails_114 : decode cX5_curtails 114 = .ok (.goto 5, 3) := by decide +kernel
theorem dX5_curtails_117 : decode cX5_curtails 117 = .ok (.iload 7, 2) := by decide +kernel
theorem dX5_curtails_119 : decode cX5_curtails 119 = .ok (.isub, 1) := by decide +kernel
theorem dX5_curtails_120 : decode cX5_curtails 120 = .ok (.iastore, 1) := by decide +kernel
theorem dX5_curtails_121 : decode cX5_curtails 121 = .ok (.aload_n 0, 1) := by decide +kernel
theorem dX5_curtails_122 : decode cX5_curtails 122 = .ok (.getfield 96, 3) := by decide +kernel
theorem dX5_curtails_125 : decode cX5_curtails 125 = .ok (.iload 6, 2) := by decide +kernel
theorem dX5_curtails_127 : decode cX5_curtails 127 = .ok (.dup2, 1) := by decide +kernel
theorem dX5_curtails_128 : decode cX5_curtails 128 = .ok (.iaload, 1) := by decide +kernel
theorem dX5_curtails_129 : decode cX5_curtails 129 = .ok (.iload 7, 2) := by decide +kernel
theorem dX5_curtails_131 : decode cX5_curtails 131 = .ok (.iadd, 1) := by decide +kernel
theorem dX5_curtails_132 : decode cX5_curtails 132 = .ok (.iastore, 1) := by decide +kernel
theorem dX5_curtails_133 : decode cX5_curtails 133 = .ok (.aload_n 0, 1) := by decide +kernel
theorem dX5_curtails_134 : decode cX5_curtails 134 = .ok (.getfield 99, 3) := by decide +kernel
theorem dX5_curtails_137 : decode cX5_curtails 137 = .ok (.iload 6, 2) := by decide +kernel
theorem dX5_curtails_139 : decode cX5_curtails 139 = .ok (.iload 7, 2) := by decide +kernel
theorem dX5_curtails_141 : decode cX5_curtails 141 = .ok (.ifCond .le 17, 3) := by decide +kernel
theorem dX5_curtails_144 : decode cX5_curtails 144 = .ok (.aload_n 0, 1) := by decide +kernel
theorem dX5_curtails_145 : decode cX5_curtails 145 = .ok (.getfield 99, 3) := by decide +kernel
theorem dX5_curtails_148 : decode cX5_curtails 148 = .ok (.iload 6, 2) := by decide +kernel
theorem dX5_curtails_150 : decode cX5_curtails 150 = .ok (.iaload, 1) := by decide +kernel
theorem dX5_curtails_151 : decode cX5_curtails 151 = .ok (.ifCond .ne 7, 3) := by decide +kernel
theorem dX5_curtails_154 : decode cX5_curtails 154 = .ok (.iload_n 3, 1) := by decide +kernel
theorem dX5_curtails_155 : decode cX5_curtails 155 = .ok (.goto 10, 3) := by decide +kernel
theorem dX5_curtails_158 : decode cX5_curtails 158 = .ok (.aload_n 0, 1) := by decide +kernel
theorem dX5_curtails_159 : decode cX5_curtails 159 = .ok (.getfield 99, 3) := by decide +kernel
theorem dX5_curtails_162 : decode cX5_curtails 162 = .ok (.iload 6, 2) := by decide +kernel
theorem dX5_curtails_164 : decode cX5_curtails 164 = .ok (.iaload, 1) := by decide +kernel
theorem dX5_curtails_165 : decode cX5_curtails 165 = .ok (.iastore, 1) := by decide +kernel
theorem dX5_curtails_166 : decode cX5_curtails 166 = .ok (.iload 4, 2) := by decide +kernel
theorem dX5_curtails_168 : decode cX5_curtails 168 = .ok (.iload 7, 2) := by decide +kernel
theorem dX5_curtails_170 : decode cX5_curtails 170 = .ok (.isub, 1) := by decide +kernel
theorem dX5_curtails_171 : decode cX5_curtails 171 = .ok (.istore 4, 2) := by decide +kernel
theorem dX5_curtails_173 : decode cX5_curtails 173 = .ok (.iinc 5 (-1), 3) := by decide +kernel
theorem dX5_curtails_176 : decode cX5_curtails 176 = .ok (.goto (-163), 3) := by decide +kernel
theorem dX5_curtails_179 : decode cX5_curtails 179 = .ok (.return_, 1) := by decide +kernel
theorem dX5_laysFirst_0 : decode cX5_laysFirst 0 = .ok (.aload_n 0, 1) := by decide +kernel
theorem dX5_laysFirst_1 : decode cX5_laysFirst 1 = .ok (.getfield 75, 3) := by decide +kernel
theorem dX5_laysFirst_4 : decode cX5_laysFirst 4 = .ok (.bipush 64, 2) := by decide +kernel
theorem dX5_laysFirst_6 : decode cX5_laysFirst 6 = .ok (.iload_n 1, 1) := by decide +kernel
theorem dX5_laysFirst_7 : decode cX5_laysFirst 7 = .ok (.imul, 1) := by decide +kernel
theorem dX5_laysFirst_8 : decode cX5_laysFirst 8 = .ok (.aload_n 0, 1) := by decide +kernel
theorem dX5_laysFirst_9 : decode cX5_laysFirst 9 = .ok (.getfield 151, 3) := by decide +kernel
theorem dX5_laysFirst_12 : decode cX5_laysFirst 12 = .ok (.bipush 64, 2) := by decide +kernel
theorem dX5_laysFirst_14 : decode cX5_laysFirst 14 = .ok (.irem, 1) := by decide +kernel
theorem dX5_laysFirst_15 : decode cX5_laysFirst 15 = .ok (.iadd, 1) := by decide +kernel
theorem dX5_laysFirst_16 : decode cX5_laysFirst 16 = .ok (.iaload, 1) := by decide +kernel
theorem dX5_laysFirst_17 : decode cX5_laysFirst 17 = .ok (.istore_n 2, 1) := by decide +kernel
theorem dX5_laysFirst_18 : decode cX5_laysFirst 18 = .ok (.aload_n 0, 1) := by decide +kernel
theorem dX5_laysFirst_19 : decode cX5_laysFirst 19 = .ok (.iload_n 1, 1) := by decide +kernel
theorem dX5_laysFirst_20 : decode cX5_laysFirst 20 = .ok (.aload_n 0, 1) := by decide +kernel
theorem dX5_laysFirst_21 : decode cX5_laysFirst 21 = .ok (.getfield 63, 3) := by decide +kernel
theorem dX5_laysFirst_24 : decode cX5_laysFirst 24 = .ok (.iload_n 1, 1) := by decide +kernel
theorem dX5_laysFirst_25 : decode cX5_laysFirst 25 = .ok (.iaload, 1) := by decide +kernel
theorem dX5_laysFirst_26 : decode cX5_laysFirst 26 = .ok (.iconst 1, 1) := by decide +kernel
theorem dX5_laysFirst_27 : decode cX5_laysFirst 27 = .ok (.invokevirtual 165, 3) := by decide +kernel
theorem dX5_laysFirst_30 : decode cX5_laysFirst 30 = .ok (.aload_n 0, 1) := by decide +kernel
theorem dX5_laysFirst_31 : decode cX5_laysFirst 31 = .ok (.getfield 51, 3) := by decide +kernel
theorem dX5_laysFirst_34 : decode cX5_laysFirst 34 = .ok (.iload_n 1, 1) := by decide +kernel
theorem dX5_laysFirst_35 : decode cX5_laysFirst 35 = .ok (.iaload, 1) := by decide +kernel
theorem dX5_laysFirst_36 : decode cX5_laysFirst 36 = .ok (.aload_n 0, 1) := by decide +kernel
theorem dX5_laysFirst_37 : decode cX5_laysFirst 37 = .ok (.getfield 63, 3) := by decide +kernel
theorem dX5_laysFirst_40 : decode cX5_laysFirst 40 = .ok (.iload_n 1, 1) := by decide +kernel
theorem dX5_laysFirst_41 : decode cX5_laysFirst 41 = .ok (.iaload, 1) := by decide +kernel
theorem dX5_laysFirst_42 : decode cX5_laysFirst 42 = .ok (.isub, 1) := by decide +kernel
theorem dX5_laysFirst_43 : decode cX5_laysFirst 43 = .ok (.invokestatic 162, 3) := by decide +kernel
theorem dX5_laysFirst_46 : decode cX5_laysFirst 46 = .ok (.istore_n 3, 1) := by decide +kernel
theorem dX5_laysFirst_47 : decode cX5_laysFirst 47 = .ok (.aload_n 0, 1) := by decide +kernel
theorem dX5_laysFirst_48 : decode cX5_laysFirst 48 = .ok (.iload_n 1, 1) := by decide +kernel
theorem dX5_laysFirst_49 : decode cX5_laysFirst 49 = .ok (.aload_n 0, 1) := by decide +kernel
theorem dX5_laysFirst_50 : decode cX5_laysFirst 50 = .ok (.getfield 63, 3) := by decide +kernel
theorem dX5_laysFirst_53 : decode cX5_laysFirst 53 = .ok (.iload_n 1, 1) := by decide +kernel
theorem dX5_laysFirst_54 : decode cX5_laysFirst 54 = .ok (.iaload, 1) := by decide +kernel
theorem dX5_laysFirst_55 : decode cX5_laysFirst 55 = .ok (.iconst 0, 1) := by decide +kernel
theorem dX5_laysFirst_56 : decode cX5_laysFirst 56 = .ok (.invokevirtual 165, 3) := by decide +kernel
theorem dX5_laysFirst_59 : decode cX5_laysFirst 59 = .ok (.aload_n 0, 1) := by decide +kernel
theorem dX5_laysFirst_60 : decode cX5_laysFirst 60 = .ok (.getfield 63, 3) := by decide +kernel
theorem dX5_laysFirst_63 : decode cX5_laysFirst 63 = .ok (.iload_n 1, 1) := by decide +kernel
theorem dX5_laysFirst_64 : decode cX5_laysFirst 64 = .ok (.iaload, 1) := by decide +kernel
theorem dX5_laysFirst_65 : decode cX5_laysFirst 65 = .ok (.invokestatic 162, 3) := by decide +kernel
theorem dX5_laysFirst_68 : decode cX5_laysFirst 68 = .ok (.istore 4, 2) := by decide +kernel
theorem dX5_laysFirst_70 : decode cX5_laysFirst 70 = .ok (.aload_n 0, 1) := by decide +kernel
theorem dX5_laysFirst_71 : decode cX5_laysFirst 71 = .ok (.getfield 90, 3) := by decide +kernel
theorem dX5_laysFirst_74 : decode cX5_laysFirst 74 = .ok (.iload_n 1, 1) := by decide +kernel
theorem dX5_laysFirst_75 : decode cX5_laysFirst 75 = .ok (.iload_n 2, 1) := by decide +kernel
theorem dX5_laysFirst_76 : decode cX5_laysFirst 76 = .ok (.ifCond .le 11, 3) := by decide +kernel
theorem dX5_laysFirst_79 : decode cX5_laysFirst 79 = .ok (.iload_n 2, 1) := by decide +kernel
theorem dX5_laysFirst_80 : decode cX5_laysFirst 80 = .ok (.iload_n 3, 1) := by decide +kernel
theorem dX5_laysFirst_81 : decode cX5_laysFirst 81 = .ok (.invokestatic 162, 3) := by decide +kernel
theorem dX5_laysFirst_84 : decode cX5_laysFirst 84 = .ok (.goto 4, 3) := by decide +kernel
theorem dX5_laysFirst_87 : decode cX5_laysFirst 87 = .ok (.iconst 0, 1) := by decide +kernel
theorem dX5_laysFirst_88 : decode cX5_laysFirst 88 = .ok (.iastore, 1) := by decide +kernel
theorem dX5_laysFirst_89 : decode cX5_laysFirst 89 = .ok (.aload_n 0, 1) := by decide +kernel
theorem dX5_laysFirst_90 : decode cX5_laysFirst 90 = .ok (.getfield 93, 3) := by decide +kernel
theorem dX5_laysFirst_93 : decode cX5_laysFirst 93 = .ok (.iload_n 1, 1) := by decide +kernel
theorem dX5_laysFirst_94 : decode cX5_laysFirst 94 = .ok (.iload_n 2, 1) := by decide +kernel
theorem dX5_laysFirst_95 : decode cX5_laysFirst 95 = .ok (.ifCond .ge 13, 3) := by decide +kernel
theorem dX5_laysFirst_98 : decode cX5_laysFirst 98 = .ok (.iload_n 2, 1) := by decide +kernel
theorem dX5_laysFirst_99 : decode cX5_laysFirst 99 = .ok (.ineg, 1) := by decide +kernel
theorem dX5_laysFirst_100 : decode cX5_laysFirst 100 = .ok (.iload 4, 2) := by decide +kernel
theorem dX5_laysFirst_102 : decode cX5_laysFirst 102 = .ok (.invokestatic 162, 3) := by decide +kernel
theorem dX5_laysFirst_105 : decode cX5_laysFirst 105 = .ok (.goto 4, 3) := by decide +kernel
theorem dX5_laysFirst_108 : decode cX5_laysFirst 108 = .ok (.iconst 0, 1) := by decide +kernel
theorem dX5_laysFirst_109 : decode cX5_laysFirst 109 = .ok (.iastore, 1) := by decide +kernel
theorem dX5_laysFirst_110 : decode cX5_laysFirst 110 = .ok (.aload_n 0, 1) := by decide +kernel
theorem dX5_laysFirst_111 : decode cX5_laysFirst 111 = .ok (.getfield 96, 3) := by decide +kernel
theorem dX5_laysFirst_114 : decode cX5_laysFirst 114 = .ok (.iload_n 1, 1) := by decide +kernel
theorem dX5_laysFirst_115 : decode cX5_laysFirst 115 = .ok (.iconst 0, 1) := by decide +kernel
theorem dX5_laysFirst_116 : decode cX5_laysFirst 116 = .ok (.iastore, 1) := by decide +kernel
theorem dX5_laysFirst_117 : decode cX5_laysFirst 117 = .ok (.aload_n 0, 1) := by decide +kernel
theorem dX5_laysFirst_118 : decode cX5_laysFirst 118 = .ok (.getfield 99, 3) := by decide +kernel
theorem dX5_laysFirst_121 : decode cX5_laysFirst 121 = .ok (.iload_n 1, 1) := by decide +kernel
theorem dX5_laysFirst_122 : decode cX5_laysFirst 122 = .ok (.iload_n 2, 1) := by decide +kernel
theorem dX5_laysFirst_123 : decode cX5_laysFirst 123 = .ok (.aload_n 0, 1) := by decide +kernel
theorem dX5_laysFirst_124 : decode cX5_laysFirst 124 = .ok (.getfield 90, 3) := by decide +kernel
theorem dX5_laysFirst_127 : decode cX5_laysFirst 127 = .ok (.iload_n 1, 1) := by decide +kernel
theorem dX5_laysFirst_128 : decode cX5_laysFirst 128 = .ok (.iaload, 1) := by decide +kernel
theorem dX5_laysFirst_129 : decode cX5_laysFirst 129 = .ok (.aload_n 0, 1) := by decide +kernel
theorem dX5_laysFirst_130 : decode cX5_laysFirst 130 = .ok (.getfield 93, 3) := by decide +kernel
theorem dX5_laysFirst_133 : decode cX5_laysFirst 133 = .ok (.iload_n 1, 1) := by decide +kernel
theorem dX5_laysFirst_134 : decode cX5_laysFirst 134 = .ok (.iaload, 1) := by decide +kernel
theorem dX5_laysFirst_135 : decode cX5_laysFirst 135 = .ok (.isub, 1) := by decide +kernel
theorem dX5_laysFirst_136 : decode cX5_laysFirst 136 = .ok (.if_icmp .eq 7, 3) := by decide +kernel
theorem dX5_laysFirst_139 : decode cX5_laysFirst 139 = .ok (.iconst 1, 1) := by decide +kernel
theorem dX5_laysFirst_140 : decode cX5_laysFirst 140 = .ok (.goto 4, 3) := by decide +kernel
theorem dX5_laysFirst_143 : decode cX5_laysFirst 143 = .ok (.iconst 0, 1) := by decide +kernel
theorem dX5_laysFirst_144 : decode cX5_laysFirst 144 = .ok (.iastore, 1) := by decide +kernel
theorem dX5_laysFirst_145 : decode cX5_laysFirst 145 = .ok (.return_, 1) := by decide +kernel
theorem dX5_can_0 : decode cX5_can 0 = .ok (.iload_n 1, 1) := by decide +kernel
theorem dX5_can_1 : decode cX5_can 1 = .ok (.ifCond .eq 7, 3) := by decide +kernel
theorem dX5_can_4 : decode cX5_can 4 = .ok (.iconst (-1), 1) := by decide +kernel
theorem dX5_can_5 : decode cX5_can 5 = .ok (.goto 4, 3) := by decide +kernel
theorem dX5_can_8 : decode cX5_can 8 = .ok (.iconst 1, 1) := by decide +kernel
theorem dX5_can_9 : decode cX5_can 9 = .ok (.istore_n 2, 1) := by decide +kernel
theorem dX5_can_10 : decode cX5_can 10 = .ok (.aload_n 0, 1) := by decide +kernel
theorem dX5_can_11 : decode cX5_can 11 = .ok (.getfield 169, 3) := by decide +kernel
theorem dX5_can_14 : decode cX5_can 14 = .ok (.iload_n 2, 1) := by decide +kernel
theorem dX5_can_15 : decode cX5_can 15 = .ok (.if_icmp .eq 11, 3) := by decide +kernel
theorem dX5_can_18 : decode cX5_can 18 = .ok (.aload_n 0, 1) := by decide +kernel
theorem dX5_can_19 : decode cX5_can 19 = .ok (.getfield 172, 3) := by decide +kernel
theorem dX5_can_22 : decode cX5_can 22 = .ok (.iload_n 2, 1) := by decide +kernel
theorem dX5_can_23 : decode cX5_can 23 = .ok (.if_icmp .ne 5, 3) := by decide +kernel
theorem dX5_can_26 : decode cX5_can 26 = .ok (.lconst 0, 1) := by decide +kernel
theorem dX5_can_27 : decode cX5_can 27 = .ok (.lreturn, 1) := by decide +kernel
theorem dX5_can_28 : decode cX5_can 28 = .ok (.lconst 0, 1) := by decide +kernel
theorem dX5_can_29 : decode cX5_can 29 = .ok (.lstore_n 3, 1) := by decide +kernel
theorem dX5_can_30 : decode cX5_can 30 = .ok (.iconst 0, 1) := by decide +kernel
theorem dX5_can_31 : decode cX5_can 31 = .ok (.istore 5, 2) := by decide +kernel
theorem dX5_can_33 : decode cX5_can 33 = .ok (.iload 5, 2) := by decide +kernel
theorem dX5_can_35 : decode cX5_can 35 = .ok (.aload_n 0, 1) := by decide +kernel
theorem dX5_can_36 : decode cX5_can 36 = .ok (.getfield 105, 3) := by decide +kernel
theorem dX5_can_39 : decode cX5_can 39 = .ok (.if_icmp .ge 20, 3) := by decide +kernel
theorem dX5_can_42 : decode cX5_can 42 = .ok (.lload_n 3, 1) := by decide +kernel
theorem dX5_can_43 : decode cX5_can 43 = .ok (.aload_n 0, 1) := by decide +kernel
theorem dX5_can_44 : decode cX5_can 44 = .ok (.iload 5, 2) := by decide +kernel
theorem dX5_can_46 : decode cX5_can 46 = .ok (.iload_n 1, 1) := by decide +kernel
theorem dX5_can_47 : decode cX5_can 47 = .ok (.invokevirtual 143, 3) := by decide +kernel
theorem dX5_can_50 : decode cX5_can 50 = .ok (.i2l, 1) := by decide +kernel
theorem dX5_can_51 : decode cX5_can 51 = .ok (.ladd, 1) := by decide +kernel
theorem dX5_can_52 : decode cX5_can 52 = .ok (.lstore_n 3, 1) := by decide +kernel
theorem dX5_can_53 : decode cX5_can 53 = .ok (.iinc 5 1, 3) := by decide +kernel
theorem dX5_can_56 : decode cX5_can 56 = .ok (.goto (-23), 3) := by decide +kernel
theorem dX5_can_59 : decode cX5_can 59 = .ok (.lload_n 3, 1) := by decide +kernel
theorem dX5_can_60 : decode cX5_can 60 = .ok (.lreturn, 1) := by decide +kernel
theorem dX5_lays_0 : decode cX5_lays 0 = .ok (.iconst 0, 1) := by decide +kernel
theorem dX5_lays_1 : decode cX5_lays 1 = .ok (.istore_n 1, 1) := by decide +kernel
theorem dX5_lays_2 : decode cX5_lays 2 = .ok (.iload_n 1, 1) := by decide +kernel
theorem dX5_lays_3 : decode cX5_lays 3 = .ok (.aload_n 0, 1) := by decide +kernel
theorem dX5_lays_4 : decode cX5_lays 4 = .ok (.getfield 112, 3) := by decide +kernel
theorem dX5_lays_7 : decode cX5_lays 7 = .ok (.if_icmp .ge 14, 3) := by decide +kernel
theorem dX5_lays_10 : decode cX5_lays 10 = .ok (.aload_n 0, 1) := by decide +kernel
theorem dX5_lays_11 : decode cX5_lays 11 = .ok (.iload_n 1, 1) := by decide +kernel
theorem dX5_lays_12 : decode cX5_lays 12 = .ok (.invokevirtual 175, 3) := by decide +kernel
theorem dX5_lays_15 : decode cX5_lays 15 = .ok (.iinc 1 1, 3) := by decide +kernel
theorem dX5_lays_18 : decode cX5_lays 18 = .ok (.goto (-16), 3) := by decide +kernel
theorem dX5_lays_21 : decode cX5_lays 21 = .ok (.aload_n 0, 1) := by decide +kernel
theorem dX5_lays_22 : decode cX5_lays 22 = .ok (.invokevirtual 179, 3) := by decide +kernel
theorem dX5_lays_25 : decode cX5_lays 25 = .ok (.istore_n 1, 1) := by decide +kernel
theorem dX5_lays_26 : decode cX5_lays 26 = .ok (.iload_n 1, 1) := by decide +kernel
theorem dX5_lays_27 : decode cX5_lays 27 = .ok (.iconst (-1), 1) := by decide +kernel
theorem dX5_lays_28 : decode cX5_lays 28 = .ok (.if_icmp .eq 44, 3) := by decide +kernel
theorem dX5_lays_31 : decode cX5_lays 31 = .ok (.aload_n 0, 1) := by decide +kernel
theorem dX5_lays_32 : decode cX5_lays 32 = .ok (.invokevirtual 183, 3) := by decide +kernel
theorem dX5_lays_35 : decode cX5_lays 35 = .ok (.aload_n 0, 1) := by decide +kernel
theorem dX5_lays_36 : decode cX5_lays 36 = .ok (.getfield 87, 3) := by decide +kernel
theorem dX5_lays_39 : decode cX5_lays 39 = .ok (.iload_n 1, 1) := by decide +kernel
theorem dX5_lays_40 : decode cX5_lays 40 = .ok (.iaload, 1) := by decide +kernel
theorem dX5_lays_41 : decode cX5_lays 41 = .ok (.i2l, 1) := by decide +kernel
theorem dX5_lays_42 : decode cX5_lays 42 = .ok (.lsub, 1) := by decide +kernel
theorem dX5_lays_43 : decode cX5_lays 43 = .ok (.lstore_n 2, 1) := by decide +kernel
theorem dX5_lays_44 : decode cX5_lays 44 = .ok (.lload_n 2, 1) := by decide +kernel
theorem dX5_lays_45 : decode cX5_lays 45 = .ok (.lconst 0, 1) := by decide +kernel
theorem dX5_lays_46 : decode cX5_lays 46 = .ok (.lcmp, 1) := by decide +kernel
theorem dX5_lays_47 : decode cX5_lays 47 = .ok (.ifCond .ge 7, 3) := by decide +kernel
theorem dX5_lays_50 : decode cX5_lays 50 = .ok (.iconst 0, 1) := by decide +kernel
theorem dX5_lays_51 : decode cX5_lays 51 = .ok (.goto 5, 3) := by decide +kernel
theorem dX5_lays_54 : decode cX5_lays 54 = .ok (.lload_n 2, 1) := by decide +kernel
theorem dX5_lays_55 : decode cX5_lays 55 = .ok (.l2i, 1) := by decide +kernel
theorem dX5_lays_56 : decode cX5_lays 56 = .ok (.istore 4, 2) := by decide +kernel
theorem dX5_lays_58 : decode cX5_lays 58 = .ok (.aload_n 0, 1) := by decide +kernel
theorem dX5_lays_59 : decode cX5_lays 59 = .ok (.iconst 0, 1) := by decide +kernel
theorem dX5_lays_60 : decode cX5_lays 60 = .ok (.aload_n 0, 1) := by decide +kernel
theorem dX5_lays_61 : decode cX5_lays 61 = .ok (.iconst 0, 1) := by decide +kernel
theorem dX5_lays_62 : decode cX5_lays 62 = .ok (.invokevirtual 187, 3) := by decide +kernel
theorem dX5_lays_65 : decode cX5_lays 65 = .ok (.iload 4, 2) := by decide +kernel
theorem dX5_lays_67 : decode cX5_lays 67 = .ok (.isub, 1) := by decide +kernel
theorem dX5_lays_68 : decode cX5_lays 68 = .ok (.iconst 2, 1) := by decide +kernel
theorem dX5_lays_69 : decode cX5_lays 69 = .ok (.invokevirtual 191, 3) := by decide +kernel
theorem dX5_lays_72 : decode cX5_lays 72 = .ok (.aload_n 0, 1) := by decide +kernel
theorem dX5_lays_73 : decode cX5_lays 73 = .ok (.iconst 1, 1) := by decide +kernel
theorem dX5_lays_74 : decode cX5_lays 74 = .ok (.invokevirtual 187, 3) := by decide +kernel
theorem dX5_lays_77 : decode cX5_lays 77 = .ok (.aload_n 0, 1) := by decide +kernel
theorem dX5_lays_78 : decode cX5_lays 78 = .ok (.iconst 0, 1) := by decide +kernel
theorem dX5_lays_79 : decode cX5_lays 79 = .ok (.invokevirtual 187, 3) := by decide +kernel
theorem dX5_lays_82 : decode cX5_lays 82 = .ok (.isub, 1) := by decide +kernel
theorem dX5_lays_83 : decode cX5_lays 83 = .ok (.istore_n 2, 1) := by decide +kernel
theorem dX5_lays_84 : decode cX5_lays 84 = .ok (.iload_n 2, 1) := by decide +kernel
theorem dX5_lays_85 : decode cX5_lays 85 = .ok (.ifCond .eq 55, 3) := by decide +kernel
theorem dX5_lays_88 : decode cX5_lays 88 = .ok (.iload_n 2, 1) := by decide +kernel
theorem dX5_lays_89 : decode cX5_lays 89 = .ok (.ifCond .le 7, 3) := by decide +kernel
theorem dX5_lays_92 : decode cX5_lays 92 = .ok (.iload_n 2, 1) := by decide +kernel
theorem dX5_lays_93 : decode cX5_lays 93 = .ok (.goto 5, 3) := by decide +kernel
theorem dX5_lays_96 : decode cX5_lays 96 = .ok (.iload_n 2, 1) := by decide +kernel
theorem dX5_lays_97 : decode cX5_lays 97 = .ok (.ineg, 1) := by decide +kernel
theorem dX5_lays_98 : decode cX5_lays 98 = .ok (.i2l, 1) := by decide +kernel
theorem dX5_lays_99 : decode cX5_lays 99 = .ok (.aload_n 0, 1) := by decide +kernel
theorem dX5_lays_100 : decode cX5_lays 100 = .ok (.iload_n 2, 1) := by decide +kernel
theorem dX5_lays_101 : decode cX5_lays 101 = .ok (.ifCond .le 7, 3) := by decide +kernel
theorem dX5_lays_104 : decode cX5_lays 104 = .ok (.iconst 1, 1) := by decide +kernel
theorem dX5_lays_105 : decode cX5_lays 105 = .ok (.goto 4, 3) := by decide +kernel
theorem dX5_lays_108 : decode cX5_lays 108 = .ok (.iconst 0, 1) := by decide +kernel
theorem dX5_lays_109 : decode cX5_lays 109 = .ok (.invokevirtual 195, 3) := by decide +kernel
theorem dX5_lays_112 : decode cX5_lays 112 = .ok (.lsub, 1) := by decide +kernel
theorem dX5_lays_113 : decode cX5_lays 113 = .ok (.lstore_n 3, 1) := by decide +kernel
theorem dX5_lays_114 : decode cX5_lays 114 = .ok (.aload_n 0, 1) := by decide +kernel
theorem dX5_lays_115 : decode cX5_lays 115 = .ok (.iload_n 2, 1) := by decide +kernel
theorem dX5_lays_116 : decode cX5_lays 116 = .ok (.ifCond .le 7, 3) := by decide +kernel
theorem dX5_lays_119 : decode cX5_lays 119 = .ok (.iconst 1, 1) := by decide +kernel
theorem dX5_lays_120 : decode cX5_lays 120 = .ok (.goto 4, 3) := by decide +kernel
theorem dX5_lays_123 : decode cX5_lays 123 = .ok (.iconst 0, 1) := by decide +kernel
theorem dX5_lays_124 : decode cX5_lays 124 = .ok (.lload_n 3, 1) := by decide +kernel
theorem dX5_lays_125 : decode cX5_lays 125 = .ok (.lconst 0, 1) := by decide +kernel
theorem dX5_lays_126 : decode cX5_lays 126 = .ok (.lcmp, 1) := by decide +kernel
theorem dX5_lays_127 : decode cX5_lays 127 = .ok (.ifCond .le 8, 3) := by decide +kernel
theorem dX5_lays_130 : decode cX5_lays 130 = .ok (.lload_n 3, 1) := by decide +kernel
theorem dX5_lays_131 : decode cX5_lays 131 = .ok (.l2i, 1) := by decide +kernel
theorem dX5_lays_132 : decode cX5_lays 132 = .ok (.goto 4, 3) := by decide +kernel
theorem dX5_lays_135 : decode cX5_lays 135 = .ok (.iconst 0, 1) := by decide +kernel
theorem dX5_lays_136 : decode cX5_lays 136 = .ok (.iconst 3, 1) := by decide +kernel
theorem dX5_lays_137 : decode cX5_lays 137 = .ok (.invokevirtual 191, 3) := by decide +kernel
theorem dX5_lays_140 : decode cX5_lays 140 = .ok (.return_, 1) := by decide +kernel
theorem dX5_loses_0 : decode cX5_loses 0 = .ok (.aload_n 0, 1) := by decide +kernel
theorem dX5_loses_1 : decode cX5_loses 1 = .ok (.getfield 40, 3) := by decide +kernel
theorem dX5_loses_4 : decode cX5_loses 4 = .ok (.iload_n 1, 1) := by decide +kernel
theorem dX5_loses_5 : decode cX5_loses 5 = .ok (.dup2, 1) := by decide +kernel
theorem dX5_loses_6 : decode cX5_loses 6 = .ok (.laload, 1) := by decide +kernel
theorem dX5_loses_7 : decode cX5_loses 7 = .ok (.aload_n 0, 1) := by decide +kernel
theorem dX5_loses_8 : decode cX5_loses 8 = .ok (.getfield 19, 3) := by decide +kernel
theorem dX5_loses_11 : decode cX5_loses 11 = .ok (.iload_n 1, 1) := by decide +kernel
theorem dX5_loses_12 : decode cX5_loses 12 = .ok (.iaload, 1) := by decide +kernel
theorem dX5_loses_13 : decode cX5_loses 13 = .ok (.ifCond .ne 7, 3) := by decide +kernel
theorem dX5_loses_16 : decode cX5_loses 16 = .ok (.lconst 0, 1) := by decide +kernel
theorem dX5_loses_17 : decode cX5_loses 17 = .ok (.goto 20, 3) := by decide +kernel
theorem dX5_loses_20 : decode cX5_loses 20 = .ok (.iload_n 2, 1) := by decide +kernel
theorem dX5_loses_21 : decode cX5_loses 21 = .ok (.i2l, 1) := by decide +kernel
theorem dX5_loses_22 : decode cX5_loses 22 = .ok (.aload_n 0, 1) := by decide +kernel
theorem dX5_loses_23 : decode cX5_loses 23 = .ok (.getfield 40, 3) := by decide +kernel
theorem dX5_loses_26 : decode cX5_loses 26 = .ok (.iload_n 1, 1) := by decide +kernel
theorem dX5_loses_27 : decode cX5_loses 27 = .ok (.laload, 1) := by decide +kernel
theorem dX5_loses_28 : decode cX5_loses 28 = .ok (.lmul, 1) := by decide +kernel
theorem dX5_loses_29 : decode cX5_loses 29 = .ok (.aload_n 0, 1) := by decide +kernel
theorem dX5_loses_30 : decode cX5_loses 30 = .ok (.getfield 19, 3) := by decide +kernel
theorem dX5_loses_33 : decode cX5_loses 33 = .ok (.iload_n 1, 1) := by decide +kernel
theorem dX5_loses_34 : decode cX5_loses 34 = .ok (.iaload, 1) := by decide +kernel
theorem dX5_loses_35 : decode cX5_loses 35 = .ok (.i2l, 1) := by decide +kernel
theorem dX5_loses_36 : decode cX5_loses 36 = .ok (.ldiv, 1) := by decide +kernel
theorem dX5_loses_37 : decode cX5_loses 37 = .ok (.lsub, 1) := by decide +kernel
theorem dX5_loses_38 : decode cX5_loses 38 = .ok (.lastore, 1) := by decide +kernel
theorem dX5_loses_39 : decode cX5_loses 39 = .ok (.aload_n 0, 1) := by decide +kernel
theorem dX5_loses_40 : decode cX5_loses 40 = .ok (.getfield 19, 3) := by decide +kernel
theorem dX5_loses_43 : decode cX5_loses 43 = .ok (.iload_n 1, 1) := by decide +kernel
theorem dX5_loses_44 : decode cX5_loses 44 = .ok (.dup2, 1) := by decide +kernel
theorem dX5_loses_45 : decode cX5_loses 45 = .ok (.iaload, 1) := by decide +kernel
theorem dX5_loses_46 : decode cX5_loses 46 = .ok (.iload_n 2, 1) := by decide +kernel
theorem dX5_loses_47 : decode cX5_loses 47 = .ok (.isub, 1) := by decide +kernel
theorem dX5_loses_48 : decode cX5_loses 48 = .ok (.iastore, 1) := by decide +kernel
theorem dX5_loses_49 : decode cX5_loses 49 = .ok (.return_, 1) := by decide +kernel
theorem dX5_gets_0 : decode cX5_gets 0 = .ok (.aload_n 0, 1) := by decide +kernel
theorem dX5_gets_1 : decode cX5_gets 1 = .ok (.getfield 19, 3) := by decide +kernel
theorem dX5_gets_4 : decode cX5_gets 4 = .ok (.iload_n 1, 1) := by decide +kernel
theorem dX5_gets_5 : decode cX5_gets 5 = .ok (.dup2, 1) := by decide +kernel
theorem dX5_gets_6 : decode cX5_gets 6 = .ok (.iaload, 1) := by decide +kernel
theorem dX5_gets_7 : decode cX5_gets 7 = .ok (.iload_n 2, 1) := by decide +kernel
theorem dX5_gets_8 : decode cX5_gets 8 = .ok (.iadd, 1) := by decide +kernel
theorem dX5_gets_9 : decode cX5_gets 9 = .ok (.iastore, 1) := by decide +kernel
theorem dX5_gets_10 : decode cX5_gets 10 = .ok (.aload_n 0, 1) := by decide +kernel
theorem dX5_gets_11 : decode cX5_gets 11 = .ok (.getfield 40, 3) := by decide +kernel
theorem dX5_gets_14 : decode cX5_gets 14 = .ok (.iload_n 1, 1) := by decide +kernel
theorem dX5_gets_15 : decode cX5_gets 15 = .ok (.dup2, 1) := by decide +kernel
theorem dX5_gets_16 : decode cX5_gets 16 = .ok (.laload, 1) := by decide +kernel
theorem dX5_gets_17 : decode cX5_gets 17 = .ok (.iload_n 2, 1) := by decide +kernel
theorem dX5_gets_18 : decode cX5_gets 18 = .ok (.i2l, 1) := by decide +kernel
theorem dX5_gets_19 : decode cX5_gets 19 = .ok (.aload_n 0, 1) := by decide +kernel
theorem dX5_gets_20 : decode cX5_gets 20 = .ok (.getfield 47, 3) := by decide +kernel
theorem dX5_gets_23 : decode cX5_gets 23 = .ok (.i2l, 1) := by decide +kernel
theorem dX5_gets_24 : decode cX5_gets 24 = .ok (.lmul, 1) := by decide +kernel
theorem dX5_gets_25 : decode cX5_gets 25 = .ok (.ladd, 1) := by decide +kernel
theorem dX5_gets_26 : decode cX5_gets 26 = .ok (.lastore, 1) := by decide +kernel
theorem dX5_gets_27 : decode cX5_gets 27 = .ok (.return_, 1) := by decide +kernel
theorem dX5_isLost_0 : decode cX5_isLost 0 = .ok (.aload_n 0, 1) := by decide +kernel
theorem dX5_isLost_1 : decode cX5_isLost 1 = .ok (.iload_n 1, 1) := by decide +kernel
theorem dX5_isLost_2 : decode cX5_isLost 2 = .ok (.iload_n 2, 1) := by decide +kernel
theorem dX5_isLost_3 : decode cX5_isLost 3 = .ok (.invokevirtual 199, 3) := by decide +kernel
theorem dX5_isLost_6 : decode cX5_isLost 6 = .ok (.aload_n 0, 1) := by decide +kernel
theorem dX5_isLost_7 : decode cX5_isLost 7 = .ok (.dup, 1) := by decide +kernel
theorem dX5_isLost_8 : decode cX5_isLost 8 = .ok (.getfield 203, 3) := by decide +kernel
theorem dX5_isLost_11 : decode cX5_isLost 11 = .ok (.iload_n 2, 1) := by decide +kernel
theorem dX5_isLost_12 : decode cX5_isLost 12 = .ok (.i2l, 1) := by decide +kernel
theorem dX5_isLost_13 : decode cX5_isLost 13 = .ok (.ladd, 1) := by decide +kernel
theorem dX5_isLost_14 : decode cX5_isLost 14 = .ok (.putfield 203, 3) := by decide +kernel
theorem dX5_isLost_17 : decode cX5_isLost 17 = .ok (.return_, 1) := by decide +kernel
theorem dX5_flows_0 : decode cX5_flows 0 = .ok (.iconst 0, 1) := by decide +kernel
theorem dX5_flows_1 : decode cX5_flows 1 = .ok (.istore_n 2, 1) := by decide +kernel
theorem dX5_flows_2 : decode cX5_flows 2 = .ok (.iload_n 2, 1) := by decide +kernel
theorem dX5_flows_3 : decode cX5_flows 3 = .ok (.aload_n 0, 1) := by decide +kernel
theorem dX5_flows_4 : decode cX5_flows 4 = .ok (.getfield 105, 3) := by decide +kernel
theorem dX5_flows_7 : decode cX5_flows 7 = .ok (.if_icmp .ge 29, 3) := by decide +kernel
theorem dX5_flows_10 : decode cX5_flows 10 = .ok (.aload_n 0, 1) := by decide +kernel
theorem dX5_flows_11 : decode cX5_flows 11 = .ok (.getfield 44, 3) := by decide +kernel
theorem dX5_flows_14 : decode cX5_flows 14 = .ok (.iload_n 2, 1) := by decide +kernel
theorem dX5_flows_15 : decode cX5_flows 15 = .ok (.aload_n 0, 1) := by decide +kernel
theorem dX5_flows_16 : decode cX5_flows 16 = .ok (.iload_n 2, 1) := by decide +kernel
theorem dX5_flows_17 : decode cX5_flows 17 = .ok (.iload_n 1, 1) := by decide +kernel
theorem dX5_flows_18 : decode cX5_flows 18 = .ok (.ifCond .le 7, 3) := by decide +kernel
theorem dX5_flows_21 : decode cX5_flows 21 = .ok (.iconst 1, 1) := by decide +kernel
theorem dX5_flows_22 : decode cX5_flows 22 = .ok (.goto 4, 3) := by decide +kernel
theorem dX5_flows_25 : decode cX5_flows 25 = .ok (.iconst 0, 1) := by decide +kernel
theorem dX5_flows_26 : decode cX5_flows 26 = .ok (.invokevirtual 143, 3) := by decide +kernel
theorem dX5_flows_29 : decode cX5_flows 29 = .ok (.iastore, 1) := by decide +kernel
theorem dX5_flows_30 : decode cX5_flows 30 = .ok (.iinc 2 1, 3) := by decide +kernel
theorem dX5_flows_33 : decode cX5_flows 33 = .ok (.goto (-31), 3) := by decide +kernel
theorem dX5_flows_36 : decode cX5_flows 36 = .ok (.iload_n 1, 1) := by decide +kernel
theorem dX5_flows_37 : decode cX5_flows 37 = .ok (.ifCond .le 7, 3) := by decide +kernel
theorem dX5_flows_40 : decode cX5_flows 40 = .ok (.iload_n 1, 1) := by decide +kernel
theorem dX5_flows_41 : decode cX5_flows 41 = .ok (.goto 5, 3) := by decide +kernel
theorem dX5_flows_44 : decode cX5_flows 44 = .ok (.iload_n 1, 1) := by decide +kernel
theorem dX5_flows_45 : decode cX5_flows 45 = .ok (.ineg, 1) := by decide +kernel
theorem dX5_flows_46 : decode cX5_flows 46 = .ok (.istore_n 2, 1) := by decide +kernel
theorem dX5_flows_47 : decode cX5_flows 47 = .ok (.aload_n 0, 1) := by decide +kernel
theorem dX5_flows_48 : decode cX5_flows 48 = .ok (.dup, 1) := by decide +kernel
theorem dX5_flows_49 : decode cX5_flows 49 = .ok (.getfield 136, 3) := by decide +kernel
theorem dX5_flows_52 : decode cX5_flows 52 = .ok (.iload_n 1, 1) := by decide +kernel
theorem dX5_flows_53 : decode cX5_flows 53 = .ok (.ifCond .le 8, 3) := by decide +kernel
theorem dX5_flows_56 : decode cX5_flows 56 = .ok (.iload_n 2, 1) := by decide +kernel
theorem dX5_flows_57 : decode cX5_flows 57 = .ok (.i2l, 1) := by decide +kernel
theorem dX5_flows_58 : decode cX5_flows 58 = .ok (.goto 4, 3) := by decide +kernel
theorem dX5_flows_61 : decode cX5_flows 61 = .ok (.lconst 0, 1) := by decide +kernel
theorem dX5_flows_62 : decode cX5_flows 62 = .ok (.ladd, 1) := by decide +kernel
theorem dX5_flows_63 : decode cX5_flows 63 = .ok (.putfield 136, 3) := by decide +kernel
theorem dX5_flows_66 : decode cX5_flows 66 = .ok (.aload_n 0, 1) := by decide +kernel
theorem dX5_flows_67 : decode cX5_flows 67 = .ok (.dup, 1) := by decide +kernel
theorem dX5_flows_68 : decode cX5_flows 68 = .ok (.getfield 206, 3) := by decide +kernel
theorem dX5_flows_71 : decode cX5_flows 71 = .ok (.iload_n 1, 1) := by decide +kernel
theorem dX5_flows_72 : decode cX5_flows 72 = .ok (.ifCond .le 7, 3) := by decide +kernel
theorem dX5_flows_75 : decode cX5_flows 75 = .ok (.lconst 0, 1) := by decide +kernel
theorem dX5_flows_76 : decode cX5_flows 76 = .ok (.goto 5, 3) := by decide +kernel
theorem dX5_flows_79 : decode cX5_flows 79 = .ok (.iload_n 2, 1) := by decide +kernel
theorem dX5_flows_80 : decode cX5_flows 80 = .ok (.i2l, 1) := by decide +kernel
theorem dX5_flows_81 : decode cX5_flows 81 = .ok (.ladd, 1) := by decide +kernel
theorem dX5_flows_82 : decode cX5_flows 82 = .ok (.putfield 206, 3) := by decide +kernel
theorem dX5_flows_85 : decode cX5_flows 85 = .ok (.iconst 0, 1) := by decide +kernel
theorem dX5_flows_86 : decode cX5_flows 86 = .ok (.istore_n 3, 1) := by decide +kernel
theorem dX5_flows_87 : decode cX5_flows 87 = .ok (.iload_n 3, 1) := by decide +kernel
theorem dX5_flows_88 : decode cX5_flows 88 = .ok (.aload_n 0, 1) := by decide +kernel
theorem dX5_flows_89 : decode cX5_flows 89 = .ok (.getfield 105, 3) := by decide +kernel
theorem dX5_flows_92 : decode cX5_flows 92 = .ok (.if_icmp .ge 47, 3) := by decide +kernel
theorem dX5_flows_95 : decode cX5_flows 95 = .ok (.iload_n 2, 1) := by decide +kernel
theorem dX5_flows_96 : decode cX5_flows 96 = .ok (.aload_n 0, 1) := by decide +kernel
theorem dX5_flows_97 : decode cX5_flows 97 = .ok (.getfield 44, 3) := by decide +kernel
theorem dX5_flows_100 : decode cX5_flows 100 = .ok (.iload_n 3, 1) := by decide +kernel
theorem dX5_flows_101 : decode cX5_flows 101 = .ok (.iaload, 1) := by decide +kernel
theorem dX5_flows_102 : decode cX5_flows 102 = .ok (.invokestatic 162, 3) := by decide +kernel
theorem dX5_flows_105 : decode cX5_flows 105 = .ok (.istore 4, 2) := by decide +kernel
theorem dX5_flows_107 : decode cX5_flows 107 = .ok (.iload_n 1, 1) := by decide +kernel
theorem dX5_flows_108 : decode cX5_flows 108 = .ok (.ifCond .le 13, 3) := by decide +kernel
theorem dX5_flows_111 : decode cX5_flows 111 = .ok (.aload_n 0, 1) := by decide +kernel
theorem dX5_flows_112 : decode cX5_flows 112 = .ok (.iload_n 3, 1) := by decide +kernel
theorem dX5_flows_113 : decode cX5_flows 113 = .ok (.iload 4, 2) := by decide +kernel
theorem dX5_flows_115 : decode cX5_flows 115 = .ok (.invokevirtual 209, 3) := by decide +kernel
theorem dX5_flows_118 : decode cX5_flows 118 = .ok (.goto 10, 3) := by decide +kernel
theorem dX5_flows_121 : decode cX5_flows 121 = .ok (.aload_n 0, 1) := by decide +kernel
theorem dX5_flows_122 : decode cX5_flows 122 = .ok (.iload_n 3, 1) := by decide +kernel
theorem dX5_flows_123 : decode cX5_flows 123 = .ok (.iload 4, 2) := by decide +kernel
theorem dX5_flows_125 : decode cX5_flows 125 = .ok (.invokevirtual 199, 3) := by decide +kernel
theorem dX5_flows_128 : decode cX5_flows 128 = .ok (.iload_n 2, 1) := by decide +kernel
theorem dX5_flows_129 : decode cX5_flows 129 = .ok (.iload 4, 2) := by decide +kernel
theorem dX5_flows_131 : decode cX5_flows 131 = .ok (.isub, 1) := by decide +kernel
theorem dX5_flows_132 : decode cX5_flows 132 = .ok (.istore_n 2, 1) := by decide +kernel
theorem dX5_flows_133 : decode cX5_flows 133 = .ok (.iinc 3 1, 3) := by decide +kernel
theorem dX5_flows_136 : decode cX5_flows 136 = .ok (.goto (-49), 3) := by decide +kernel
theorem dX5_flows_139 : decode cX5_flows 139 = .ok (.return_, 1) := by decide +kernel
theorem dX5_leaks_0 : decode cX5_leaks 0 = .ok (.aload_n 0, 1) := by decide +kernel
theorem dX5_leaks_1 : decode cX5_leaks 1 = .ok (.iload_n 1, 1) := by decide +kernel
theorem dX5_leaks_2 : decode cX5_leaks 2 = .ok (.aload_n 0, 1) := by decide +kernel
theorem dX5_leaks_3 : decode cX5_leaks 3 = .ok (.getfield 37, 3) := by decide +kernel
theorem dX5_leaks_6 : decode cX5_leaks 6 = .ok (.iload_n 1, 1) := by decide +kernel
theorem dX5_leaks_7 : decode cX5_leaks 7 = .ok (.iaload, 1) := by decide +kernel
theorem dX5_leaks_8 : decode cX5_leaks 8 = .ok (.aload_n 0, 1) := by decide +kernel
theorem dX5_leaks_9 : decode cX5_leaks 9 = .ok (.getfield 19, 3) := by decide +kernel
theorem dX5_leaks_12 : decode cX5_leaks 12 = .ok (.iload_n 1, 1) := by decide +kernel
theorem dX5_leaks_13 : decode cX5_leaks 13 = .ok (.iaload, 1) := by decide +kernel
theorem dX5_leaks_14 : decode cX5_leaks 14 = .ok (.invokestatic 162, 3) := by decide +kernel
theorem dX5_leaks_17 : decode cX5_leaks 17 = .ok (.invokevirtual 212, 3) := by decide +kernel
theorem dX5_leaks_20 : decode cX5_leaks 20 = .ok (.aload_n 0, 1) := by decide +kernel
theorem dX5_leaks_21 : decode cX5_leaks 21 = .ok (.getfield 7, 3) := by decide +kernel
theorem dX5_leaks_24 : decode cX5_leaks 24 = .ok (.iload_n 1, 1) := by decide +kernel
theorem dX5_leaks_25 : decode cX5_leaks 25 = .ok (.iaload, 1) := by decide +kernel
theorem dX5_leaks_26 : decode cX5_leaks 26 = .ok (.iconst 2, 1) := by decide +kernel
theorem dX5_leaks_27 : decode cX5_leaks 27 = .ok (.if_icmp .ne 36, 3) := by decide +kernel
theorem dX5_leaks_30 : decode cX5_leaks 30 = .ok (.aload_n 0, 1) := by decide +kernel
theorem dX5_leaks_31 : decode cX5_leaks 31 = .ok (.getfield 19, 3) := by decide +kernel
theorem dX5_leaks_34 : decode cX5_leaks 34 = .ok (.iload_n 1, 1) := by decide +kernel
theorem dX5_leaks_35 : decode cX5_leaks 35 = .ok (.iaload, 1) := by decide +kernel
theorem dX5_leaks_36 : decode cX5_leaks 36 = .ok (.aload_n 0, 1) := by decide +kernel
theorem dX5_leaks_37 : decode cX5_leaks 37 = .ok (.getfield 28, 3) := by decide +kernel
theorem dX5_leaks_40 : decode cX5_leaks 40 = .ok (.iload_n 1, 1) := by decide +kernel
theorem dX5_leaks_41 : decode cX5_leaks 41 = .ok (.iaload, 1) := by decide +kernel
theorem dX5_leaks_42 : decode cX5_leaks 42 = .ok (.if_icmp .le 21, 3) := by decide +kernel
theorem dX5_leaks_45 : decode cX5_leaks 45 = .ok (.aload_n 0, 1) := by decide +kernel
theorem dX5_leaks_46 : decode cX5_leaks 46 = .ok (.iload_n 1, 1) := by decide +kernel
theorem dX5_leaks_47 : decode cX5_leaks 47 = .ok (.aload_n 0, 1) := by decide +kernel
theorem dX5_leaks_48 : decode cX5_leaks 48 = .ok (.getfield 19, 3) := by decide +kernel
theorem dX5_leaks_51 : decode cX5_leaks 51 = .ok (.iload_n 1, 1) := by decide +kernel
theorem dX5_leaks_52 : decode cX5_leaks 52 = .ok (.iaload, 1) := by decide +kernel
theorem dX5_leaks_53 : decode cX5_leaks 53 = .ok (.aload_n 0, 1) := by decide +kernel
theorem dX5_leaks_54 : decode cX5_leaks 54 = .ok (.getfield 28, 3) := by decide +kernel
theorem dX5_leaks_57 : decode cX5_leaks 57 = .ok (.iload_n 1, 1) := by decide +kernel
theorem dX5_leaks_58 : decode cX5_leaks 58 = .ok (.iaload, 1) := by decide +kernel
theorem dX5_leaks_59 : decode cX5_leaks 59 = .ok (.isub, 1) := by decide +kernel
theorem dX5_leaks_60 : decode cX5_leaks 60 = .ok (.invokevirtual 212, 3) := by decide +kernel
theorem dX5_leaks_63 : decode cX5_leaks 63 = .ok (.return_, 1) := by decide +kernel
theorem dX5_endsDay_0 : decode cX5_endsDay 0 = .ok (.aload_n 0, 1) := by decide +kernel
theorem dX5_endsDay_1 : decode cX5_endsDay 1 = .ok (.iload_n 1, 1) := by decide +kernel
theorem dX5_endsDay_2 : decode cX5_endsDay 2 = .ok (.invokevirtual 119, 3) := by decide +kernel
theorem dX5_endsDay_5 : decode cX5_endsDay 5 = .ok (.istore_n 2, 1) := by decide +kernel
theorem dX5_endsDay_6 : decode cX5_endsDay 6 = .ok (.aload_n 0, 1) := by decide +kernel
theorem dX5_endsDay_7 : decode cX5_endsDay 7 = .ok (.getfield 7, 3) := by decide +kernel
theorem dX5_endsDay_10 : decode cX5_endsDay 10 = .ok (.iload_n 1, 1) := by decide +kernel
theorem dX5_endsDay_11 : decode cX5_endsDay 11 = .ok (.iaload, 1) := by decide +kernel
theorem dX5_endsDay_12 : decode cX5_endsDay 12 = .ok (.ifCond .ne 66, 3) := by decide +kernel
theorem dX5_endsDay_15 : decode cX5_endsDay 15 = .ok (.aload_n 0, 1) := by decide +kernel
theorem dX5_endsDay_16 : decode cX5_endsDay 16 = .ok (.getfield 16, 3) := by decide +kernel
theorem dX5_endsDay_19 : decode cX5_endsDay 19 = .ok (.iload_n 1, 1) := by decide +kernel
theorem dX5_endsDay_20 : decode cX5_endsDay 20 = .ok (.dup2, 1) := by decide +kernel
theorem dX5_endsDay_21 : decode cX5_endsDay 21 = .ok (.iaload, 1) := by decide +kernel
theorem dX5_endsDay_22 : decode cX5_endsDay 22 = .ok (.iload_n 2, 1) := by decide +kernel
theorem dX5_endsDay_23 : decode cX5_endsDay 23 = .ok (.aload_n 0, 1) := by decide +kernel
theorem dX5_endsDay_24 : decode cX5_endsDay 24 = .ok (.getfield 28, 3) := by decide +kernel
theorem dX5_endsDay_27 : decode cX5_endsDay 27 = .ok (.iload_n 1, 1) := by decide +kernel
theorem dX5_endsDay_28 : decode cX5_endsDay 28 = .ok (.iaload, 1) := by decide +kernel
theorem dX5_endsDay_29 : decode cX5_endsDay 29 = .ok (.if_icmp .ge 15, 3) := by decide +kernel
theorem dX5_endsDay_32 : decode cX5_endsDay 32 = .ok (.aload_n 0, 1) := by decide +kernel
theorem dX5_endsDay_33 : decode cX5_endsDay 33 = .ok (.iload_n 1, 1) := by decide +kernel
theorem dX5_endsDay_34 : decode cX5_endsDay 34 = .ok (.invokevirtual 115, 3) := by decide +kernel
theorem dX5_endsDay_37 : decode cX5_endsDay 37 = .ok (.sipush 200, 3) := by decide +kernel
theorem dX5_endsDay_40 : decode cX5_endsDay 40 = .ok (.idiv, 1) := by decide +kernel
theorem dX5_endsDay_41 : decode cX5_endsDay 41 = .ok (.goto 32, 3) := by decide +kernel
theorem dX5_endsDay_44 : decode cX5_endsDay 44 = .ok (.iload_n 2, 1) := by decide +kernel
theorem dX5_endsDay_45 : decode cX5_endsDay 45 = .ok (.aload_n 0, 1) := by decide +kernel
theorem dX5_endsDay_46 : decode cX5_endsDay 46 = .ok (.getfield 28, 3) := by decide +kernel
theorem dX5_endsDay_49 : decode cX5_endsDay 49 = .ok (.iload_n 1, 1) := by decide +kernel
theorem dX5_endsDay_50 : decode cX5_endsDay 50 = .ok (.iaload, 1) := by decide +kernel
theorem dX5_endsDay_51 : decode cX5_endsDay 51 = .ok (.if_icmp .le 21, 3) := by decide +kernel
theorem dX5_endsDay_54 : decode cX5_endsDay 54 = .ok (.aload_n 0, 1) := by decide +kernel
theorem dX5_endsDay_55 : decode cX5_endsDay 55 = .ok (.getfield 16, 3) := by decide +kernel
theorem dX5_endsDay_58 : decode cX5_endsDay 58 = .ok (.iload_n 1, 1) := by decide +kernel
theorem dX5_endsDay_59 : decode cX5_endsDay 59 = .ok (.iaload, 1) := by decide +kernel
theorem dX5_endsDay_60 : decode cX5_endsDay 60 = .ok (.sipush 199, 3) := by decide +kernel
theorem dX5_endsDay_63 : decode cX5_endsDay 63 = .ok (.iadd, 1) := by decide +kernel
theorem dX5_endsDay_64 : decode cX5_endsDay 64 = .ok (.sipush 200, 3) := by decide +kernel
theorem dX5_endsDay_67 : decode cX5_endsDay 67 = .ok (.idiv, 1) := by decide +kernel
theorem dX5_endsDay_68 : decode cX5_endsDay 68 = .ok (.ineg, 1) := by decide +kernel
theorem dX5_endsDay_69 : decode cX5_endsDay 69 = .ok (.goto 4, 3) := by decide +kernel
theorem dX5_endsDay_72 : decode cX5_endsDay 72 = .ok (.iconst 0, 1) := by decide +kernel
theorem dX5_endsDay_73 : decode cX5_endsDay 73 = .ok (.iadd, 1) := by decide +kernel
theorem dX5_endsDay_74 : decode cX5_endsDay 74 = .ok (.iastore, 1) := by decide +kernel
theorem dX5_endsDay_75 : decode cX5_endsDay 75 = .ok (.goto 77, 3) := by decide +kernel
theorem dX5_endsDay_78 : decode cX5_endsDay 78 = .ok (.aload_n 0, 1) := by decide +kernel
theorem dX5_endsDay_79 : decode cX5_endsDay 79 = .ok (.getfield 7, 3) := by decide +kernel
theorem dX5_endsDay_82 : decode cX5_endsDay 82 = .ok (.iload_n 1, 1) := by decide +kernel
theorem dX5_endsDay_83 : decode cX5_endsDay 83 = .ok (.iaload, 1) := by decide +kernel
theorem dX5_endsDay_84 : decode cX5_endsDay 84 = .ok (.iconst 1, 1) := by decide +kernel
theorem dX5_endsDay_85 : decode cX5_endsDay 85 = .ok (.if_icmp .ne 67, 3) := by decide +kernel
theorem dX5_endsDay_88 : decode cX5_endsDay 88 = .ok (.iload_n 2, 1) := by decide +kernel
theorem dX5_endsDay_89 : decode cX5_endsDay 89 = .ok (.aload_n 0, 1) := by decide +kernel
theorem dX5_endsDay_90 : decode cX5_endsDay 90 = .ok (.getfield 28, 3) := by decide +kernel
theorem dX5_endsDay_93 : decode cX5_endsDay 93 = .ok (.iload_n 1, 1) := by decide +kernel
theorem dX5_endsDay_94 : decode cX5_endsDay 94 = .ok (.iaload, 1) := by decide +kernel
theorem dX5_endsDay_95 : decode cX5_endsDay 95 = .ok (.if_icmp .ge 57, 3) := by decide +kernel
theorem dX5_endsDay_98 : decode cX5_endsDay 98 = .ok (.aload_n 0, 1) := by decide +kernel
theorem dX5_endsDay_99 : decode cX5_endsDay 99 = .ok (.getfield 13, 3) := by decide +kernel
theorem dX5_endsDay_102 : decode cX5_endsDay 102 = .ok (.iload_n 1, 1) := by decide +kernel
theorem dX5_endsDay_103 : decode cX5_endsDay 103 = .ok (.iaload, 1) := by decide +kernel
theorem dX5_endsDay_104 : decode cX5_endsDay 104 = .ok (.i2l, 1) := by decide +kernel
theorem dX5_endsDay_105 : decode cX5_endsDay 105 = .ok (.aload_n 0, 1) := by decide +kernel
theorem dX5_endsDay_106 : decode cX5_endsDay 106 = .ok (.getfield 28, 3) := by decide +kernel
theorem dX5_endsDay_109 : decode cX5_endsDay 109 = .ok (.iload_n 1, 1) := by decide +kernel
theorem dX5_endsDay_110 : decode cX5_endsDay 110 = .ok (.iaload, 1) := by decide +kernel
theorem dX5_endsDay_111 : decode cX5_endsDay 111 = .ok (.iload_n 2, 1) := by decide +kernel
theorem dX5_endsDay_112 : decode cX5_endsDay 112 = .ok (.isub, 1) := by decide +kernel
theorem dX5_endsDay_113 : decode cX5_endsDay 113 = .ok (.i2l, 1) := by decide +kernel
theorem dX5_endsDay_114 : decode cX5_endsDay 114 = .ok (.lmul, 1) := by decide +kernel
theorem dX5_endsDay_115 : decode cX5_endsDay 115 = .ok (.ldc2_w 215, 3) := by decide +kernel
theorem dX5_endsDay_118 : decode cX5_endsDay 118 = .ok (.ldiv, 1) := by decide +kernel
theorem dX5_endsDay_119 : decode cX5_endsDay 119 = .ok (.lstore_n 3, 1) := by decide +kernel
theorem dX5_endsDay_120 : decode cX5_endsDay 120 = .ok (.aload_n 0, 1) := by decide +kernel
theorem dX5_endsDay_121 : decode cX5_endsDay 121 = .ok (.getfield 13, 3) := by decide +kernel
theorem dX5_endsDay_124 : decode cX5_endsDay 124 = .ok (.iload_n 1, 1) := by decide +kernel
theorem dX5_endsDay_125 : decode cX5_endsDay 125 = .ok (.lload_n 3, 1) := by decide +kernel
theorem dX5_endsDay_126 : decode cX5_endsDay 126 = .ok (.aload_n 0, 1) := by decide +kernel
theorem dX5_endsDay_127 : decode cX5_endsDay 127 = .ok (.getfield 13, 3) := by decide +kernel
theorem dX5_endsDay_130 : decode cX5_endsDay 130 = .ok (.iload_n 1, 1) := by decide +kernel
theorem dX5_endsDay_131 : decode cX5_endsDay 131 = .ok (.iaload, 1) := by decide +kernel
theorem dX5_endsDay_132 : decode cX5_endsDay 132 = .ok (.i2l, 1) := by decide +kernel
theorem dX5_endsDay_133 : decode cX5_endsDay 133 = .ok (.lcmp, 1) := by decide +kernel
theorem dX5_endsDay_134 : decode cX5_endsDay 134 = .ok (.ifCond .ge 16, 3) := by decide +kernel
theorem dX5_endsDay_137 : decode cX5_endsDay 137 = .ok (.aload_n 0, 1) := by decide +kernel
theorem dX5_endsDay_138 : decode cX5_endsDay 138 = .ok (.getfield 13, 3) := by decide +kernel
theorem dX5_endsDay_141 : decode cX5_endsDay 141 = .ok (.iload_n 1, 1) := by decide +kernel
theorem dX5_endsDay_142 : decode cX5_endsDay 142 = .ok (.iaload, 1) := by decide +kernel
theorem dX5_endsDay_143 : decode cX5_endsDay 143 = .ok (.i2l, 1) := by decide +kernel
theorem dX5_endsDay_144 : decode cX5_endsDay 144 = .ok (.lload_n 3, 1) := by decide +kernel
theorem dX5_endsDay_145 : decode cX5_endsDay 145 = .ok (.lsub, 1) := by decide +kernel
theorem dX5_endsDay_146 : decode cX5_endsDay 146 = .ok (.l2i, 1) := by decide +kernel
theorem dX5_endsDay_147 : decode cX5_endsDay 147 = .ok (.goto 4, 3) := by decide +kernel
theorem dX5_endsDay_150 : decode cX5_endsDay 150 = .ok (.iconst 1, 1) := by decide +kernel
theorem dX5_endsDay_151 : decode cX5_endsDay 151 = .ok (.iastore, 1) := by decide +kernel
theorem dX5_endsDay_152 : decode cX5_endsDay 152 = .ok (.aload_n 0, 1) := by decide +kernel
theorem dX5_endsDay_153 : decode cX5_endsDay 153 = .ok (.getfield 25, 3) := by decide +kernel
theorem dX5_endsDay_156 : decode cX5_endsDay 156 = .ok (.iload_n 1, 1) := by decide +kernel
theorem dX5_endsDay_157 : decode cX5_endsDay 157 = .ok (.iaload, 1) := by decide +kernel
theorem dX5_endsDay_158 : decode cX5_endsDay 158 = .ok (.aload_n 0, 1) := by decide +kernel
theorem dX5_endsDay_159 : decode cX5_endsDay 159 = .ok (.iload_n 1, 1) := by decide +kernel
theorem dX5_endsDay_160 : decode cX5_endsDay 160 = .ok (.invokevirtual 115, 3) := by decide +kernel
theorem dX5_endsDay_163 : decode cX5_endsDay 163 = .ok (.invokestatic 122, 3) := by decide +kernel
theorem dX5_endsDay_166 : decode cX5_endsDay 166 = .ok (.istore_n 3, 1) := by decide +kernel
theorem dX5_endsDay_167 : decode cX5_endsDay 167 = .ok (.aload_n 0, 1) := by decide +kernel
theorem dX5_endsDay_168 : decode cX5_endsDay 168 = .ok (.getfield 19, 3) := by decide +kernel
theorem dX5_endsDay_171 : decode cX5_endsDay 171 = .ok (.iload_n 1, 1) := by decide +kernel
theorem dX5_endsDay_172 : decode cX5_endsDay 172 = .ok (.iaload, 1) := by decide +kernel
theorem dX5_endsDay_173 : decode cX5_endsDay 173 = .ok (.iload_n 3, 1) := by decide +kernel
theorem dX5_endsDay_174 : decode cX5_endsDay 174 = .ok (.if_icmp .le 16, 3) := by decide +kernel
theorem dX5_endsDay_177 : decode cX5_endsDay 177 = .ok (.aload_n 0, 1) := by decide +kernel
theorem dX5_endsDay_178 : decode cX5_endsDay 178 = .ok (.iload_n 1, 1) := by decide +kernel
theorem dX5_endsDay_179 : decode cX5_endsDay 179 = .ok (.aload_n 0, 1) := by decide +kernel
theorem dX5_endsDay_180 : decode cX5_endsDay 180 = .ok (.getfield 19, 3) := by decide +kernel
theorem dX5_endsDay_183 : decode cX5_endsDay 183 = .ok (.iload_n 1, 1) := by decide +kernel
theorem dX5_endsDay_184 : decode cX5_endsDay 184 = .ok (.iaload, 1) := by decide +kernel
theorem dX5_endsDay_185 : decode cX5_endsDay 185 = .ok (.iload_n 3, 1) := by decide +kernel
theorem dX5_endsDay_186 : decode cX5_endsDay 186 = .ok (.isub, 1) := by decide +kernel
theorem dX5_endsDay_187 : decode cX5_endsDay 187 = .ok (.invokevirtual 212, 3) := by decide +kernel
theorem dX5_endsDay_190 : decode cX5_endsDay 190 = .ok (.return_, 1) := by decide +kernel
theorem dX5_goesBy_0 : decode cX5_goesBy 0 = .ok (.aload_n 0, 1) := by decide +kernel
theorem dX5_goesBy_1 : decode cX5_goesBy 1 = .ok (.invokevirtual 217, 3) := by decide +kernel
theorem dX5_goesBy_4 : decode cX5_goesBy 4 = .ok (.aload_n 0, 1) := by decide +kernel
theorem dX5_goesBy_5 : decode cX5_goesBy 5 = .ok (.iconst 1, 1) := by decide +kernel
theorem dX5_goesBy_6 : decode cX5_goesBy 6 = .ok (.invokevirtual 187, 3) := by decide +kernel
theorem dX5_goesBy_9 : decode cX5_goesBy 9 = .ok (.aload_n 0, 1) := by decide +kernel
theorem dX5_goesBy_10 : decode cX5_goesBy 10 = .ok (.iconst 0, 1) := by decide +kernel
theorem dX5_goesBy_11 : decode cX5_goesBy 11 = .ok (.invokevirtual 187, 3) := by decide +kernel
theorem dX5_goesBy_14 : decode cX5_goesBy 14 = .ok (.isub, 1) := by decide +kernel
theorem dX5_goesBy_15 : decode cX5_goesBy 15 = .ok (.istore_n 1, 1) := by decide +kernel
theorem dX5_goesBy_16 : decode cX5_goesBy 16 = .ok (.aload_n 0, 1) := by decide +kernel
theorem dX5_goesBy_17 : decode cX5_goesBy 17 = .ok (.iload_n 1, 1) := by decide +kernel
theorem dX5_goesBy_18 : decode cX5_goesBy 18 = .ok (.invokevirtual 220, 3) := by decide +kernel
theorem dX5_goesBy_21 : decode cX5_goesBy 21 = .ok (.iconst 0, 1) := by decide +kernel
theorem dX5_goesBy_22 : decode cX5_goesBy 22 = .ok (.istore_n 2, 1) := by decide +kernel
theorem dX5_goesBy_23 : decode cX5_goesBy 23 = .ok (.iload_n 2, 1) := by decide +kernel
theorem dX5_goesBy_24 : decode cX5_goesBy 24 = .ok (.aload_n 0, 1) := by decide +kernel
theorem dX5_goesBy_25 : decode cX5_goesBy 25 = .ok (.getfield 112, 3) := by decide +kernel
theorem dX5_goesBy_28 : decode cX5_goesBy 28 = .ok (.if_icmp .ge 97, 3) := by decide +kernel
theorem dX5_goesBy_31 : decode cX5_goesBy 31 = .ok (.aload_n 0, 1) := by decide +kernel
theorem dX5_goesBy_32 : decode cX5_goesBy 32 = .ok (.getfield 63, 3) := by decide +kernel
theorem dX5_goesBy_35 : decode cX5_goesBy 35 = .ok (.iload_n 2, 1) := by decide +kernel
theorem dX5_goesBy_36 : decode cX5_goesBy 36 = .ok (.dup2, 1) := by decide +kernel
theorem dX5_goesBy_37 : decode cX5_goesBy 37 = .ok (.iaload, 1) := by decide +kernel
theorem dX5_goesBy_38 : decode cX5_goesBy 38 = .ok (.aload_n 0, 1) := by decide +kernel
theorem dX5_goesBy_39 : decode cX5_goesBy 39 = .ok (.getfield 90, 3) := by decide +kernel
theorem dX5_goesBy_42 : decode cX5_goesBy 42 = .ok (.iload_n 2, 1) := by decide +kernel
theorem dX5_goesBy_43 : decode cX5_goesBy 43 = .ok (.iaload, 1) := by decide +kernel
theorem dX5_goesBy_44 : decode cX5_goesBy 44 = .ok (.aload_n 0, 1) := by decide +kernel
theorem dX5_goesBy_45 : decode cX5_goesBy 45 = .ok (.getfield 93, 3) := by decide +kernel
theorem dX5_goesBy_48 : decode cX5_goesBy 48 = .ok (.iload_n 2, 1) := by decide +kernel
theorem dX5_goesBy_49 : decode cX5_goesBy 49 = .ok (.iaload, 1) := by decide +kernel
theorem dX5_goesBy_50 : decode cX5_goesBy 50 = .ok (.isub, 1) := by decide +kernel
theorem dX5_goesBy_51 : decode cX5_goesBy 51 = .ok (.iadd, 1) := by decide +kernel
theorem dX5_goesBy_52 : decode cX5_goesBy 52 = .ok (.iastore, 1) := by decide +kernel
theorem dX5_goesBy_53 : decode cX5_goesBy 53 = .ok (.aload_n 0, 1) := by decide +kernel
theorem dX5_goesBy_54 : decode cX5_goesBy 54 = .ok (.getfield 66, 3) := by decide +kernel
theorem dX5_goesBy_57 : decode cX5_goesBy 57 = .ok (.iload_n 2, 1) := by decide +kernel
theorem dX5_goesBy_58 : decode cX5_goesBy 58 = .ok (.dup2, 1) := by decide +kernel
theorem dX5_goesBy_59 : decode cX5_goesBy 59 = .ok (.laload, 1) := by decide +kernel
theorem dX5_goesBy_60 : decode cX5_goesBy 60 = .ok (.aload_n 0, 1) := by decide +kernel
theorem dX5_goesBy_61 : decode cX5_goesBy 61 = .ok (.getfield 90, 3) := by decide +kernel
theorem dX5_goesBy_64 : decode cX5_goesBy 64 = .ok (.iload_n 2, 1) := by decide +kernel
theorem dX5_goesBy_65 : decode cX5_goesBy 65 = .ok (.iaload, 1) := by decide +kernel
theorem dX5_goesBy_66 : decode cX5_goesBy 66 = .ok (.i2l, 1) := by decide +kernel
theorem dX5_goesBy_67 : decode cX5_goesBy 67 = .ok (.ladd, 1) := by decide +kernel
theorem dX5_goesBy_68 : decode cX5_goesBy 68 = .ok (.lastore, 1) := by decide +kernel
theorem dX5_goesBy_69 : decode cX5_goesBy 69 = .ok (.aload_n 0, 1) := by decide +kernel
theorem dX5_goesBy_70 : decode cX5_goesBy 70 = .ok (.getfield 69, 3) := by decide +kernel
theorem dX5_goesBy_73 : decode cX5_goesBy 73 = .ok (.iload_n 2, 1) := by decide +kernel
theorem dX5_goesBy_74 : decode cX5_goesBy 74 = .ok (.dup2, 1) := by decide +kernel
theorem dX5_goesBy_75 : decode cX5_goesBy 75 = .ok (.laload, 1) := by decide +kernel
theorem dX5_goesBy_76 : decode cX5_goesBy 76 = .ok (.aload_n 0, 1) := by decide +kernel
theorem dX5_goesBy_77 : decode cX5_goesBy 77 = .ok (.getfield 93, 3) := by decide +kernel
theorem dX5_goesBy_80 : decode cX5_goesBy 80 = .ok (.iload_n 2, 1) := by decide +kernel
theorem dX5_goesBy_81 : decode cX5_goesBy 81 = .ok (.iaload, 1) := by decide +kernel
theorem dX5_goesBy_82 : decode cX5_goesBy 82 = .ok (.i2l, 1) := by decide +kernel
theorem dX5_goesBy_83 : decode cX5_goesBy 83 = .ok (.ladd, 1) := by decide +kernel
theorem dX5_goesBy_84 : decode cX5_goesBy 84 = .ok (.lastore, 1) := by decide +kernel
theorem dX5_goesBy_85 : decode cX5_goesBy 85 = .ok (.aload_n 0, 1) := by decide +kernel
theorem dX5_goesBy_86 : decode cX5_goesBy 86 = .ok (.getfield 72, 3) := by decide +kernel
theorem dX5_goesBy_89 : decode cX5_goesBy 89 = .ok (.iload_n 2, 1) := by decide +kernel
theorem dX5_goesBy_90 : decode cX5_goesBy 90 = .ok (.dup2, 1) := by decide +kernel
theorem dX5_goesBy_91 : decode cX5_goesBy 91 = .ok (.laload, 1) := by decide +kernel
theorem dX5_goesBy_92 : decode cX5_goesBy 92 = .ok (.aload_n 0, 1) := by decide +kernel
theorem dX5_goesBy_93 : decode cX5_goesBy 93 = .ok (.getfield 96, 3) := by decide +kernel
theorem dX5_goesBy_96 : decode cX5_goesBy 96 = .ok (.iload_n 2, 1) := by decide +kernel
theorem dX5_goesBy_97 : decode cX5_goesBy 97 = .ok (.iaload, 1) := by decide +kernel
theorem dX5_goesBy_98 : decode cX5_goesBy 98 = .ok (.i2l, 1) := by decide +kernel
theorem dX5_goesBy_99 : decode cX5_goesBy 99 = .ok (.ladd, 1) := by decide +kernel
theorem dX5_goesBy_100 : decode cX5_goesBy 100 = .ok (.lastore, 1) := by decide +kernel
theorem dX5_goesBy_101 : decode cX5_goesBy 101 = .ok (.aload_n 0, 1) := by decide +kernel
theorem dX5_goesBy_102 : decode cX5_goesBy 102 = .ok (.getfield 75, 3) := by decide +kernel
theorem dX5_goesBy_105 : decode cX5_goesBy 105 = .ok (.bipush 64, 2) := by decide +kernel
theorem dX5_goesBy_107 : decode cX5_goesBy 107 = .ok (.iload_n 2, 1) := by decide +kernel
theorem dX5_goesBy_108 : decode cX5_goesBy 108 = .ok (.imul, 1) := by decide +kernel
theorem dX5_goesBy_109 : decode cX5_goesBy 109 = .ok (.aload_n 0, 1) := by decide +kernel
theorem dX5_goesBy_110 : decode cX5_goesBy 110 = .ok (.getfield 151, 3) := by decide +kernel
theorem dX5_goesBy_113 : decode cX5_goesBy 113 = .ok (.bipush 64, 2) := by decide +kernel
theorem dX5_goesBy_115 : decode cX5_goesBy 115 = .ok (.irem, 1) := by decide +kernel
theorem dX5_goesBy_116 : decode cX5_goesBy 116 = .ok (.iadd, 1) := by decide +kernel
theorem dX5_goesBy_117 : decode cX5_goesBy 117 = .ok (.iconst 0, 1) := by decide +kernel
theorem dX5_goesBy_118 : decode cX5_goesBy 118 = .ok (.iastore, 1) := by decide +kernel
theorem dX5_goesBy_119 : decode cX5_goesBy 119 = .ok (.iinc 2 1, 3) := by decide +kernel
theorem dX5_goesBy_122 : decode cX5_goesBy 122 = .ok (.goto (-99), 3) := by decide +kernel
theorem dX5_goesBy_125 : decode cX5_goesBy 125 = .ok (.aload_n 0, 1) := by decide +kernel
theorem dX5_goesBy_126 : decode cX5_goesBy 126 = .ok (.getfield 78, 3) := by decide +kernel
theorem dX5_goesBy_129 : decode cX5_goesBy 129 = .ok (.aload_n 0, 1) := by decide +kernel
theorem dX5_goesBy_130 : decode cX5_goesBy 130 = .ok (.getfield 151, 3) := by decide +kernel
theorem dX5_goesBy_133 : decode cX5_goesBy 133 = .ok (.bipush 64, 2) := by decide +kernel
theorem dX5_goesBy_135 : decode cX5_goesBy 135 = .ok (.irem, 1) := by decide +kernel
theorem dX5_goesBy_136 : decode cX5_goesBy 136 = .ok (.iconst 0, 1) := by decide +kernel
theorem dX5_goesBy_137 : decode cX5_goesBy 137 = .ok (.iastore, 1) := by decide +kernel
theorem dX5_goesBy_138 : decode cX5_goesBy 138 = .ok (.aload_n 0, 1) := by decide +kernel
theorem dX5_goesBy_139 : decode cX5_goesBy 139 = .ok (.aload_n 0, 1) := by decide +kernel
theorem dX5_goesBy_140 : decode cX5_goesBy 140 = .ok (.getfield 169, 3) := by decide +kernel
theorem dX5_goesBy_143 : decode cX5_goesBy 143 = .ok (.putfield 172, 3) := by decide +kernel
theorem dX5_goesBy_146 : decode cX5_goesBy 146 = .ok (.aload_n 0, 1) := by decide +kernel
theorem dX5_goesBy_147 : decode cX5_goesBy 147 = .ok (.iload_n 1, 1) := by decide +kernel
theorem dX5_goesBy_148 : decode cX5_goesBy 148 = .ok (.ifCond .le 7, 3) := by decide +kernel
theorem dX5_goesBy_151 : decode cX5_goesBy 151 = .ok (.iconst 1, 1) := by decide +kernel
theorem dX5_goesBy_152 : decode cX5_goesBy 152 = .ok (.goto 12, 3) := by decide +kernel
theorem dX5_goesBy_155 : decode cX5_goesBy 155 = .ok (.iload_n 1, 1) := by decide +kernel
theorem dX5_goesBy_156 : decode cX5_goesBy 156 = .ok (.ifCond .ge 7, 3) := by decide +kernel
theorem dX5_goesBy_159 : decode cX5_goesBy 159 = .ok (.iconst (-1), 1) := by decide +kernel
theorem dX5_goesBy_160 : decode cX5_goesBy 160 = .ok (.goto 4, 3) := by decide +kernel
theorem dX5_goesBy_163 : decode cX5_goesBy 163 = .ok (.iconst 0, 1) := by decide +kernel
theorem dX5_goesBy_164 : decode cX5_goesBy 164 = .ok (.putfield 169, 3) := by decide +kernel
theorem dX5_goesBy_167 : decode cX5_goesBy 167 = .ok (.iconst 0, 1) := by decide +kernel
theorem dX5_goesBy_168 : decode cX5_goesBy 168 = .ok (.istore_n 2, 1) := by decide +kernel
theorem dX5_goesBy_169 : decode cX5_goesBy 169 = .ok (.iload_n 2, 1) := by decide +kernel
theorem dX5_goesBy_170 : decode cX5_goesBy 170 = .ok (.aload_n 0, 1) := by decide +kernel
theorem dX5_goesBy_171 : decode cX5_goesBy 171 = .ok (.getfield 105, 3) := by decide +kernel
theorem dX5_goesBy_174 : decode cX5_goesBy 174 = .ok (.if_icmp .ge 14, 3) := by decide +kernel
theorem dX5_goesBy_177 : decode cX5_goesBy 177 = .ok (.aload_n 0, 1) := by decide +kernel
theorem dX5_goesBy_178 : decode cX5_goesBy 178 = .ok (.iload_n 2, 1) := by decide +kernel
theorem dX5_goesBy_179 : decode cX5_goesBy 179 = .ok (.invokevirtual 223, 3) := by decide +kernel
theorem dX5_goesBy_182 : decode cX5_goesBy 182 = .ok (.iinc 2 1, 3) := by decide +kernel
theorem dX5_goesBy_185 : decode cX5_goesBy 185 = .ok (.goto (-16), 3) := by decide +kernel
theorem dX5_goesBy_188 : decode cX5_goesBy 188 = .ok (.aload_n 0, 1) := by decide +kernel
theorem dX5_goesBy_189 : decode cX5_goesBy 189 = .ok (.dup, 1) := by decide +kernel
theorem dX5_goesBy_190 : decode cX5_goesBy 190 = .ok (.getfield 151, 3) := by decide +kernel
theorem dX5_goesBy_193 : decode cX5_goesBy 193 = .ok (.iconst 1, 1) := by decide +kernel
theorem dX5_goesBy_194 : decode cX5_goesBy 194 = .ok (.iadd, 1) := by decide +kernel
theorem dX5_goesBy_195 : decode cX5_goesBy 195 = .ok (.putfield 151, 3) := by decide +kernel
theorem dX5_goesBy_198 : decode cX5_goesBy 198 = .ok (.iconst 0, 1) := by decide +kernel
theorem dX5_goesBy_199 : decode cX5_goesBy 199 = .ok (.istore_n 2, 1) := by decide +kernel
theorem dX5_goesBy_200 : decode cX5_goesBy 200 = .ok (.iload_n 2, 1) := by decide +kernel
theorem dX5_goesBy_201 : decode cX5_goesBy 201 = .ok (.aload_n 0, 1) := by decide +kernel
theorem dX5_goesBy_202 : decode cX5_goesBy 202 = .ok (.getfield 105, 3) := by decide +kernel
theorem dX5_goesBy_205 : decode cX5_goesBy 205 = .ok (.if_icmp .ge 24, 3) := by decide +kernel
theorem dX5_goesBy_208 : decode cX5_goesBy 208 = .ok (.aload_n 0, 1) := by decide +kernel
theorem dX5_goesBy_209 : decode cX5_goesBy 209 = .ok (.getfield 151, 3) := by decide +kernel
theorem dX5_goesBy_212 : decode cX5_goesBy 212 = .ok (.bipush 24, 2) := by decide +kernel
theorem dX5_goesBy_214 : decode cX5_goesBy 214 = .ok (.irem, 1) := by decide +kernel
theorem dX5_goesBy_215 : decode cX5_goesBy 215 = .ok (.ifCond .ne 14, 3) := by decide +kernel
theorem dX5_goesBy_218 : decode cX5_goesBy 218 = .ok (.aload_n 0, 1) := by decide +kernel
theorem dX5_goesBy_219 : decode cX5_goesBy 219 = .ok (.iload_n 2, 1) := by decide +kernel
theorem dX5_goesBy_220 : decode cX5_goesBy 220 = .ok (.invokevirtual 226, 3) := by decide +kernel
theorem dX5_goesBy_223 : decode cX5_goesBy 223 = .ok (.iinc 2 1, 3) := by decide +kernel
theorem dX5_goesBy_226 : decode cX5_goesBy 226 = .ok (.goto (-26), 3) := by decide +kernel
theorem dX5_goesBy_229 : decode cX5_goesBy 229 = .ok (.return_, 1) := by decide +kernel
theorem dX5_pass_0 : decode cX5_pass 0 = .ok (.aload_n 0, 1) := by decide +kernel
theorem dX5_pass_1 : decode cX5_pass 1 = .ok (.iload_n 1, 1) := by decide +kernel
theorem dX5_pass_2 : decode cX5_pass 2 = .ok (.iconst 1, 1) := by decide +kernel
theorem dX5_pass_3 : decode cX5_pass 3 = .ok (.sipush 240, 3) := by decide +kernel
theorem dX5_pass_6 : decode cX5_pass 6 = .ok (.invokestatic 108, 3) := by decide +kernel
theorem dX5_pass_9 : decode cX5_pass 9 = .ok (.ifCond .ne 7, 3) := by decide +kernel
theorem dX5_pass_12 : decode cX5_pass 12 = .ok (.iconst 1, 1) := by decide +kernel
theorem dX5_pass_13 : decode cX5_pass 13 = .ok (.goto 20, 3) := by decide +kernel
theorem dX5_pass_16 : decode cX5_pass 16 = .ok (.aload_n 0, 1) := by decide +kernel
theorem dX5_pass_17 : decode cX5_pass 17 = .ok (.getfield 151, 3) := by decide +kernel
theorem dX5_pass_20 : decode cX5_pass 20 = .ok (.iload_n 1, 1) := by decide +kernel
theorem dX5_pass_21 : decode cX5_pass 21 = .ok (.iadd, 1) := by decide +kernel
theorem dX5_pass_22 : decode cX5_pass 22 = .ok (.sipush 9900, 3) := by decide +kernel
theorem dX5_pass_25 : decode cX5_pass 25 = .ok (.if_icmp .le 7, 3) := by decide +kernel
theorem dX5_pass_28 : decode cX5_pass 28 = .ok (.iconst 2, 1) := by decide +kernel
theorem dX5_pass_29 : decode cX5_pass 29 = .ok (.goto 4, 3) := by decide +kernel
theorem dX5_pass_32 : decode cX5_pass 32 = .ok (.iconst 0, 1) := by decide +kernel
theorem dX5_pass_33 : decode cX5_pass 33 = .ok (.invokevirtual 133, 3) := by decide +kernel
theorem dX5_pass_36 : decode cX5_pass 36 = .ok (.ifCond .ne 5, 3) := by decide +kernel
theorem dX5_pass_39 : decode cX5_pass 39 = .ok (.iconst 0, 1) := by decide +kernel
theorem dX5_pass_40 : decode cX5_pass 40 = .ok (.ireturn, 1) := by decide +kernel
theorem dX5_pass_41 : decode cX5_pass 41 = .ok (.iconst 0, 1) := by decide +kernel
theorem dX5_pass_42 : decode cX5_pass 42 = .ok (.istore_n 2, 1) := by decide +kernel
theorem dX5_pass_43 : decode cX5_pass 43 = .ok (.iload_n 2, 1) := by decide +kernel
theorem dX5_pass_44 : decode cX5_pass 44 = .ok (.iload_n 1, 1) := by decide +kernel
theorem dX5_pass_45 : decode cX5_pass 45 = .ok (.if_icmp .ge 13, 3) := by decide +kernel
theorem dX5_pass_48 : decode cX5_pass 48 = .ok (.aload_n 0, 1) := by decide +kernel
theorem dX5_pass_49 : decode cX5_pass 49 = .ok (.invokevirtual 229, 3) := by decide +kernel
theorem dX5_pass_52 : decode cX5_pass 52 = .ok (.iinc 2 1, 3) := by decide +kernel
theorem dX5_pass_55 : decode cX5_pass 55 = .ok (.goto (-12), 3) := by decide +kernel
theorem dX5_pass_58 : decode cX5_pass 58 = .ok (.aload_n 0, 1) := by decide +kernel
theorem dX5_pass_59 : decode cX5_pass 59 = .ok (.getfield 151, 3) := by decide +kernel
theorem dX5_pass_62 : decode cX5_pass 62 = .ok (.ireturn, 1) := by decide +kernel
theorem dX5_pressure_0 : decode cX5_pressure 0 = .ok (.aload_n 0, 1) := by decide +kernel
theorem dX5_pressure_1 : decode cX5_pressure 1 = .ok (.aload_n 0, 1) := by decide +kernel
theorem dX5_pressure_2 : decode cX5_pressure 2 = .ok (.iload_n 1, 1) := by decide +kernel
theorem dX5_pressure_3 : decode cX5_pressure 3 = .ok (.invokevirtual 140, 3) := by decide +kernel
theorem dX5_pressure_6 : decode cX5_pressure 6 = .ok (.ifCond .eq 7, 3) := by decide +kernel
theorem dX5_pressure_9 : decode cX5_pressure 9 = .ok (.iconst 0, 1) := by decide +kernel
theorem dX5_pressure_10 : decode cX5_pressure 10 = .ok (.goto 4, 3) := by decide +kernel
theorem dX5_pressure_13 : decode cX5_pressure 13 = .ok (.iconst 1, 1) := by decide +kernel
theorem dX5_pressure_14 : decode cX5_pressure 14 = .ok (.invokevirtual 133, 3) := by decide +kernel
theorem dX5_pressure_17 : decode cX5_pressure 17 = .ok (.ifCond .eq 11, 3) := by decide +kernel
theorem dX5_pressure_20 : decode cX5_pressure 20 = .ok (.aload_n 0, 1) := by decide +kernel
theorem dX5_pressure_21 : decode cX5_pressure 21 = .ok (.iload_n 1, 1) := by decide +kernel
theorem dX5_pressure_22 : decode cX5_pressure 22 = .ok (.invokevirtual 119, 3) := by decide +kernel
theorem dX5_pressure_25 : decode cX5_pressure 25 = .ok (.goto 4, 3) := by decide +kernel
theorem dX5_pressure_28 : decode cX5_pressure 28 = .ok (.iconst 0, 1) := by decide +kernel
theorem dX5_pressure_29 : decode cX5_pressure 29 = .ok (.ireturn, 1) := by decide +kernel
theorem dX5_rate_0 : decode cX5_rate 0 = .ok (.aload_n 0, 1) := by decide +kernel
theorem dX5_rate_1 : decode cX5_rate 1 = .ok (.aload_n 0, 1) := by decide +kernel
theorem dX5_rate_2 : decode cX5_rate 2 = .ok (.iload_n 1, 1) := by decide +kernel
theorem dX5_rate_3 : decode cX5_rate 3 = .ok (.invokevirtual 140, 3) := by decide +kernel
theorem dX5_rate_6 : decode cX5_rate 6 = .ok (.ifCond .eq 7, 3) := by decide +kernel
theorem dX5_rate_9 : decode cX5_rate 9 = .ok (.iconst 0, 1) := by decide +kernel
theorem dX5_rate_10 : decode cX5_rate 10 = .ok (.goto 4, 3) := by decide +kernel
theorem dX5_rate_13 : decode cX5_rate 13 = .ok (.iconst 1, 1) := by decide +kernel
theorem dX5_rate_14 : decode cX5_rate 14 = .ok (.invokevirtual 133, 3) := by decide +kernel
theorem dX5_rate_17 : decode cX5_rate 17 = .ok (.ifCond .eq 12, 3) := by decide +kernel
theorem dX5_rate_20 : decode cX5_rate 20 = .ok (.aload_n 0, 1) := by decide +kernel
theorem dX5_rate_21 : decode cX5_rate 21 = .ok (.iload_n 1, 1) := by decide +kernel
theorem dX5_rate_22 : decode cX5_rate 22 = .ok (.iload_n 2, 1) := by decide +kernel
theorem dX5_rate_23 : decode cX5_rate 23 = .ok (.invokevirtual 143, 3) := by decide +kernel
theorem dX5_rate_26 : decode cX5_rate 26 = .ok (.goto 4, 3) := by decide +kernel
theorem dX5_rate_29 : decode cX5_rate 29 = .ok (.iconst 0, 1) := by decide +kernel
theorem dX5_rate_30 : decode cX5_rate 30 = .ok (.ireturn, 1) := by decide +kernel
theorem dX5_mix_0 : decode cX5_mix 0 = .ok (.aload_n 0, 1) := by decide +kernel
theorem dX5_mix_1 : decode cX5_mix 1 = .ok (.aload_n 0, 1) := by decide +kernel
theorem dX5_mix_2 : decode cX5_mix 2 = .ok (.iload_n 1, 1) := by decide +kernel
theorem dX5_mix_3 : decode cX5_mix 3 = .ok (.invokevirtual 140, 3) := by decide +kernel
theorem dX5_mix_6 : decode cX5_mix 6 = .ok (.ifCond .eq 7, 3) := by decide +kernel
theorem dX5_mix_9 : decode cX5_mix 9 = .ok (.iconst 0, 1) := by decide +kernel
theorem dX5_mix_10 : decode cX5_mix 10 = .ok (.goto 4, 3) := by decide +kernel
theorem dX5_mix_13 : decode cX5_mix 13 = .ok (.iconst 1, 1) := by decide +kernel
theorem dX5_mix_14 : decode cX5_mix 14 = .ok (.invokevirtual 133, 3) := by decide +kernel
theorem dX5_mix_17 : decode cX5_mix 17 = .ok (.ifCond .ne 5, 3) := by decide +kernel
theorem dX5_mix_20 : decode cX5_mix 20 = .ok (.iconst 0, 1) := by decide +kernel
theorem dX5_mix_21 : decode cX5_mix 21 = .ok (.ireturn, 1) := by decide +kernel
theorem dX5_mix_22 : decode cX5_mix 22 = .ok (.aload_n 0, 1) := by decide +kernel
theorem dX5_mix_23 : decode cX5_mix 23 = .ok (.getfield 19, 3) := by decide +kernel
theorem dX5_mix_26 : decode cX5_mix 26 = .ok (.iload_n 1, 1) := by decide +kernel
theorem dX5_mix_27 : decode cX5_mix 27 = .ok (.iaload, 1) := by decide +kernel
theorem dX5_mix_28 : decode cX5_mix 28 = .ok (.ifCond .ne 7, 3) := by decide +kernel
theorem dX5_mix_31 : decode cX5_mix 31 = .ok (.iconst 0, 1) := by decide +kernel
theorem dX5_mix_32 : decode cX5_mix 32 = .ok (.goto 19, 3) := by decide +kernel
theorem dX5_mix_35 : decode cX5_mix 35 = .ok (.aload_n 0, 1) := by decide +kernel
theorem dX5_mix_36 : decode cX5_mix 36 = .ok (.getfield 40, 3) := by decide +kernel
theorem dX5_mix_39 : decode cX5_mix 39 = .ok (.iload_n 1, 1) := by decide +kernel
theorem dX5_mix_40 : decode cX5_mix 40 = .ok (.laload, 1) := by decide +kernel
theorem dX5_mix_41 : decode cX5_mix 41 = .ok (.l2f, 1) := by decide +kernel
theorem dX5_mix_42 : decode cX5_mix 42 = .ok (.aload_n 0, 1) := by decide +kernel
theorem dX5_mix_43 : decode cX5_mix 43 = .ok (.getfield 19, 3) := by decide +kernel
theorem dX5_mix_46 : decode cX5_mix 46 = .ok (.iload_n 1, 1) := by decide +kernel
theorem dX5_mix_47 : decode cX5_mix 47 = .ok (.iaload, 1) := by decide +kernel
theorem dX5_mix_48 : decode cX5_mix 48 = .ok (.i2f, 1) := by decide +kernel
theorem dX5_mix_49 : decode cX5_mix 49 = .ok (.fdiv, 1) := by decide +kernel
theorem dX5_mix_50 : decode cX5_mix 50 = .ok (.f2i, 1) := by decide +kernel
theorem dX5_mix_51 : decode cX5_mix 51 = .ok (.ireturn, 1) := by decide +kernel
theorem dX5_ofStore_0 : decode cX5_ofStore 0 = .ok (.aload_n 0, 1) := by decide +kernel
theorem dX5_ofStore_1 : decode cX5_ofStore 1 = .ok (.aload_n 0, 1) := by decide +kernel
theorem dX5_ofStore_2 : decode cX5_ofStore 2 = .ok (.iload_n 1, 1) := by decide +kernel
theorem dX5_ofStore_3 : decode cX5_ofStore 3 = .ok (.invokevirtual 140, 3) := by decide +kernel
theorem dX5_ofStore_6 : decode cX5_ofStore 6 = .ok (.ifCond .ne 7, 3) := by decide +kernel
theorem dX5_ofStore_9 : decode cX5_ofStore 9 = .ok (.iconst 1, 1) := by decide +kernel
theorem dX5_ofStore_10 : decode cX5_ofStore 10 = .ok (.goto 18, 3) := by decide +kernel
theorem dX5_ofStore_13 : decode cX5_ofStore 13 = .ok (.iload_n 2, 1) := by decide +kernel
theorem dX5_ofStore_14 : decode cX5_ofStore 14 = .ok (.iconst 0, 1) := by decide +kernel
theorem dX5_ofStore_15 : decode cX5_ofStore 15 = .ok (.bipush 6, 2) := by decide +kernel
theorem dX5_ofStore_17 : decode cX5_ofStore 17 = .ok (.invokestatic 108, 3) := by decide +kernel
theorem dX5_ofStore_20 : decode cX5_ofStore 20 = .ok (.ifCond .eq 7, 3) := by decide +kernel
theorem dX5_ofStore_23 : decode cX5_ofStore 23 = .ok (.iconst 0, 1) := by decide +kernel
theorem dX5_ofStore_24 : decode cX5_ofStore 24 = .ok (.goto 4, 3) := by decide +kernel
theorem dX5_ofStore_27 : decode cX5_ofStore 27 = .ok (.iconst 2, 1) := by decide +kernel
theorem dX5_ofStore_28 : decode cX5_ofStore 28 = .ok (.invokevirtual 133, 3) := by decide +kernel
theorem dX5_ofStore_31 : decode cX5_ofStore 31 = .ok (.ifCond .ne 5, 3) := by decide +kernel
theorem dX5_ofStore_34 : decode cX5_ofStore 34 = .ok (.lconst 0, 1) := by decide +kernel
theorem dX5_ofStore_35 : decode cX5_ofStore 35 = .ok (.lreturn, 1) := by decide +kernel
theorem dX5_ofStore_36 : decode cX5_ofStore 36 = .ok (.iload_n 2, 1) := by decide +kernel
theorem dX5_ofStore_37 : decode cX5_ofStore 37 = .ok (.iconst 4, 1) := by decide +kernel
theorem dX5_ofStore_38 : decode cX5_ofStore 38 = .ok (.if_icmp .ge 54, 3) := by decide +kernel
theorem dX5_ofStore_41 : decode cX5_ofStore 41 = .ok (.iload_n 2, 1) := by decide +kernel
theorem dX5_ofStore_42 : decode cX5_ofStore 42 = .ok (.ifCond .ne 13, 3) := by decide +kernel
theorem dX5_ofStore_45 : decode cX5_ofStore 45 = .ok (.aload_n 0, 1) := by decide +kernel
theorem dX5_ofStore_46 : decode cX5_ofStore 46 = .ok (.getfield 19, 3) := by decide +kernel
theorem dX5_ofStore_49 : decode cX5_ofStore 49 = .ok (.iload_n 1, 1) := by decide +kernel
theorem dX5_ofStore_50 : decode cX5_ofStore 50 = .ok (.iaload, 1) := by decide +kernel
theorem dX5_ofStore_51 : decode cX5_ofStore 51 = .ok (.i2l, 1) := by decide +kernel
theorem dX5_ofStore_52 : decode cX5_ofStore 52 = .ok (.goto 39, 3) := by decide +kernel
theorem dX5_ofStore_55 : decode cX5_ofStore 55 = .ok (.iload_n 2, 1) := by decide +kernel
theorem dX5_ofStore_56 : decode cX5_ofStore 56 = .ok (.iconst 1, 1) := by decide +kernel
theorem dX5_ofStore_57 : decode cX5_ofStore 57 = .ok (.if_icmp .ne 12, 3) := by decide +kernel
theorem dX5_ofStore_60 : decode cX5_ofStore 60 = .ok (.aload_n 0, 1) := by decide +kernel
theorem dX5_ofStore_61 : decode cX5_ofStore 61 = .ok (.iload_n 1, 1) := by decide +kernel
theorem dX5_ofStore_62 : decode cX5_ofStore 62 = .ok (.invokevirtual 115, 3) := by decide +kernel
theorem dX5_ofStore_65 : decode cX5_ofStore 65 = .ok (.i2l, 1) := by decide +kernel
theorem dX5_ofStore_66 : decode cX5_ofStore 66 = .ok (.goto 25, 3) := by decide +kernel
theorem dX5_ofStore_69 : decode cX5_ofStore 69 = .ok (.iload_n 2, 1) := by decide +kernel
theorem dX5_ofStore_70 : decode cX5_ofStore 70 = .ok (.iconst 2, 1) := by decide +kernel
theorem dX5_ofStore_71 : decode cX5_ofStore 71 = .ok (.if_icmp .ne 13, 3) := by decide +kernel
theorem dX5_ofStore_74 : decode cX5_ofStore 74 = .ok (.aload_n 0, 1) := by decide +kernel
theorem dX5_ofStore_75 : decode cX5_ofStore 75 = .ok (.getfield 13, 3) := by decide +kernel
theorem dX5_ofStore_78 : decode cX5_ofStore 78 = .ok (.iload_n 1, 1) := by decide +kernel
theorem dX5_ofStore_79 : decode cX5_ofStore 79 = .ok (.iaload, 1) := by decide +kernel
theorem dX5_ofStore_80 : decode cX5_ofStore 80 = .ok (.i2l, 1) := by decide +kernel
theorem dX5_ofStore_81 : decode cX5_ofStore 81 = .ok (.goto 10, 3) := by decide +kernel
theorem dX5_ofStore_84 : decode cX5_ofStore 84 = .ok (.aload_n 0, 1) := by decide +kernel
theorem dX5_ofStore_85 : decode cX5_ofStore 85 = .ok (.getfield 16, 3) := by decide +kernel
theorem dX5_ofStore_88 : decode cX5_ofStore 88 = .ok (.iload_n 1, 1) := by decide +kernel
theorem dX5_ofStore_89 : decode cX5_ofStore 89 = .ok (.iaload, 1) := by decide +kernel
theorem dX5_ofStore_90 : decode cX5_ofStore 90 = .ok (.i2l, 1) := by decide +kernel
theorem dX5_ofStore_91 : decode cX5_ofStore 91 = .ok (.lreturn, 1) := by decide +kernel
theorem dX5_ofStore_92 : decode cX5_ofStore 92 = .ok (.iload_n 2, 1) := by decide +kernel
theorem dX5_ofStore_93 : decode cX5_ofStore 93 = .ok (.iconst 4, 1) := by decide +kernel
theorem dX5_ofStore_94 : decode cX5_ofStore 94 = .ok (.if_icmp .ne 12, 3) := by decide +kernel
theorem dX5_ofStore_97 : decode cX5_ofStore 97 = .ok (.aload_n 0, 1) := by decide +kernel
theorem dX5_ofStore_98 : decode cX5_ofStore 98 = .ok (.getfield 40, 3) := by decide +kernel
theorem dX5_ofStore_101 : decode cX5_ofStore 101 = .ok (.iload_n 1, 1) := by decide +kernel
theorem dX5_ofStore_102 : decode cX5_ofStore 102 = .ok (.laload, 1) := by decide +kernel
theorem dX5_ofStore_103 : decode cX5_ofStore 103 = .ok (.goto 41, 3) := by decide +kernel
theorem dX5_ofStore_106 : decode cX5_ofStore 106 = .ok (.iload_n 2, 1) := by decide +kernel
theorem dX5_ofStore_107 : decode cX5_ofStore 107 = .ok (.iconst 5, 1) := by decide +kernel
theorem dX5_ofStore_108 : decode cX5_ofStore 108 = .ok (.if_icmp .ne 21, 3) := by decide +kernel
theorem dX5_ofStore_111 : decode cX5_ofStore 111 = .ok (.aload_n 0, 1) := by decide +kernel
theorem dX5_ofStore_112 : decode cX5_ofStore 112 = .ok (.getfield 22, 3) := by decide +kernel
theorem dX5_ofStore_115 : decode cX5_ofStore 115 = .ok (.iload_n 1, 1) := by decide +kernel
theorem dX5_ofStore_116 : decode cX5_ofStore 116 = .ok (.iaload, 1) := by decide +kernel
theorem dX5_ofStore_117 : decode cX5_ofStore 117 = .ok (.aload_n 0, 1) := by decide +kernel
theorem dX5_ofStore_118 : decode cX5_ofStore 118 = .ok (.iload_n 1, 1) := by decide +kernel
theorem dX5_ofStore_119 : decode cX5_ofStore 119 = .ok (.invokevirtual 115, 3) := by decide +kernel
theorem dX5_ofStore_122 : decode cX5_ofStore 122 = .ok (.invokestatic 126, 3) := by decide +kernel
theorem dX5_ofStore_125 : decode cX5_ofStore 125 = .ok (.i2l, 1) := by decide +kernel
theorem dX5_ofStore_126 : decode cX5_ofStore 126 = .ok (.goto 18, 3) := by decide +kernel
theorem dX5_ofStore_129 : decode cX5_ofStore 129 = .ok (.aload_n 0, 1) := by decide +kernel
theorem dX5_ofStore_130 : decode cX5_ofStore 130 = .ok (.getfield 25, 3) := by decide +kernel
theorem dX5_ofStore_133 : decode cX5_ofStore 133 = .ok (.iload_n 1, 1) := by decide +kernel
theorem dX5_ofStore_134 : decode cX5_ofStore 134 = .ok (.iaload, 1) := by decide +kernel
theorem dX5_ofStore_135 : decode cX5_ofStore 135 = .ok (.aload_n 0, 1) := by decide +kernel
theorem dX5_ofStore_136 : decode cX5_ofStore 136 = .ok (.iload_n 1, 1) := by decide +kernel
theorem dX5_ofStore_137 : decode cX5_ofStore 137 = .ok (.invokevirtual 115, 3) := by decide +kernel
theorem dX5_ofStore_140 : decode cX5_ofStore 140 = .ok (.invokestatic 122, 3) := by decide +kernel
theorem dX5_ofStore_143 : decode cX5_ofStore 143 = .ok (.i2l, 1) := by decide +kernel
theorem dX5_ofStore_144 : decode cX5_ofStore 144 = .ok (.lreturn, 1) := by decide +kernel
theorem dX5_ofCustomer_0 : decode cX5_ofCustomer 0 = .ok (.aload_n 0, 1) := by decide +kernel
theorem dX5_ofCustomer_1 : decode cX5_ofCustomer 1 = .ok (.aload_n 0, 1) := by decide +kernel
theorem dX5_ofCustomer_2 : decode cX5_ofCustomer 2 = .ok (.iload_n 1, 1) := by decide +kernel
theorem dX5_ofCustomer_3 : decode cX5_ofCustomer 3 = .ok (.invokevirtual 155, 3) := by decide +kernel
theorem dX5_ofCustomer_6 : decode cX5_ofCustomer 6 = .ok (.ifCond .ne 7, 3) := by decide +kernel
theorem dX5_ofCustomer_9 : decode cX5_ofCustomer 9 = .ok (.iconst 1, 1) := by decide +kernel
theorem dX5_ofCustomer_10 : decode cX5_ofCustomer 10 = .ok (.goto 17, 3) := by decide +kernel
theorem dX5_ofCustomer_13 : decode cX5_ofCustomer 13 = .ok (.iload_n 2, 1) := by decide +kernel
theorem dX5_ofCustomer_14 : decode cX5_ofCustomer 14 = .ok (.iconst 0, 1) := by decide +kernel
theorem dX5_ofCustomer_15 : decode cX5_ofCustomer 15 = .ok (.iconst 5, 1) := by decide +kernel
theorem dX5_ofCustomer_16 : decode cX5_ofCustomer 16 = .ok (.invokestatic 108, 3) := by decide +kernel
theorem dX5_ofCustomer_19 : decode cX5_ofCustomer 19 = .ok (.ifCond .eq 7, 3) := by decide +kernel
theorem dX5_ofCustomer_22 : decode cX5_ofCustomer 22 = .ok (.iconst 0, 1) := by decide +kernel
theorem dX5_ofCustomer_23 : decode cX5_ofCustomer 23 = .ok (.goto 4, 3) := by decide +kernel
theorem dX5_ofCustomer_26 : decode cX5_ofCustomer 26 = .ok (.iconst 2, 1) := by decide +kernel
theorem dX5_ofCustomer_27 : decode cX5_ofCustomer 27 = .ok (.invokevirtual 133, 3) := by decide +kernel
theorem dX5_ofCustomer_30 : decode cX5_ofCustomer 30 = .ok (.ifCond .ne 5, 3) := by decide +kernel
theorem dX5_ofCustomer_33 : decode cX5_ofCustomer 33 = .ok (.lconst 0, 1) := by decide +kernel
theorem dX5_ofCustomer_34 : decode cX5_ofCustomer 34 = .ok (.lreturn, 1) := by decide +kernel
theorem dX5_ofCustomer_35 : decode cX5_ofCustomer 35 = .ok (.iload_n 2, 1) := by decide +kernel
theorem dX5_ofCustomer_36 : decode cX5_ofCustomer 36 = .ok (.iconst 3, 1) := by decide +kernel
theorem dX5_ofCustomer_37 : decode cX5_ofCustomer 37 = .ok (.if_icmp .ge 40, 3) := by decide +kernel
theorem dX5_ofCustomer_40 : decode cX5_ofCustomer 40 = .ok (.iload_n 2, 1) := by decide +kernel
theorem dX5_ofCustomer_41 : decode cX5_ofCustomer 41 = .ok (.ifCond .ne 13, 3) := by decide +kernel
theorem dX5_ofCustomer_44 : decode cX5_ofCustomer 44 = .ok (.aload_n 0, 1) := by decide +kernel
theorem dX5_ofCustomer_45 : decode cX5_ofCustomer 45 = .ok (.getfield 63, 3) := by decide +kernel
theorem dX5_ofCustomer_48 : decode cX5_ofCustomer 48 = .ok (.iload_n 1, 1) := by decide +kernel
theorem dX5_ofCustomer_49 : decode cX5_ofCustomer 49 = .ok (.iaload, 1) := by decide +kernel
theorem dX5_ofCustomer_50 : decode cX5_ofCustomer 50 = .ok (.i2l, 1) := by decide +kernel
theorem dX5_ofCustomer_51 : decode cX5_ofCustomer 51 = .ok (.goto 25, 3) := by decide +kernel
theorem dX5_ofCustomer_54 : decode cX5_ofCustomer 54 = .ok (.aload_n 0, 1) := by decide +kernel
theorem dX5_ofCustomer_55 : decode cX5_ofCustomer 55 = .ok (.iload_n 1, 1) := by decide +kernel
theorem dX5_ofCustomer_56 : decode cX5_ofCustomer 56 = .ok (.aload_n 0, 1) := by decide +kernel
theorem dX5_ofCustomer_57 : decode cX5_ofCustomer 57 = .ok (.getfield 63, 3) := by decide +kernel
theorem dX5_ofCustomer_60 : decode cX5_ofCustomer 60 = .ok (.iload_n 1, 1) := by decide +kernel
theorem dX5_ofCustomer_61 : decode cX5_ofCustomer 61 = .ok (.iaload, 1) := by decide +kernel
theorem dX5_ofCustomer_62 : decode cX5_ofCustomer 62 = .ok (.iload_n 2, 1) := by decide +kernel
theorem dX5_ofCustomer_63 : decode cX5_ofCustomer 63 = .ok (.iconst 1, 1) := by decide +kernel
theorem dX5_ofCustomer_64 : decode cX5_ofCustomer 64 = .ok (.if_icmp .ne 7, 3) := by decide +kernel
theorem dX5_ofCustomer_67 : decode cX5_ofCustomer 67 = .ok (.iconst 1, 1) := by decide +kernel
theorem dX5_ofCustomer_68 : decode cX5_ofCustomer 68 = .ok (.goto 4, 3) := by decide +kernel
theorem dX5_ofCustomer_71 : decode cX5_ofCustomer 71 = .ok (.iconst 0, 1) := by decide +kernel
theorem dX5_ofCustomer_72 : decode cX5_ofCustomer 72 = .ok (.invokevirtual 165, 3) := by decide +kernel
theorem dX5_ofCustomer_75 : decode cX5_ofCustomer 75 = .ok (.i2l, 1) := by decide +kernel
theorem dX5_ofCustomer_76 : decode cX5_ofCustomer 76 = .ok (.lreturn, 1) := by decide +kernel
theorem dX5_ofCustomer_77 : decode cX5_ofCustomer 77 = .ok (.iload_n 2, 1) := by decide +kernel
theorem dX5_ofCustomer_78 : decode cX5_ofCustomer 78 = .ok (.iconst 3, 1) := by decide +kernel
theorem dX5_ofCustomer_79 : decode cX5_ofCustomer 79 = .ok (.if_icmp .ne 12, 3) := by decide +kernel
theorem dX5_ofCustomer_82 : decode cX5_ofCustomer 82 = .ok (.aload_n 0, 1) := by decide +kernel
theorem dX5_ofCustomer_83 : decode cX5_ofCustomer 83 = .ok (.getfield 66, 3) := by decide +kernel
theorem dX5_ofCustomer_86 : decode cX5_ofCustomer 86 = .ok (.iload_n 1, 1) := by decide +kernel
theorem dX5_ofCustomer_87 : decode cX5_ofCustomer 87 = .ok (.laload, 1) := by decide +kernel
theorem dX5_ofCustomer_88 : decode cX5_ofCustomer 88 = .ok (.goto 23, 3) := by decide +kernel
theorem dX5_ofCustomer_91 : decode cX5_ofCustomer 91 = .ok (.iload_n 2, 1) := by decide +kernel
theorem dX5_ofCustomer_92 : decode cX5_ofCustomer 92 = .ok (.iconst 4, 1) := by decide +kernel
theorem dX5_ofCustomer_93 : decode cX5_ofCustomer 93 = .ok (.if_icmp .ne 12, 3) := by decide +kernel
theorem dX5_ofCustomer_96 : decode cX5_ofCustomer 96 = .ok (.aload_n 0, 1) := by decide +kernel
theorem dX5_ofCustomer_97 : decode cX5_ofCustomer 97 = .ok (.getfield 69, 3) := by decide +kernel
theorem dX5_ofCustomer_100 : decode cX5_ofCustomer 100 = .ok (.iload_n 1, 1) := by decide +kernel
theorem dX5_ofCustomer_101 : decode cX5_ofCustomer 101 = .ok (.laload, 1) := by decide +kernel
theorem dX5_ofCustomer_102 : decode cX5_ofCustomer 102 = .ok (.goto 9, 3) := by decide +kernel
theorem dX5_ofCustomer_105 : decode cX5_ofCustomer 105 = .ok (.aload_n 0, 1) := by decide +kernel
theorem dX5_ofCustomer_106 : decode cX5_ofCustomer 106 = .ok (.getfield 72, 3) := by decide +kernel
theorem dX5_ofCustomer_109 : decode cX5_ofCustomer 109 = .ok (.iload_n 1, 1) := by decide +kernel
theorem dX5_ofCustomer_110 : decode cX5_ofCustomer 110 = .ok (.laload, 1) := by decide +kernel
theorem dX5_ofCustomer_111 : decode cX5_ofCustomer 111 = .ok (.lreturn, 1) := by decide +kernel
theorem dX5_flow_0 : decode cX5_flow 0 = .ok (.aload_n 0, 1) := by decide +kernel
theorem dX5_flow_1 : decode cX5_flow 1 = .ok (.aload_n 0, 1) := by decide +kernel
theorem dX5_flow_2 : decode cX5_flow 2 = .ok (.iload_n 1, 1) := by decide +kernel
theorem dX5_flow_3 : decode cX5_flow 3 = .ok (.invokevirtual 155, 3) := by decide +kernel
theorem dX5_flow_6 : decode cX5_flow 6 = .ok (.ifCond .eq 7, 3) := by decide +kernel
theorem dX5_flow_9 : decode cX5_flow 9 = .ok (.iconst 0, 1) := by decide +kernel
theorem dX5_flow_10 : decode cX5_flow 10 = .ok (.goto 4, 3) := by decide +kernel
theorem dX5_flow_13 : decode cX5_flow 13 = .ok (.iconst 1, 1) := by decide +kernel
theorem dX5_flow_14 : decode cX5_flow 14 = .ok (.invokevirtual 133, 3) := by decide +kernel
theorem dX5_flow_17 : decode cX5_flow 17 = .ok (.ifCond .ne 5, 3) := by decide +kernel
theorem dX5_flow_20 : decode cX5_flow 20 = .ok (.iconst 0, 1) := by decide +kernel
theorem dX5_flow_21 : decode cX5_flow 21 = .ok (.ireturn, 1) := by decide +kernel
theorem dX5_flow_22 : decode cX5_flow 22 = .ok (.aload_n 0, 1) := by decide +kernel
theorem dX5_flow_23 : decode cX5_flow 23 = .ok (.invokevirtual 217, 3) := by decide +kernel
theorem dX5_flow_26 : decode cX5_flow 26 = .ok (.aload_n 0, 1) := by decide +kernel
theorem dX5_flow_27 : decode cX5_flow 27 = .ok (.getfield 90, 3) := by decide +kernel
theorem dX5_flow_30 : decode cX5_flow 30 = .ok (.iload_n 1, 1) := by decide +kernel
theorem dX5_flow_31 : decode cX5_flow 31 = .ok (.iaload, 1) := by decide +kernel
theorem dX5_flow_32 : decode cX5_flow 32 = .ok (.aload_n 0, 1) := by decide +kernel
theorem dX5_flow_33 : decode cX5_flow 33 = .ok (.getfield 93, 3) := by decide +kernel
theorem dX5_flow_36 : decode cX5_flow 36 = .ok (.iload_n 1, 1) := by decide +kernel
theorem dX5_flow_37 : decode cX5_flow 37 = .ok (.iaload, 1) := by decide +kernel
theorem dX5_flow_38 : decode cX5_flow 38 = .ok (.isub, 1) := by decide +kernel
theorem dX5_flow_39 : decode cX5_flow 39 = .ok (.ireturn, 1) := by decide +kernel
theorem dX5_why_0 : decode cX5_why 0 = .ok (.aload_n 0, 1) := by decide +kernel
theorem dX5_why_1 : decode cX5_why 1 = .ok (.aload_n 0, 1) := by decide +kernel
theorem dX5_why_2 : decode cX5_why 2 = .ok (.iload_n 1, 1) := by decide +kernel
theorem dX5_why_3 : decode cX5_why 3 = .ok (.invokevirtual 155, 3) := by decide +kernel
theorem dX5_why_6 : decode cX5_why 6 = .ok (.ifCond .eq 7, 3) := by decide +kernel
theorem dX5_why_9 : decode cX5_why 9 = .ok (.iconst 0, 1) := by decide +kernel
theorem dX5_why_10 : decode cX5_why 10 = .ok (.goto 4, 3) := by decide +kernel
theorem dX5_why_13 : decode cX5_why 13 = .ok (.iconst 1, 1) := by decide +kernel
theorem dX5_why_14 : decode cX5_why 14 = .ok (.invokevirtual 133, 3) := by decide +kernel
theorem dX5_why_17 : decode cX5_why 17 = .ok (.ifCond .ne 5, 3) := by decide +kernel
theorem dX5_why_20 : decode cX5_why 20 = .ok (.iconst 0, 1) := by decide +kernel
theorem dX5_why_21 : decode cX5_why 21 = .ok (.ireturn, 1) := by decide +kernel
theorem dX5_why_22 : decode cX5_why 22 = .ok (.aload_n 0, 1) := by decide +kernel
theorem dX5_why_23 : decode cX5_why 23 = .ok (.invokevirtual 217, 3) := by decide +kernel
theorem dX5_why_26 : decode cX5_why 26 = .ok (.aload_n 0, 1) := by decide +kernel
theorem dX5_why_27 : decode cX5_why 27 = .ok (.getfield 99, 3) := by decide +kernel
theorem dX5_why_30 : decode cX5_why 30 = .ok (.iload_n 1, 1) := by decide +kernel
theorem dX5_why_31 : decode cX5_why 31 = .ok (.iaload, 1) := by decide +kernel
theorem dX5_why_32 : decode cX5_why 32 = .ok (.ireturn, 1) := by decide +kernel
theorem dX5_bestOf_0 : decode cX5_bestOf 0 = .ok (.lconst 0, 1) := by decide +kernel
theorem dX5_bestOf_1 : decode cX5_bestOf 1 = .ok (.lstore 4, 2) := by decide +kernel
theorem dX5_bestOf_3 : decode cX5_bestOf 3 = .ok (.iconst 0, 1) := by decide +kernel
theorem dX5_bestOf_4 : decode cX5_bestOf 4 = .ok (.istore 6, 2) := by decide +kernel
theorem dX5_bestOf_6 : decode cX5_bestOf 6 = .ok (.iload 6, 2) := by decide +kernel
theorem dX5_bestOf_8 : decode cX5_bestOf 8 = .ok (.iload_n 3, 1) := by decide +kernel
theorem dX5_bestOf_9 : decode cX5_bestOf 9 = .ok (.if_icmp .ge 163, 3) := by decide +kernel
theorem dX5_bestOf_12 : decode cX5_bestOf 12 = .ok (.aload_n 0, 1) := by decide +kernel
theorem dX5_bestOf_13 : decode cX5_bestOf 13 = .ok (.getfield 63, 3) := by decide +kernel
theorem dX5_bestOf_16 : decode cX5_bestOf 16 = .ok (.iload_n 1, 1) := by decide +kernel
theorem dX5_bestOf_17 : decode cX5_bestOf 17 = .ok (.iaload, 1) := by decide +kernel
theorem dX5_bestOf_18 : decode cX5_bestOf 18 = .ok (.istore 7, 2) := by decide +kernel
theorem dX5_bestOf_20 : decode cX5_bestOf 20 = .ok (.lconst 0, 1) := by decide +kernel
theorem dX5_bestOf_21 : decode cX5_bestOf 21 = .ok (.lstore 8, 2) := by decide +kernel
theorem dX5_bestOf_23 : decode cX5_bestOf 23 = .ok (.iload 6, 2) := by decide +kernel
theorem dX5_bestOf_25 : decode cX5_bestOf 25 = .ok (.istore 10, 2) := by decide +kernel
theorem dX5_bestOf_27 : decode cX5_bestOf 27 = .ok (.iconst 0, 1) := by decide +kernel
theorem dX5_bestOf_28 : decode cX5_bestOf 28 = .ok (.istore 11, 2) := by decide +kernel
theorem dX5_bestOf_30 : decode cX5_bestOf 30 = .ok (.iload 11, 2) := by decide +kernel
theorem dX5_bestOf_32 : decode cX5_bestOf 32 = .ok (.iload_n 2, 1) := by decide +kernel
theorem dX5_bestOf_33 : decode cX5_bestOf 33 = .ok (.if_icmp .ge 116, 3) := by decide +kernel
theorem dX5_bestOf_36 : decode cX5_bestOf 36 = .ok (.iload 10, 2) := by decide +kernel
theorem dX5_bestOf_38 : decode cX5_bestOf 38 = .ok (.iconst 3, 1) := by decide +kernel
theorem dX5_bestOf_39 : decode cX5_bestOf 39 = .ok (.irem, 1) := by decide +kernel
theorem dX5_bestOf_40 : decode cX5_bestOf 40 = .ok (.istore 12, 2) := by decide +kernel
theorem dX5_bestOf_42 : decode cX5_bestOf 42 = .ok (.iload 10, 2) := by decide +kernel
theorem dX5_bestOf_44 : decode cX5_bestOf 44 = .ok (.iconst 3, 1) := by decide +kernel
theorem dX5_bestOf_45 : decode cX5_bestOf 45 = .ok (.idiv, 1) := by decide +kernel
theorem dX5_bestOf_46 : decode cX5_bestOf 46 = .ok (.istore 10, 2) := by decide +kernel
theorem dX5_bestOf_48 : decode cX5_bestOf 48 = .ok (.aload_n 0, 1) := by decide +kernel
theorem dX5_bestOf_49 : decode cX5_bestOf 49 = .ok (.iload_n 1, 1) := by decide +kernel
theorem dX5_bestOf_50 : decode cX5_bestOf 50 = .ok (.iload 7, 2) := by decide +kernel
theorem dX5_bestOf_52 : decode cX5_bestOf 52 = .ok (.iconst 1, 1) := by decide +kernel
theorem dX5_bestOf_53 : decode cX5_bestOf 53 = .ok (.invokevirtual 165, 3) := by decide +kernel
theorem dX5_bestOf_56 : decode cX5_bestOf 56 = .ok (.aload_n 0, 1) := by decide +kernel
theorem dX5_bestOf_57 : decode cX5_bestOf 57 = .ok (.getfield 51, 3) := by decide +kernel
theorem dX5_bestOf_60 : decode cX5_bestOf 60 = .ok (.iload_n 1, 1) := by decide +kernel
theorem dX5_bestOf_61 : decode cX5_bestOf 61 = .ok (.iaload, 1) := by decide +kernel
theorem dX5_bestOf_62 : decode cX5_bestOf 62 = .ok (.iload 7, 2) := by decide +kernel
theorem dX5_bestOf_64 : decode cX5_bestOf 64 = .ok (.isub, 1) := by decide +kernel
theorem dX5_bestOf_65 : decode cX5_bestOf 65 = .ok (.invokestatic 162, 3) := by decide +kernel
theorem dX5_bestOf_68 : decode cX5_bestOf 68 = .ok (.istore 13, 2) := by decide +kernel
theorem dX5_bestOf_70 : decode cX5_bestOf 70 = .ok (.aload_n 0, 1) := by decide +kernel
theorem dX5_bestOf_71 : decode cX5_bestOf 71 = .ok (.iload_n 1, 1) := by decide +kernel
theorem dX5_bestOf_72 : decode cX5_bestOf 72 = .ok (.iload 7, 2) := by decide +kernel
theorem dX5_bestOf_74 : decode cX5_bestOf 74 = .ok (.iconst 0, 1) := by decide +kernel
theorem dX5_bestOf_75 : decode cX5_bestOf 75 = .ok (.invokevirtual 165, 3) := by decide +kernel
theorem dX5_bestOf_78 : decode cX5_bestOf 78 = .ok (.iload 7, 2) := by decide +kernel
theorem dX5_bestOf_80 : decode cX5_bestOf 80 = .ok (.invokestatic 162, 3) := by decide +kernel
theorem dX5_bestOf_83 : decode cX5_bestOf 83 = .ok (.istore 14, 2) := by decide +kernel
theorem dX5_bestOf_85 : decode cX5_bestOf 85 = .ok (.iload 12, 2) := by decide +kernel
theorem dX5_bestOf_87 : decode cX5_bestOf 87 = .ok (.iconst 1, 1) := by decide +kernel
theorem dX5_bestOf_88 : decode cX5_bestOf 88 = .ok (.if_icmp .ne 8, 3) := by decide +kernel
theorem dX5_bestOf_91 : decode cX5_bestOf 91 = .ok (.iload 13, 2) := by decide +kernel
theorem dX5_bestOf_93 : decode cX5_bestOf 93 = .ok (.goto 16, 3) := by decide +kernel
theorem dX5_bestOf_96 : decode cX5_bestOf 96 = .ok (.iload 12, 2) := by decide +kernel
theorem dX5_bestOf_98 : decode cX5_bestOf 98 = .ok (.iconst 2, 1) := by decide +kernel
theorem dX5_bestOf_99 : decode cX5_bestOf 99 = .ok (.if_icmp .ne 9, 3) := by decide +kernel
theorem dX5_bestOf_102 : decode cX5_bestOf 102 = .ok (.iload 14, 2) := by decide +kernel
theorem dX5_bestOf_104 : decode cX5_bestOf 104 = .ok (.ineg, 1) := by decide +kernel
theorem dX5_bestOf_105 : decode cX5_bestOf 105 = .ok (.goto 4, 3) := by decide +kernel
theorem dX5_bestOf_108 : decode cX5_bestOf 108 = .ok (.iconst 0, 1) := by decide +kernel
theorem dX5_bestOf_109 : decode cX5_bestOf 109 = .ok (.istore 15, 2) := by decide +kernel
theorem dX5_bestOf_111 : decode cX5_bestOf 111 = .ok (.iload 7, 2) := by decide +kernel
theorem dX5_bestOf_113 : decode cX5_bestOf 113 = .ok (.iload 15, 2) := by decide +kernel
theorem dX5_bestOf_115 : decode cX5_bestOf 115 = .ok (.iadd, 1) := by decide +kernel
theorem dX5_bestOf_116 : decode cX5_bestOf 116 = .ok (.istore 7, 2) := by decide +kernel
theorem dX5_bestOf_118 : decode cX5_bestOf 118 = .ok (.lload 8, 2) := by decide +kernel
theorem dX5_bestOf_120 : decode cX5_bestOf 120 = .ok (.iload 15, 2) := by decide +kernel
theorem dX5_bestOf_122 : decode cX5_bestOf 122 = .ok (.i2l, 1) := by decide +kernel
theorem dX5_bestOf_123 : decode cX5_bestOf 123 = .ok (.aload_n 0, 1) := by decide +kernel
theorem dX5_bestOf_124 : decode cX5_bestOf 124 = .ok (.getfield 78, 3) := by decide +kernel
theorem dX5_bestOf_127 : decode cX5_bestOf 127 = .ok (.aload_n 0, 1) := by decide +kernel
theorem dX5_bestOf_128 : decode cX5_bestOf 128 = .ok (.getfield 151, 3) := by decide +kernel
theorem dX5_bestOf_131 : decode cX5_bestOf 131 = .ok (.iload 11, 2) := by decide +kernel
theorem dX5_bestOf_133 : decode cX5_bestOf 133 = .ok (.iadd, 1) := by decide +kernel
theorem dX5_bestOf_134 : decode cX5_bestOf 134 = .ok (.bipush 64, 2) := by decide +kernel
theorem dX5_bestOf_136 : decode cX5_bestOf 136 = .ok (.irem, 1) := by decide +kernel
theorem dX5_bestOf_137 : decode cX5_bestOf 137 = .ok (.iaload, 1) := by decide +kernel
theorem dX5_bestOf_138 : decode cX5_bestOf 138 = .ok (.i2l, 1) := by decide +kernel
theorem dX5_bestOf_139 : decode cX5_bestOf 139 = .ok (.lmul, 1) := by decide +kernel
theorem dX5_bestOf_140 : decode cX5_bestOf 140 = .ok (.lsub, 1) := by decide +kernel
theorem dX5_bestOf_141 : decode cX5_bestOf 141 = .ok (.lstore 8, 2) := by decide +kernel
theorem dX5_bestOf_143 : decode cX5_bestOf 143 = .ok (.iinc 11 1, 3) := by decide +kernel
theorem dX5_bestOf_146 : decode cX5_bestOf 146 = .ok (.goto (-116), 3) := by decide +kernel
theorem dX5_bestOf_149 : decode cX5_bestOf 149 = .ok (.lload 8, 2) := by decide +kernel
theorem dX5_bestOf_151 : decode cX5_bestOf 151 = .ok (.lload 4, 2) := by decide +kernel
theorem dX5_bestOf_153 : decode cX5_bestOf 153 = .ok (.lcmp, 1) := by decide +kernel
theorem dX5_bestOf_154 : decode cX5_bestOf 154 = .ok (.ifCond .le 8, 3) := by decide +kernel
theorem dX5_bestOf_157 : decode cX5_bestOf 157 = .ok (.lload 8, 2) := by decide +kernel
theorem dX5_bestOf_159 : decode cX5_bestOf 159 = .ok (.goto 5, 3) := by decide +kernel
theorem dX5_bestOf_162 : decode cX5_bestOf 162 = .ok (.lload 4, 2) := by decide +kernel
theorem dX5_bestOf_164 : decode cX5_bestOf 164 = .ok (.lstore 4, 2) := by decide +kernel
theorem dX5_bestOf_166 : decode cX5_bestOf 166 = .ok (.iinc 6 1, 3) := by decide +kernel
theorem dX5_bestOf_169 : decode cX5_bestOf 169 = .ok (.goto (-163), 3) := by decide +kernel
theorem dX5_bestOf_172 : decode cX5_bestOf 172 = .ok (.lload 4, 2) := by decide +kernel
theorem dX5_bestOf_174 : decode cX5_bestOf 174 = .ok (.lreturn, 1) := by decide +kernel
theorem dX5_worth_0 : decode cX5_worth 0 = .ok (.aload_n 0, 1) := by decide +kernel
theorem dX5_worth_1 : decode cX5_worth 1 = .ok (.aload_n 0, 1) := by decide +kernel
theorem dX5_worth_2 : decode cX5_worth 2 = .ok (.iload_n 1, 1) := by decide +kernel
theorem dX5_worth_3 : decode cX5_worth 3 = .ok (.invokevirtual 155, 3) := by decide +kernel
theorem dX5_worth_6 : decode cX5_worth 6 = .ok (.ifCond .ne 7, 3) := by decide +kernel
theorem dX5_worth_9 : decode cX5_worth 9 = .ok (.iconst 1, 1) := by decide +kernel
theorem dX5_worth_10 : decode cX5_worth 10 = .ok (.goto 18, 3) := by decide +kernel
theorem dX5_worth_13 : decode cX5_worth 13 = .ok (.iload_n 2, 1) := by decide +kernel
theorem dX5_worth_14 : decode cX5_worth 14 = .ok (.iconst 1, 1) := by decide +kernel
theorem dX5_worth_15 : decode cX5_worth 15 = .ok (.bipush 8, 2) := by decide +kernel
theorem dX5_worth_17 : decode cX5_worth 17 = .ok (.invokestatic 108, 3) := by decide +kernel
theorem dX5_worth_20 : decode cX5_worth 20 = .ok (.ifCond .eq 7, 3) := by decide +kernel
theorem dX5_worth_23 : decode cX5_worth 23 = .ok (.iconst 0, 1) := by decide +kernel
theorem dX5_worth_24 : decode cX5_worth 24 = .ok (.goto 4, 3) := by decide +kernel
theorem dX5_worth_27 : decode cX5_worth 27 = .ok (.iconst 2, 1) := by decide +kernel
theorem dX5_worth_28 : decode cX5_worth 28 = .ok (.invokevirtual 133, 3) := by decide +kernel
theorem dX5_worth_31 : decode cX5_worth 31 = .ok (.ifCond .ne 5, 3) := by decide +kernel
theorem dX5_worth_34 : decode cX5_worth 34 = .ok (.lconst 0, 1) := by decide +kernel
theorem dX5_worth_35 : decode cX5_worth 35 = .ok (.lreturn, 1) := by decide +kernel
theorem dX5_worth_36 : decode cX5_worth 36 = .ok (.iconst 1, 1) := by decide +kernel
theorem dX5_worth_37 : decode cX5_worth 37 = .ok (.istore_n 3, 1) := by decide +kernel
theorem dX5_worth_38 : decode cX5_worth 38 = .ok (.iconst 0, 1) := by decide +kernel
theorem dX5_worth_39 : decode cX5_worth 39 = .ok (.istore 4, 2) := by decide +kernel
theorem dX5_worth_41 : decode cX5_worth 41 = .ok (.iload 4, 2) := by decide +kernel
theorem dX5_worth_43 : decode cX5_worth 43 = .ok (.iload_n 2, 1) := by decide +kernel
theorem dX5_worth_44 : decode cX5_worth 44 = .ok (.if_icmp .ge 13, 3) := by decide +kernel
theorem dX5_worth_47 : decode cX5_worth 47 = .ok (.iload_n 3, 1) := by decide +kernel
theorem dX5_worth_48 : decode cX5_worth 48 = .ok (.iconst 3, 1) := by decide +kernel
theorem dX5_worth_49 : decode cX5_worth 49 = .ok (.imul, 1) := by decide +kernel
theorem dX5_worth_50 : decode cX5_worth 50 = .ok (.istore_n 3, 1) := by decide +kernel
theorem dX5_worth_51 : decode cX5_worth 51 = .ok (.iinc 4 1, 3) := by decide +kernel
theorem dX5_worth_54 : decode cX5_worth 54 = .ok (.goto (-13), 3) := by decide +kernel
theorem dX5_worth_57 : decode cX5_worth 57 = .ok (.aload_n 0, 1) := by decide +kernel
theorem dX5_worth_58 : decode cX5_worth 58 = .ok (.iload_n 1, 1) := by decide +kernel
theorem dX5_worth_59 : decode cX5_worth 59 = .ok (.iload_n 2, 1) := by decide +kernel
theorem dX5_worth_60 : decode cX5_worth 60 = .ok (.iload_n 3, 1) := by decide +kernel
theorem dX5_worth_61 : decode cX5_worth 61 = .ok (.invokevirtual 232, 3) := by decide +kernel
theorem dX5_worth_64 : decode cX5_worth 64 = .ok (.lreturn, 1) := by decide +kernel
theorem dX5_worthAnew_0 : decode cX5_worthAnew 0 = .ok (.aload_n 0, 1) := by decide +kernel
theorem dX5_worthAnew_1 : decode cX5_worthAnew 1 = .ok (.iload_n 1, 1) := by decide +kernel
theorem dX5_worthAnew_2 : decode cX5_worthAnew 2 = .ok (.iload_n 2, 1) := by decide +kernel
theorem dX5_worthAnew_3 : decode cX5_worthAnew 3 = .ok (.invokevirtual 236, 3) := by decide +kernel
theorem dX5_worthAnew_6 : decode cX5_worthAnew 6 = .ok (.lreturn, 1) := by decide +kernel
theorem dX5_of_0 : decode cX5_of 0 = .ok (.aload_n 0, 1) := by decide +kernel
theorem dX5_of_1 : decode cX5_of 1 = .ok (.iload_n 1, 1) := by decide +kernel
theorem dX5_of_2 : decode cX5_of 2 = .ok (.iconst 0, 1) := by decide +kernel
theorem dX5_of_3 : decode cX5_of 3 = .ok (.bipush 7, 2) := by decide +kernel
theorem dX5_of_5 : decode cX5_of 5 = .ok (.invokestatic 108, 3) := by decide +kernel
theorem dX5_of_8 : decode cX5_of 8 = .ok (.ifCond .eq 7, 3) := by decide +kernel
theorem dX5_of_11 : decode cX5_of 11 = .ok (.iconst 0, 1) := by decide +kernel
theorem dX5_of_12 : decode cX5_of 12 = .ok (.goto 4, 3) := by decide +kernel
theorem dX5_of_15 : decode cX5_of 15 = .ok (.iconst 1, 1) := by decide +kernel
theorem dX5_of_16 : decode cX5_of 16 = .ok (.invokevirtual 133, 3) := by decide +kernel
theorem dX5_of_19 : decode cX5_of 19 = .ok (.ifCond .ne 5, 3) := by decide +kernel
theorem dX5_of_22 : decode cX5_of 22 = .ok (.lconst 0, 1) := by decide +kernel
theorem dX5_of_23 : decode cX5_of 23 = .ok (.lreturn, 1) := by decide +kernel
theorem dX5_of_24 : decode cX5_of 24 = .ok (.lconst 0, 1) := by decide +kernel
theorem dX5_of_25 : decode cX5_of 25 = .ok (.lstore_n 2, 1) := by decide +kernel
theorem dX5_of_26 : decode cX5_of 26 = .ok (.iconst 0, 1) := by decide +kernel
theorem dX5_of_27 : decode cX5_of 27 = .ok (.istore 4, 2) := by decide +kernel
theorem dX5_of_29 : decode cX5_of 29 = .ok (.iload 4, 2) := by decide +kernel
theorem dX5_of_31 : decode cX5_of 31 = .ok (.aload_n 0, 1) := by decide +kernel
theorem dX5_of_32 : decode cX5_of 32 = .ok (.getfield 105, 3) := by decide +kernel
theorem dX5_of_35 : decode cX5_of 35 = .ok (.if_icmp .ge 20, 3) := by decide +kernel
theorem dX5_of_38 : decode cX5_of 38 = .ok (.lload_n 2, 1) := by decide +kernel
theorem dX5_of_39 : decode cX5_of 39 = .ok (.aload_n 0, 1) := by decide +kernel
theorem dX5_of_40 : decode cX5_of 40 = .ok (.getfield 19, 3) := by decide +kernel
theorem dX5_of_43 : decode cX5_of 43 = .ok (.iload 4, 2) := by decide +kernel
theorem dX5_of_45 : decode cX5_of 45 = .ok (.iaload, 1) := by decide +kernel
theorem dX5_of_46 : decode cX5_of 46 = .ok (.i2l, 1) := by decide +kernel
theorem dX5_of_47 : decode cX5_of 47 = .ok (.ladd, 1) := by decide +kernel
theorem dX5_of_48 : decode cX5_of 48 = .ok (.lstore_n 2, 1) := by decide +kernel
theorem dX5_of_49 : decode cX5_of 49 = .ok (.iinc 4 1, 3) := by decide +kernel
theorem dX5_of_52 : decode cX5_of 52 = .ok (.goto (-23), 3) := by decide +kernel
theorem dX5_of_55 : decode cX5_of 55 = .ok (.aload_n 0, 1) := by decide +kernel
theorem dX5_of_56 : decode cX5_of 56 = .ok (.invokevirtual 179, 3) := by decide +kernel
theorem dX5_of_59 : decode cX5_of 59 = .ok (.istore 4, 2) := by decide +kernel
theorem dX5_of_61 : decode cX5_of 61 = .ok (.iload_n 1, 1) := by decide +kernel
theorem dX5_of_62 : decode cX5_of 62 = .ok (.iconst 4, 1) := by decide +kernel
theorem dX5_of_63 : decode cX5_of 63 = .ok (.if_icmp .ge 44, 3) := by decide +kernel
theorem dX5_of_66 : decode cX5_of 66 = .ok (.iload_n 1, 1) := by decide +kernel
theorem dX5_of_67 : decode cX5_of 67 = .ok (.ifCond .ne 11, 3) := by decide +kernel
theorem dX5_of_70 : decode cX5_of 70 = .ok (.aload_n 0, 1) := by decide +kernel
theorem dX5_of_71 : decode cX5_of 71 = .ok (.getfield 151, 3) := by decide +kernel
theorem dX5_of_74 : decode cX5_of 74 = .ok (.i2l, 1) := by decide +kernel
theorem dX5_of_75 : decode cX5_of 75 = .ok (.goto 31, 3) := by decide +kernel
theorem dX5_of_78 : decode cX5_of 78 = .ok (.iload_n 1, 1) := by decide +kernel
theorem dX5_of_79 : decode cX5_of 79 = .ok (.iconst 1, 1) := by decide +kernel
theorem dX5_of_80 : decode cX5_of 80 = .ok (.if_icmp .ne 10, 3) := by decide +kernel
theorem dX5_of_83 : decode cX5_of 83 = .ok (.aload_n 0, 1) := by decide +kernel
theorem dX5_of_84 : decode cX5_of 84 = .ok (.getfield 136, 3) := by decide +kernel
theorem dX5_of_87 : decode cX5_of 87 = .ok (.goto 19, 3) := by decide +kernel
theorem dX5_of_90 : decode cX5_of 90 = .ok (.iload_n 1, 1) := by decide +kernel
theorem dX5_of_91 : decode cX5_of 91 = .ok (.iconst 2, 1) := by decide +kernel
theorem dX5_of_92 : decode cX5_of 92 = .ok (.if_icmp .ne 10, 3) := by decide +kernel
theorem dX5_of_95 : decode cX5_of 95 = .ok (.aload_n 0, 1) := by decide +kernel
theorem dX5_of_96 : decode cX5_of 96 = .ok (.getfield 206, 3) := by decide +kernel
theorem dX5_of_99 : decode cX5_of 99 = .ok (.goto 7, 3) := by decide +kernel
theorem dX5_of_102 : decode cX5_of 102 = .ok (.aload_n 0, 1) := by decide +kernel
theorem dX5_of_103 : decode cX5_of 103 = .ok (.getfield 203, 3) := by decide +kernel
theorem dX5_of_106 : decode cX5_of 106 = .ok (.lreturn, 1) := by decide +kernel
theorem dX5_of_107 : decode cX5_of 107 = .ok (.iload_n 1, 1) := by decide +kernel
theorem dX5_of_108 : decode cX5_of 108 = .ok (.iconst 4, 1) := by decide +kernel
theorem dX5_of_109 : decode cX5_of 109 = .ok (.if_icmp .ne 7, 3) := by decide +kernel
theorem dX5_of_112 : decode cX5_of 112 = .ok (.lload_n 2, 1) := by decide +kernel
theorem dX5_of_113 : decode cX5_of 113 = .ok (.goto 48, 3) := by decide +kernel
theorem dX5_of_116 : decode cX5_of 116 = .ok (.iload_n 1, 1) := by decide +kernel
theorem dX5_of_117 : decode cX5_of 117 = .ok (.iconst 5, 1) := by decide +kernel
theorem dX5_of_118 : decode cX5_of 118 = .ok (.if_icmp .ne 10, 3) := by decide +kernel
theorem dX5_of_121 : decode cX5_of 121 = .ok (.aload_n 0, 1) := by decide +kernel
theorem dX5_of_122 : decode cX5_of 122 = .ok (.invokevirtual 183, 3) := by decide +kernel
theorem dX5_of_125 : decode cX5_of 125 = .ok (.goto 36, 3) := by decide +kernel
theorem dX5_of_128 : decode cX5_of 128 = .ok (.iload_n 1, 1) := by decide +kernel
theorem dX5_of_129 : decode cX5_of 129 = .ok (.bipush 6, 2) := by decide +kernel
theorem dX5_of_131 : decode cX5_of 131 = .ok (.if_icmp .ne 12, 3) := by decide +kernel
theorem dX5_of_134 : decode cX5_of 134 = .ok (.lload_n 2, 1) := by decide +kernel
theorem dX5_of_135 : decode cX5_of 135 = .ok (.aload_n 0, 1) := by decide +kernel
theorem dX5_of_136 : decode cX5_of 136 = .ok (.invokevirtual 183, 3) := by decide +kernel
theorem dX5_of_139 : decode cX5_of 139 = .ok (.lsub, 1) := by decide +kernel
theorem dX5_of_140 : decode cX5_of 140 = .ok (.goto 21, 3) := by decide +kernel
theorem dX5_of_143 : decode cX5_of 143 = .ok (.iload 4, 2) := by decide +kernel
theorem dX5_of_145 : decode cX5_of 145 = .ok (.iconst (-1), 1) := by decide +kernel
theorem dX5_of_146 : decode cX5_of 146 = .ok (.if_icmp .ne 7, 3) := by decide +kernel
theorem dX5_of_149 : decode cX5_of 149 = .ok (.lconst 0, 1) := by decide +kernel
theorem dX5_of_150 : decode cX5_of 150 = .ok (.goto 11, 3) := by decide +kernel
theorem dX5_of_153 : decode cX5_of 153 = .ok (.aload_n 0, 1) := by decide +kernel
theorem dX5_of_154 : decode cX5_of 154 = .ok (.getfield 87, 3) := by decide +kernel
theorem dX5_of_157 : decode cX5_of 157 = .ok (.iload 4, 2) := by decide +kernel
theorem dX5_of_159 : decode cX5_of 159 = .ok (.iaload, 1) := by decide +kernel
theorem dX5_of_160 : decode cX5_of 160 = .ok (.i2l, 1) := by decide +kernel
theorem dX5_of_161 : decode cX5_of 161 = .ok (.lreturn, 1) := by decide +kernel
theorem dJ9_floorMod_7cf53_0 : decode cJ9_floorMod_7cf53 0 = .ok (.iload_n 0, 1) := by decide +kernel
theorem dJ9_floorMod_7cf53_1 : decode cJ9_floorMod_7cf53 1 = .ok (.iload_n 1, 1) := by decide +kernel
theorem dJ9_floorMod_7cf53_2 : decode cJ9_floorMod_7cf53 2 = .ok (.irem, 1) := by decide +kernel
theorem dJ9_floorMod_7cf53_3 : decode cJ9_floorMod_7cf53 3 = .ok (.istore_n 2, 1) := by decide +kernel
theorem dJ9_floorMod_7cf53_4 : decode cJ9_floorMod_7cf53 4 = .ok (.iload_n 0, 1) := by decide +kernel
theorem dJ9_floorMod_7cf53_5 : decode cJ9_floorMod_7cf53 5 = .ok (.iload_n 1, 1) := by decide +kernel
theorem dJ9_floorMod_7cf53_6 : decode cJ9_floorMod_7cf53 6 = .ok (.ixor, 1) := by decide +kernel
theorem dJ9_floorMod_7cf53_7 : decode cJ9_floorMod_7cf53 7 = .ok (.ifCond .ge 11, 3) := by decide +kernel
theorem dJ9_floorMod_7cf53_10 : decode cJ9_floorMod_7cf53 10 = .ok (.iload_n 2, 1) := by decide +kernel
theorem dJ9_floorMod_7cf53_11 : decode cJ9_floorMod_7cf53 11 = .ok (.ifCond .eq 7, 3) := by decide +kernel
theorem dJ9_floorMod_7cf53_14 : decode cJ9_floorMod_7cf53 14 = .ok (.iload_n 2, 1) := by decide +kernel
theorem dJ9_floorMod_7cf53_15 : decode cJ9_floorMod_7cf53 15 = .ok (.iload_n 1, 1) := by decide +kernel
theorem dJ9_floorMod_7cf53_16 : decode cJ9_floorMod_7cf53 16 = .ok (.iadd, 1) := by decide +kernel
theorem dJ9_floorMod_7cf53_17 : decode cJ9_floorMod_7cf53 17 = .ok (.ireturn, 1) := by decide +kernel
theorem dJ9_floorMod_7cf53_18 : decode cJ9_floorMod_7cf53 18 = .ok (.iload_n 2, 1) := by decide +kernel
theorem dJ9_floorMod_7cf53_19 : decode cJ9_floorMod_7cf53 19 = .ok (.ireturn, 1) := by decide +kernel
theorem dJ9_abs_0f7a4_0 : decode cJ9_abs_0f7a4 0 = .ok (.iload_n 0, 1) := by decide +kernel
theorem dJ9_abs_0f7a4_1 : decode cJ9_abs_0f7a4 1 = .ok (.ifCond .ge 8, 3) := by decide +kernel
theorem dJ9_abs_0f7a4_4 : decode cJ9_abs_0f7a4 4 = .ok (.iload_n 0, 1) := by decide +kernel
theorem dJ9_abs_0f7a4_5 : decode cJ9_abs_0f7a4 5 = .ok (.ineg, 1) := by decide +kernel
theorem dJ9_abs_0f7a4_6 : decode cJ9_abs_0f7a4 6 = .ok (.goto 4, 3) := by decide +kernel
theorem dJ9_abs_0f7a4_9 : decode cJ9_abs_0f7a4 9 = .ok (.iload_n 0, 1) := by decide +kernel
theorem dJ9_abs_0f7a4_10 : decode cJ9_abs_0f7a4 10 = .ok (.ireturn, 1) := by decide +kernel
theorem dJ9_max_7cf53_0 : decode cJ9_max_7cf53 0 = .ok (.iload_n 0, 1) := by decide +kernel
theorem dJ9_max_7cf53_1 : decode cJ9_max_7cf53 1 = .ok (.iload_n 1, 1) := by decide +kernel
theorem dJ9_max_7cf53_2 : decode cJ9_max_7cf53 2 = .ok (.if_icmp .lt 7, 3) := by decide +kernel
theorem dJ9_max_7cf53_5 : decode cJ9_max_7cf53 5 = .ok (.iload_n 0, 1) := by decide +kernel
theorem dJ9_max_7cf53_6 : decode cJ9_max_7cf53 6 = .ok (.goto 4, 3) := by decide +kernel
theorem dJ9_max_7cf53_9 : decode cJ9_max_7cf53 9 = .ok (.iload_n 1, 1) := by decide +kernel
theorem dJ9_max_7cf53_10 : decode cJ9_max_7cf53 10 = .ok (.ireturn, 1) := by decide +kernel
theorem dJ9_max_f86c9_0 : decode cJ9_max_f86c9 0 = .ok (.lload_n 0, 1) := by decide +kernel
theorem dJ9_max_f86c9_1 : decode cJ9_max_f86c9 1 = .ok (.lload_n 2, 1) := by decide +kernel
theorem dJ9_max_f86c9_2 : decode cJ9_max_f86c9 2 = .ok (.lcmp, 1) := by decide +kernel
theorem dJ9_max_f86c9_3 : decode cJ9_max_f86c9 3 = .ok (.ifCond .lt 7, 3) := by decide +kernel
theorem dJ9_max_f86c9_6 : decode cJ9_max_f86c9 6 = .ok (.lload_n 0, 1) := by decide +kernel
theorem dJ9_max_f86c9_7 : decode cJ9_max_f86c9 7 = .ok (.goto 4, 3) := by decide +kernel
theorem dJ9_max_f86c9_10 : decode cJ9_max_f86c9 10 = .ok (.lload_n 2, 1) := by decide +kernel
theorem dJ9_max_f86c9_11 : decode cJ9_max_f86c9 11 = .ok (.lreturn, 1) := by decide +kernel
theorem dJ9_min_7cf53_0 : decode cJ9_min_7cf53 0 = .ok (.iload_n 0, 1) := by decide +kernel
theorem dJ9_min_7cf53_1 : decode cJ9_min_7cf53 1 = .ok (.iload_n 1, 1) := by decide +kernel
theorem dJ9_min_7cf53_2 : decode cJ9_min_7cf53 2 = .ok (.if_icmp .gt 7, 3) := by decide +kernel
theorem dJ9_min_7cf53_5 : decode cJ9_min_7cf53 5 = .ok (.iload_n 0, 1) := by decide +kernel
theorem dJ9_min_7cf53_6 : decode cJ9_min_7cf53 6 = .ok (.goto 4, 3) := by decide +kernel
theorem dJ9_min_7cf53_9 : decode cJ9_min_7cf53 9 = .ok (.iload_n 1, 1) := by decide +kernel
theorem dJ9_min_7cf53_10 : decode cJ9_min_7cf53 10 = .ok (.ireturn, 1) := by decide +kernel
theorem dJxa1e45_init_da8c8_0 : decode cJxa1e45_init_da8c8 0 = .ok (.aload_n 0, 1) := by decide +kernel
theorem dJxa1e45_init_da8c8_1 : decode cJxa1e45_init_da8c8 1 = .ok (.invokespecial 1, 3) := by decide +kernel
theorem dJxa1e45_init_da8c8_4 : decode cJxa1e45_init_da8c8 4 = .ok (.return_, 1) := by decide +kernel
theorem dJxc12de_init_da8c8_0 : decode cJxc12de_init_da8c8 0 = .ok (.aload_n 0, 1) := by decide +kernel
theorem dJxc12de_init_da8c8_1 : decode cJxc12de_init_da8c8 1 = .ok (.invokespecial 1, 3) := by decide +kernel
theorem dJxc12de_init_da8c8_4 : decode cJxc12de_init_da8c8 4 = .ok (.aload_n 0, 1) := by decide +kernel
theorem dJxc12de_init_da8c8_5 : decode cJxc12de_init_da8c8 5 = .ok (.iconst 0, 1) := by decide +kernel
theorem dJxc12de_init_da8c8_6 : decode cJxc12de_init_da8c8 6 = .ok (.putfield 7, 3) := by decide +kernel
theorem dJxc12de_init_da8c8_9 : decode cJxc12de_init_da8c8 9 = .ok (.return_, 1) := by decide +kernel
theorem dJx4a65c_init_da8c8_0 : decode cJx4a65c_init_da8c8 0 = .ok (.aload_n 0, 1) := by decide +kernel
theorem dJx4a65c_init_da8c8_1 : decode cJx4a65c_init_da8c8 1 = .ok (.invokespecial 1, 3) := by decide +kernel
theorem dJx4a65c_init_da8c8_4 : decode cJx4a65c_init_da8c8 4 = .ok (.aload_n 0, 1) := by decide +kernel
theorem dJx4a65c_init_da8c8_5 : decode cJx4a65c_init_da8c8 5 = .ok (.getstatic 39, 3) := by decide +kernel
theorem dJx4a65c_init_da8c8_8 : decode cJx4a65c_init_da8c8 8 = .ok (.putfield 9, 3) := by decide +kernel
theorem dJx4a65c_init_da8c8_11 : decode cJx4a65c_init_da8c8 11 = .ok (.return_, 1) := by decide +kernel
theorem dJx4a65c_grow_92f84_0 : decode cJx4a65c_grow_92f84 0 = .ok (.aload_n 0, 1) := by decide +kernel
theorem dJx4a65c_grow_92f84_1 : decode cJx4a65c_grow_92f84 1 = .ok (.getfield 9, 3) := by decide +kernel
theorem dJx4a65c_grow_92f84_4 : decode cJx4a65c_grow_92f84 4 = .ok (.arraylength, 1) := by decide +kernel
theorem dJx4a65c_grow_92f84_5 : decode cJx4a65c_grow_92f84 5 = .ok (.istore_n 2, 1) := by decide +kernel
theorem dJx4a65c_grow_92f84_6 : decode cJx4a65c_grow_92f84 6 = .ok (.iload_n 2, 1) := by decide +kernel
theorem dJx4a65c_grow_92f84_7 : decode cJx4a65c_grow_92f84 7 = .ok (.ifCond .gt 13, 3) := by decide +kernel
theorem dJx4a65c_grow_92f84_10 : decode cJx4a65c_grow_92f84 10 = .ok (.aload_n 0, 1) := by decide +kernel
theorem dJx4a65c_grow_92f84_11 : decode cJx4a65c_grow_92f84 11 = .ok (.getfield 9, 3) := by decide +kernel
theorem dJx4a65c_grow_92f84_14 : decode cJx4a65c_grow_92f84 14 = .ok (.getstatic 39, 3) := by decide +kernel
theorem dJx4a65c_grow_92f84_17 : decode cJx4a65c_grow_92f84 17 = .ok (.if_acmp .eq 28, 3) := by decide +kernel
theorem dJx4a65c_grow_92f84_20 : decode cJx4a65c_grow_92f84 20 = .ok (.iload_n 2, 1) := by decide +kernel
theorem dJx4a65c_grow_92f84_21 : decode cJx4a65c_grow_92f84 21 = .ok (.iload_n 1, 1) := by decide +kernel
theorem dJx4a65c_grow_92f84_22 : decode cJx4a65c_grow_92f84 22 = .ok (.iload_n 2, 1) := by decide +kernel
theorem dJx4a65c_grow_92f84_23 : decode cJx4a65c_grow_92f84 23 = .ok (.isub, 1) := by decide +kernel
theorem dJx4a65c_grow_92f84_24 : decode cJx4a65c_grow_92f84 24 = .ok (.iload_n 2, 1) := by decide +kernel
theorem dJx4a65c_grow_92f84_25 : decode cJx4a65c_grow_92f84 25 = .ok (.iconst 1, 1) := by decide +kernel
theorem dJx4a65c_grow_92f84_26 : decode cJx4a65c_grow_92f84 26 = .ok (.ishr, 1) := by decide +kernel
theorem dJx4a65c_grow_92f84_27 : decode cJx4a65c_grow_92f84 27 = .ok (.invokestatic 73, 3) := by decide +kernel
theorem dJx4a65c_grow_92f84_30 : decode cJx4a65c_grow_92f84 30 = .ok (.istore_n 3, 1) := by decide +kernel
theorem dJx4a65c_grow_92f84_31 : decode cJx4a65c_grow_92f84 31 = .ok (.aload_n 0, 1) := by decide +kernel
theorem dJx4a65c_grow_92f84_32 : decode cJx4a65c_grow_92f84 32 = .ok (.aload_n 0, 1) := by decide +kernel
theorem dJx4a65c_grow_92f84_33 : decode cJx4a65c_grow_92f84 33 = .ok (.getfield 9, 3) := by decide +kernel
theorem dJx4a65c_grow_92f84_36 : decode cJx4a65c_grow_92f84 36 = .ok (.iload_n 3, 1) := by decide +kernel
theorem dJx4a65c_grow_92f84_37 : decode cJx4a65c_grow_92f84 37 = .ok (.invokestatic 66, 3) := by decide +kernel
theorem dJx4a65c_grow_92f84_40 : decode cJx4a65c_grow_92f84 40 = .ok (.dup_x1, 1) := by decide +kernel
theorem dJx4a65c_grow_92f84_41 : decode cJx4a65c_grow_92f84 41 = .ok (.putfield 9, 3) := by decide +kernel
theorem dJx4a65c_grow_92f84_44 : decode cJx4a65c_grow_92f84 44 = .ok (.areturn, 1) := by decide +kernel
theorem dJx4a65c_grow_92f84_45 : decode cJx4a65c_grow_92f84 45 = .ok (.aload_n 0, 1) := by decide +kernel
theorem dJx4a65c_grow_92f84_46 : decode cJx4a65c_grow_92f84 46 = .ok (.bipush 10, 2) := by decide +kernel
theorem dJx4a65c_grow_92f84_48 : decode cJx4a65c_grow_92f84 48 = .ok (.iload_n 1, 1) := by decide +kernel
theorem dJx4a65c_grow_92f84_49 : decode cJx4a65c_grow_92f84 49 = .ok (.invokestatic 79, 3) := by decide +kernel
theorem dJx4a65c_grow_92f84_52 : decode cJx4a65c_grow_92f84 52 = .ok (.anewarray 7, 3) := by decide +kernel
theorem dJx4a65c_grow_92f84_55 : decode cJx4a65c_grow_92f84 55 = .ok (.dup_x1, 1) := by decide +kernel
theorem dJx4a65c_grow_92f84_56 : decode cJx4a65c_grow_92f84 56 = .ok (.putfield 9, 3) := by decide +kernel
theorem dJx4a65c_grow_92f84_59 : decode cJx4a65c_grow_92f84 59 = .ok (.areturn, 1) := by decide +kernel
theorem dJx4a65c_grow_d5877_0 : decode cJx4a65c_grow_d5877 0 = .ok (.aload_n 0, 1) := by decide +kernel
theorem dJx4a65c_grow_d5877_1 : decode cJx4a65c_grow_d5877 1 = .ok (.aload_n 0, 1) := by decide +kernel
theorem dJx4a65c_grow_d5877_2 : decode cJx4a65c_grow_d5877 2 = .ok (.getfield 48, 3) := by decide +kernel
theorem dJx4a65c_grow_d5877_5 : decode cJx4a65c_grow_d5877 5 = .ok (.iconst 1, 1) := by decide +kernel
theorem dJx4a65c_grow_d5877_6 : decode cJx4a65c_grow_d5877 6 = .ok (.iadd, 1) := by decide +kernel
theorem dJx4a65c_grow_d5877_7 : decode cJx4a65c_grow_d5877 7 = .ok (.invokevirtual 69, 3) := by decide +kernel
theorem dJx4a65c_grow_d5877_10 : decode cJx4a65c_grow_d5877 10 = .ok (.areturn, 1) := by decide +kernel
theorem dJx4a65c_size_8abf5_0 : decode cJx4a65c_size_8abf5 0 = .ok (.aload_n 0, 1) := by decide +kernel
theorem dJx4a65c_size_8abf5_1 : decode cJx4a65c_size_8abf5 1 = .ok (.getfield 48, 3) := by decide +kernel
theorem dJx4a65c_size_8abf5_4 : decode cJx4a65c_size_8abf5 4 = .ok (.ireturn, 1) := by decide +kernel
theorem dJx4a65c_elementData_915e3_0 : decode cJx4a65c_elementData_915e3 0 = .ok (.aload_n 0, 1) := by decide +kernel
theorem dJx4a65c_elementData_915e3_1 : decode cJx4a65c_elementData_915e3 1 = .ok (.getfield 9, 3) := by decide +kernel
theorem dJx4a65c_elementData_915e3_4 : decode cJx4a65c_elementData_915e3 4 = .ok (.iload_n 1, 1) := by decide +kernel
theorem dJx4a65c_elementData_915e3_5 : decode cJx4a65c_elementData_915e3 5 = .ok (.aaload, 1) := by decide +kernel
theorem dJx4a65c_elementData_915e3_6 : decode cJx4a65c_elementData_915e3 6 = .ok (.areturn, 1) := by decide +kernel
theorem dJx4a65c_get_915e3_0 : decode cJx4a65c_get_915e3 0 = .ok (.iload_n 1, 1) := by decide +kernel
theorem dJx4a65c_get_915e3_1 : decode cJx4a65c_get_915e3 1 = .ok (.aload_n 0, 1) := by decide +kernel
theorem dJx4a65c_get_915e3_2 : decode cJx4a65c_get_915e3 2 = .ok (.getfield 48, 3) := by decide +kernel
theorem dJx4a65c_get_915e3_5 : decode cJx4a65c_get_915e3 5 = .ok (.invokestatic 118, 3) := by decide +kernel
theorem dJx4a65c_get_915e3_8 : decode cJx4a65c_get_915e3 8 = .ok (.pop, 1) := by decide +kernel
theorem dJx4a65c_get_915e3_9 : decode cJx4a65c_get_915e3 9 = .ok (.aload_n 0, 1) := by decide +kernel
theorem dJx4a65c_get_915e3_10 : decode cJx4a65c_get_915e3 10 = .ok (.iload_n 1, 1) := by decide +kernel
theorem dJx4a65c_get_915e3_11 : decode cJx4a65c_get_915e3 11 = .ok (.invokevirtual 123, 3) := by decide +kernel
theorem dJx4a65c_get_915e3_14 : decode cJx4a65c_get_915e3 14 = .ok (.areturn, 1) := by decide +kernel
theorem dJx4a65c_add_72be8_0 : decode cJx4a65c_add_72be8 0 = .ok (.iload_n 3, 1) := by decide +kernel
theorem dJx4a65c_add_72be8_1 : decode cJx4a65c_add_72be8 1 = .ok (.aload_n 2, 1) := by decide +kernel
theorem dJx4a65c_add_72be8_2 : decode cJx4a65c_add_72be8 2 = .ok (.arraylength, 1) := by decide +kernel
theorem dJx4a65c_add_72be8_3 : decode cJx4a65c_add_72be8 3 = .ok (.if_icmp .ne 8, 3) := by decide +kernel
theorem dJx4a65c_add_72be8_6 : decode cJx4a65c_add_72be8 6 = .ok (.aload_n 0, 1) := by decide +kernel
theorem dJx4a65c_add_72be8_7 : decode cJx4a65c_add_72be8 7 = .ok (.invokevirtual 129, 3) := by decide +kernel
theorem dJx4a65c_add_72be8_10 : decode cJx4a65c_add_72be8 10 = .ok (.astore_n 2, 1) := by decide +kernel
theorem dJx4a65c_add_72be8_11 : decode cJx4a65c_add_72be8 11 = .ok (.aload_n 2, 1) := by decide +kernel
theorem dJx4a65c_add_72be8_12 : decode cJx4a65c_add_72be8 12 = .ok (.iload_n 3, 1) := by decide +kernel
theorem dJx4a65c_add_72be8_13 : decode cJx4a65c_add_72be8 13 = .ok (.aload_n 1, 1) := by decide +kernel
theorem dJx4a65c_add_72be8_14 : decode cJx4a65c_add_72be8 14 = .ok (.aastore, 1) := by decide +kernel
theorem dJx4a65c_add_72be8_15 : decode cJx4a65c_add_72be8 15 = .ok (.aload_n 0, 1) := by decide +kernel
theorem dJx4a65c_add_72be8_16 : decode cJx4a65c_add_72be8 16 = .ok (.iload_n 3, 1) := by decide +kernel
theorem dJx4a65c_add_72be8_17 : decode cJx4a65c_add_72be8 17 = .ok (.iconst 1, 1) := by decide +kernel
theorem dJx4a65c_add_72be8_18 : decode cJx4a65c_add_72be8 18 = .ok (.iadd, 1) := by decide +kernel
theorem dJx4a65c_add_72be8_19 : decode cJx4a65c_add_72be8 19 = .ok (.putfield 48, 3) := by decide +kernel
theorem dJx4a65c_add_72be8_22 : decode cJx4a65c_add_72be8 22 = .ok (.return_, 1) := by decide +kernel
theorem dJx4a65c_add_9ea2d_0 : decode cJx4a65c_add_9ea2d 0 = .ok (.aload_n 0, 1) := by decide +kernel
theorem dJx4a65c_add_9ea2d_1 : decode cJx4a65c_add_9ea2d 1 = .ok (.dup, 1) := by decide +kernel
theorem dJx4a65c_add_9ea2d_2 : decode cJx4a65c_add_9ea2d 2 = .ok (.getfield 63, 3) := by decide +kernel
theorem dJx4a65c_add_9ea2d_5 : decode cJx4a65c_add_9ea2d 5 = .ok (.iconst 1, 1) := by decide +kernel
theorem dJx4a65c_add_9ea2d_6 : decode cJx4a65c_add_9ea2d 6 = .ok (.iadd, 1) := by decide +kernel
theorem dJx4a65c_add_9ea2d_7 : decode cJx4a65c_add_9ea2d 7 = .ok (.putfield 63, 3) := by decide +kernel
theorem dJx4a65c_add_9ea2d_10 : decode cJx4a65c_add_9ea2d 10 = .ok (.aload_n 0, 1) := by decide +kernel
theorem dJx4a65c_add_9ea2d_11 : decode cJx4a65c_add_9ea2d 11 = .ok (.aload_n 1, 1) := by decide +kernel
theorem dJx4a65c_add_9ea2d_12 : decode cJx4a65c_add_9ea2d 12 = .ok (.aload_n 0, 1) := by decide +kernel
theorem dJx4a65c_add_9ea2d_13 : decode cJx4a65c_add_9ea2d 13 = .ok (.getfield 9, 3) := by decide +kernel
theorem dJx4a65c_add_9ea2d_16 : decode cJx4a65c_add_9ea2d 16 = .ok (.aload_n 0, 1) := by decide +kernel
theorem dJx4a65c_add_9ea2d_17 : decode cJx4a65c_add_9ea2d 17 = .ok (.getfield 48, 3) := by decide +kernel
theorem dJx4a65c_add_9ea2d_20 : decode cJx4a65c_add_9ea2d 20 = .ok (.invokevirtual 131, 3) := by decide +kernel
theorem dJx4a65c_add_9ea2d_23 : decode cJx4a65c_add_9ea2d 23 = .ok (.iconst 1, 1) := by decide +kernel
theorem dJx4a65c_add_9ea2d_24 : decode cJx4a65c_add_9ea2d 24 = .ok (.ireturn, 1) := by decide +kernel
theorem dJ7_copyOf_1904c_0 : decode cJ7_copyOf_1904c 0 = .ok (.aload_n 0, 1) := by decide +kernel
theorem dJ7_copyOf_1904c_1 : decode cJ7_copyOf_1904c 1 = .ok (.iload_n 1, 1) := by decide +kernel
theorem dJ7_copyOf_1904c_2 : decode cJ7_copyOf_1904c 2 = .ok (.aload_n 0, 1) := by decide +kernel
theorem dJ7_copyOf_1904c_3 : decode cJ7_copyOf_1904c 3 = .ok (.invokevirtual 86, 3) := by decide +kernel
theorem dJ7_copyOf_1904c_6 : decode cJ7_copyOf_1904c 6 = .ok (.invokestatic 300, 3) := by decide +kernel
theorem dJ7_copyOf_1904c_9 : decode cJ7_copyOf_1904c 9 = .ok (.areturn, 1) := by decide +kernel
theorem dJ7_copyOf_6403c_0 : decode cJ7_copyOf_6403c 0 = .ok (.aload_n 2, 1) := by decide +kernel
theorem dJ7_copyOf_6403c_1 : decode cJ7_copyOf_6403c 1 = .ok (.ldc 110, 2) := by decide +kernel
theorem dJ7_copyOf_6403c_3 : decode cJ7_copyOf_6403c 3 = .ok (.if_acmp .ne 10, 3) := by decide +kernel
theorem dJ7_copyOf_6403c_6 : decode cJ7_copyOf_6403c 6 = .ok (.iload_n 1, 1) := by decide +kernel
theorem dJ7_copyOf_6403c_7 : decode cJ7_copyOf_6403c 7 = .ok (.anewarray 2, 3) := by decide +kernel
theorem dJ7_copyOf_6403c_10 : decode cJ7_copyOf_6403c 10 = .ok (.goto 14, 3) := by decide +kernel
theorem dJ7_copyOf_6403c_13 : decode cJ7_copyOf_6403c 13 = .ok (.aload_n 2, 1) := by decide +kernel
theorem dJ7_copyOf_6403c_14 : decode cJ7_copyOf_6403c 14 = .ok (.invokevirtual 90, 3) := by decide +kernel
theorem dJ7_copyOf_6403c_17 : decode cJ7_copyOf_6403c 17 = .ok (.iload_n 1, 1) := by decide +kernel
theorem dJ7_copyOf_6403c_18 : decode cJ7_copyOf_6403c 18 = .ok (.invokestatic 95, 3) := by decide +kernel
theorem dJ7_copyOf_6403c_21 : decode cJ7_copyOf_6403c 21 = .ok (.checkcast 110, 3) := by decide +kernel
theorem dJ7_copyOf_6403c_24 : decode cJ7_copyOf_6403c 24 = .ok (.astore_n 3, 1) := by decide +kernel
theorem dJ7_copyOf_6403c_25 : decode cJ7_copyOf_6403c 25 = .ok (.aload_n 0, 1) := by decide +kernel
theorem dJ7_copyOf_6403c_26 : decode cJ7_copyOf_6403c 26 = .ok (.iconst 0, 1) := by decide +kernel
theorem dJ7_copyOf_6403c_27 : decode cJ7_copyOf_6403c 27 = .ok (.aload_n 3, 1) := by decide +kernel
theorem dJ7_copyOf_6403c_28 : decode cJ7_copyOf_6403c 28 = .ok (.iconst 0, 1) := by decide +kernel
theorem dJ7_copyOf_6403c_29 : decode cJ7_copyOf_6403c 29 = .ok (.aload_n 0, 1) := by decide +kernel
theorem dJ7_copyOf_6403c_30 : decode cJ7_copyOf_6403c 30 = .ok (.arraylength, 1) := by decide +kernel
theorem dJ7_copyOf_6403c_31 : decode cJ7_copyOf_6403c 31 = .ok (.iload_n 1, 1) := by decide +kernel
theorem dJ7_copyOf_6403c_32 : decode cJ7_copyOf_6403c 32 = .ok (.invokestatic 304, 3) := by decide +kernel
theorem dJ7_copyOf_6403c_35 : decode cJ7_copyOf_6403c 35 = .ok (.invokestatic 150, 3) := by decide +kernel
theorem dJ7_copyOf_6403c_38 : decode cJ7_copyOf_6403c 38 = .ok (.aload_n 3, 1) := by decide +kernel
theorem dJ7_copyOf_6403c_39 : decode cJ7_copyOf_6403c 39 = .ok (.areturn, 1) := by decide +kernel
theorem dJ15_checkIndex_7cf53_0 : decode cJ15_checkIndex_7cf53 0 = .ok (.iload_n 0, 1) := by decide +kernel
theorem dJ15_checkIndex_7cf53_1 : decode cJ15_checkIndex_7cf53 1 = .ok (.iload_n 1, 1) := by decide +kernel
theorem dJ15_checkIndex_7cf53_2 : decode cJ15_checkIndex_7cf53 2 = .ok (.aconst_null, 1) := by decide +kernel
theorem dJ15_checkIndex_7cf53_3 : decode cJ15_checkIndex_7cf53 3 = .ok (.invokestatic 105, 3) := by decide +kernel
theorem dJ15_checkIndex_7cf53_6 : decode cJ15_checkIndex_7cf53 6 = .ok (.ireturn, 1) := by decide +kernel
theorem dJ8_newLength_cabcc_0 : decode cJ8_newLength_cabcc 0 = .ok (.iload_n 0, 1) := by decide +kernel
theorem dJ8_newLength_cabcc_1 : decode cJ8_newLength_cabcc 1 = .ok (.iload_n 1, 1) := by decide +kernel
theorem dJ8_newLength_cabcc_2 : decode cJ8_newLength_cabcc 2 = .ok (.iload_n 2, 1) := by decide +kernel
theorem dJ8_newLength_cabcc_3 : decode cJ8_newLength_cabcc 3 = .ok (.invokestatic 194, 3) := by decide +kernel
theorem dJ8_newLength_cabcc_6 : decode cJ8_newLength_cabcc 6 = .ok (.iadd, 1) := by decide +kernel
theorem dJ8_newLength_cabcc_7 : decode cJ8_newLength_cabcc 7 = .ok (.istore_n 3, 1) := by decide +kernel
theorem dJ8_newLength_cabcc_8 : decode cJ8_newLength_cabcc 8 = .ok (.iconst 0, 1) := by decide +kernel
theorem dJ8_newLength_cabcc_9 : decode cJ8_newLength_cabcc 9 = .ok (.iload_n 3, 1) := by decide +kernel
theorem dJ8_newLength_cabcc_10 : decode cJ8_newLength_cabcc 10 = .ok (.if_icmp .ge 11, 3) := by decide +kernel
theorem dJ8_newLength_cabcc_13 : decode cJ8_newLength_cabcc 13 = .ok (.iload_n 3, 1) := by decide +kernel
theorem dJ8_newLength_cabcc_14 : decode cJ8_newLength_cabcc 14 = .ok (.ldc 200, 2) := by decide +kernel
theorem dJ8_newLength_cabcc_16 : decode cJ8_newLength_cabcc 16 = .ok (.if_icmp .gt 5, 3) := by decide +kernel
theorem dJ8_newLength_cabcc_19 : decode cJ8_newLength_cabcc 19 = .ok (.iload_n 3, 1) := by decide +kernel
theorem dJ8_newLength_cabcc_20 : decode cJ8_newLength_cabcc 20 = .ok (.ireturn, 1) := by decide +kernel
theorem dJ8_newLength_cabcc_21 : decode cJ8_newLength_cabcc 21 = .ok (.iload_n 0, 1) := by decide +kernel
theorem dJ8_newLength_cabcc_22 : decode cJ8_newLength_cabcc 22 = .ok (.iload_n 1, 1) := by decide +kernel
theorem dJ8_newLength_cabcc_23 : decode cJ8_newLength_cabcc 23 = .ok (.invokestatic 201, 3) := by decide +kernel
theorem dJ8_newLength_cabcc_26 : decode cJ8_newLength_cabcc 26 = .ok (.ireturn, 1) := by decide +kernel
theorem dJ8_hugeLength_7cf53_0 : decode cJ8_hugeLength_7cf53 0 = .ok (.iload_n 0, 1) := by decide +kernel
theorem dJ8_hugeLength_7cf53_1 : decode cJ8_hugeLength_7cf53 1 = .ok (.iload_n 1, 1) := by decide +kernel
theorem dJ8_hugeLength_7cf53_2 : decode cJ8_hugeLength_7cf53 2 = .ok (.iadd, 1) := by decide +kernel
theorem dJ8_hugeLength_7cf53_3 : decode cJ8_hugeLength_7cf53 3 = .ok (.istore_n 2, 1) := by decide +kernel
theorem dJ8_hugeLength_7cf53_4 : decode cJ8_hugeLength_7cf53 4 = .ok (.iload_n 2, 1) := by decide +kernel
theorem dJ8_hugeLength_7cf53_5 : decode cJ8_hugeLength_7cf53 5 = .ok (.ifCond .ge 44, 3) := by decide +kernel
theorem dJ8_hugeLength_7cf53_8 : decode cJ8_hugeLength_7cf53 8 = .ok (.new 204, 3) := by decide +kernel
theorem dJ8_hugeLength_7cf53_11 : decode cJ8_hugeLength_7cf53 11 = .ok (.dup, 1) := by decide +kernel
theorem dJ8_hugeLength_7cf53_12 : decode cJ8_hugeLength_7cf53 12 = .ok (.new 89, 3) := by decide +kernel
theorem dJ8_hugeLength_7cf53_15 : decode cJ8_hugeLength_7cf53 15 = .ok (.dup, 1) := by decide +kernel
theorem dJ8_hugeLength_7cf53_16 : decode cJ8_hugeLength_7cf53 16 = .ok (.invokespecial 91, 3) := by decide +kernel
theorem dJ8_hugeLength_7cf53_19 : decode cJ8_hugeLength_7cf53 19 = .ok (.ldc 206, 2) := by decide +kernel
theorem dJ8_hugeLength_7cf53_21 : decode cJ8_hugeLength_7cf53 21 = .ok (.invokevirtual 94, 3) := by decide +kernel
theorem dJ8_hugeLength_7cf53_24 : decode cJ8_hugeLength_7cf53 24 = .ok (.iload_n 0, 1) := by decide +kernel
theorem dJ8_hugeLength_7cf53_25 : decode cJ8_hugeLength_7cf53 25 = .ok (.invokevirtual 98, 3) := by decide +kernel
theorem dJ8_hugeLength_7cf53_28 : decode cJ8_hugeLength_7cf53 28 = .ok (.ldc 208, 2) := by decide +kernel
theorem dJ8_hugeLength_7cf53_30 : decode cJ8_hugeLength_7cf53 30 = .ok (.invokevirtual 94, 3) := by decide +kernel
theorem dJ8_hugeLength_7cf53_33 : decode cJ8_hugeLength_7cf53 33 = .ok (.iload_n 1, 1) := by decide +kernel
theorem dJ8_hugeLength_7cf53_34 : decode cJ8_hugeLength_7cf53 34 = .ok (.invokevirtual 98, 3) := by decide +kernel
theorem dJ8_hugeLength_7cf53_37 : decode cJ8_hugeLength_7cf53 37 = .ok (.ldc 210, 2) := by decide +kernel
theorem dJ8_hugeLength_7cf53_39 : decode cJ8_hugeLength_7cf53 39 = .ok (.invokevirtual 94, 3) := by decide +kernel
theorem dJ8_hugeLength_7cf53_42 : decode cJ8_hugeLength_7cf53 42 = .ok (.invokevirtual 101, 3) := by decide +kernel
theorem dJ8_hugeLength_7cf53_45 : decode cJ8_hugeLength_7cf53 45 = .ok (.invokespecial 212, 3) := by decide +kernel
theorem dJ8_hugeLength_7cf53_48 : decode cJ8_hugeLength_7cf53 48 = .ok (.athrow, 1) := by decide +kernel
theorem dJ8_hugeLength_7cf53_49 : decode cJ8_hugeLength_7cf53 49 = .ok (.iload_n 2, 1) := by decide +kernel
theorem dJ8_hugeLength_7cf53_50 : decode cJ8_hugeLength_7cf53 50 = .ok (.ldc 200, 2) := by decide +kernel
theorem dJ8_hugeLength_7cf53_52 : decode cJ8_hugeLength_7cf53 52 = .ok (.if_icmp .gt 6, 3) := by decide +kernel
theorem dJ8_hugeLength_7cf53_55 : decode cJ8_hugeLength_7cf53 55 = .ok (.ldc 200, 2) := by decide +kernel
theorem dJ8_hugeLength_7cf53_57 : decode cJ8_hugeLength_7cf53 57 = .ok (.ireturn, 1) := by decide +kernel
theorem dJ8_hugeLength_7cf53_58 : decode cJ8_hugeLength_7cf53 58 = .ok (.iload_n 2, 1) := by decide +kernel
theorem dJ8_hugeLength_7cf53_59 : decode cJ8_hugeLength_7cf53 59 = .ok (.ireturn, 1) := by decide +kernel
theorem dJ3_checkIndex_8e157_0 : decode cJ3_checkIndex_8e157 0 = .ok (.iload_n 0, 1) := by decide +kernel
theorem dJ3_checkIndex_8e157_1 : decode cJ3_checkIndex_8e157 1 = .ok (.ifCond .lt 8, 3) := by decide +kernel
theorem dJ3_checkIndex_8e157_4 : decode cJ3_checkIndex_8e157 4 = .ok (.iload_n 0, 1) := by decide +kernel
theorem dJ3_checkIndex_8e157_5 : decode cJ3_checkIndex_8e157 5 = .ok (.iload_n 1, 1) := by decide +kernel
theorem dJ3_checkIndex_8e157_6 : decode cJ3_checkIndex_8e157 6 = .ok (.if_icmp .lt 10, 3) := by decide +kernel
theorem dJ3_checkIndex_8e157_9 : decode cJ3_checkIndex_8e157 9 = .ok (.aload_n 2, 1) := by decide +kernel
theorem dJ3_checkIndex_8e157_10 : decode cJ3_checkIndex_8e157 10 = .ok (.iload_n 0, 1) := by decide +kernel
theorem dJ3_checkIndex_8e157_11 : decode cJ3_checkIndex_8e157 11 = .ok (.iload_n 1, 1) := by decide +kernel
theorem dJ3_checkIndex_8e157_12 : decode cJ3_checkIndex_8e157 12 = .ok (.invokestatic 95, 3) := by decide +kernel
theorem dJ3_checkIndex_8e157_15 : decode cJ3_checkIndex_8e157 15 = .ok (.athrow, 1) := by decide +kernel
theorem dJ3_checkIndex_8e157_16 : decode cJ3_checkIndex_8e157 16 = .ok (.iload_n 0, 1) := by decide +kernel
theorem dJ3_checkIndex_8e157_17 : decode cJ3_checkIndex_8e157 17 = .ok (.ireturn, 1) := by decide +kernel
theorem dL_store_0 : decode cL_store 0 = .ok (.aload 7, 2) := by decide +kernel
theorem dL_store_2 : decode cL_store 2 = .ok (.iconst 0, 1) := by decide +kernel
theorem dL_store_3 : decode cL_store 3 = .ok (.aload_n 0, 1) := by decide +kernel
theorem dL_store_4 : decode cL_store 4 = .ok (.iload_n 1, 1) := by decide +kernel
theorem dL_store_5 : decode cL_store 5 = .ok (.iload_n 2, 1) := by decide +kernel
theorem dL_store_6 : decode cL_store 6 = .ok (.iload_n 3, 1) := by decide +kernel
theorem dL_store_7 : decode cL_store 7 = .ok (.iload 4, 2) := by decide +kernel
theorem dL_store_9 : decode cL_store 9 = .ok (.iload 5, 2) := by decide +kernel
theorem dL_store_11 : decode cL_store 11 = .ok (.iload 6, 2) := by decide +kernel
theorem dL_store_13 : decode cL_store 13 = .ok (.invokevirtual 7, 3) := by decide +kernel
theorem dL_store_16 : decode cL_store 16 = .ok (.i2l, 1) := by decide +kernel
theorem dL_store_17 : decode cL_store 17 = .ok (.lastore, 1) := by decide +kernel
theorem dL_store_18 : decode cL_store 18 = .ok (.goto 11, 3) := by decide +kernel
theorem dL_store_21 : decode cL_store 21 = .ok (.astore 8, 2) := by decide +kernel
theorem dL_store_23 : decode cL_store 23 = .ok (.iconst 1, 1) := by decide +kernel
theorem dL_store_24 : decode cL_store 24 = .ok (.ireturn, 1) := by decide +kernel
theorem dL_store_25 : decode cL_store 25 = .ok (.astore 8, 2) := by decide +kernel
theorem dL_store_27 : decode cL_store 27 = .ok (.iconst 2, 1) := by decide +kernel
theorem dL_store_28 : decode cL_store 28 = .ok (.ireturn, 1) := by decide +kernel
theorem dL_store_29 : decode cL_store 29 = .ok (.iconst 0, 1) := by decide +kernel
theorem dL_store_30 : decode cL_store 30 = .ok (.ireturn, 1) := by decide +kernel
theorem dL_wells_0 : decode cL_wells 0 = .ok (.aload 4, 2) := by decide +kernel
theorem dL_wells_2 : decode cL_wells 2 = .ok (.iconst 0, 1) := by decide +kernel
theorem dL_wells_3 : decode cL_wells 3 = .ok (.aload_n 0, 1) := by decide +kernel
theorem dL_wells_4 : decode cL_wells 4 = .ok (.iload_n 1, 1) := by decide +kernel
theorem dL_wells_5 : decode cL_wells 5 = .ok (.iload_n 2, 1) := by decide +kernel
theorem dL_wells_6 : decode cL_wells 6 = .ok (.iload_n 3, 1) := by decide +kernel
theorem dL_wells_7 : decode cL_wells 7 = .ok (.invokevirtual 17, 3) := by decide +kernel
theorem dL_wells_10 : decode cL_wells 10 = .ok (.i2l, 1) := by decide +kernel
theorem dL_wells_11 : decode cL_wells 11 = .ok (.lastore, 1) := by decide +kernel
theorem dL_wells_12 : decode cL_wells 12 = .ok (.goto 11, 3) := by decide +kernel
theorem dL_wells_15 : decode cL_wells 15 = .ok (.astore 5, 2) := by decide +kernel
theorem dL_wells_17 : decode cL_wells 17 = .ok (.iconst 1, 1) := by decide +kernel
theorem dL_wells_18 : decode cL_wells 18 = .ok (.ireturn, 1) := by decide +kernel
theorem dL_wells_19 : decode cL_wells 19 = .ok (.astore 5, 2) := by decide +kernel
theorem dL_wells_21 : decode cL_wells 21 = .ok (.iconst 2, 1) := by decide +kernel
theorem dL_wells_22 : decode cL_wells 22 = .ok (.ireturn, 1) := by decide +kernel
theorem dL_wells_23 : decode cL_wells 23 = .ok (.iconst 0, 1) := by decide +kernel
theorem dL_wells_24 : decode cL_wells 24 = .ok (.ireturn, 1) := by decide +kernel
theorem dL_leak_0 : decode cL_leak 0 = .ok (.aload_n 3, 1) := by decide +kernel
theorem dL_leak_1 : decode cL_leak 1 = .ok (.iconst 0, 1) := by decide +kernel
theorem dL_leak_2 : decode cL_leak 2 = .ok (.aload_n 0, 1) := by decide +kernel
theorem dL_leak_3 : decode cL_leak 3 = .ok (.iload_n 1, 1) := by decide +kernel
theorem dL_leak_4 : decode cL_leak 4 = .ok (.iload_n 2, 1) := by decide +kernel
theorem dL_leak_5 : decode cL_leak 5 = .ok (.invokevirtual 23, 3) := by decide +kernel
theorem dL_leak_8 : decode cL_leak 8 = .ok (.i2l, 1) := by decide +kernel
theorem dL_leak_9 : decode cL_leak 9 = .ok (.lastore, 1) := by decide +kernel
theorem dL_leak_10 : decode cL_leak 10 = .ok (.goto 11, 3) := by decide +kernel
theorem dL_leak_13 : decode cL_leak 13 = .ok (.astore 4, 2) := by decide +kernel
theorem dL_leak_15 : decode cL_leak 15 = .ok (.iconst 1, 1) := by decide +kernel
theorem dL_leak_16 : decode cL_leak 16 = .ok (.ireturn, 1) := by decide +kernel
theorem dL_leak_17 : decode cL_leak 17 = .ok (.astore 4, 2) := by decide +kernel
theorem dL_leak_19 : decode cL_leak 19 = .ok (.iconst 2, 1) := by decide +kernel
theorem dL_leak_20 : decode cL_leak 20 = .ok (.ireturn, 1) := by decide +kernel
theorem dL_leak_21 : decode cL_leak 21 = .ok (.iconst 0, 1) := by decide +kernel
theorem dL_leak_22 : decode cL_leak 22 = .ok (.ireturn, 1) := by decide +kernel
theorem dL_leach_0 : decode cL_leach 0 = .ok (.aload_n 3, 1) := by decide +kernel
theorem dL_leach_1 : decode cL_leach 1 = .ok (.iconst 0, 1) := by decide +kernel
theorem dL_leach_2 : decode cL_leach 2 = .ok (.aload_n 0, 1) := by decide +kernel
theorem dL_leach_3 : decode cL_leach 3 = .ok (.iload_n 1, 1) := by decide +kernel
theorem dL_leach_4 : decode cL_leach 4 = .ok (.iload_n 2, 1) := by decide +kernel
theorem dL_leach_5 : decode cL_leach 5 = .ok (.invokevirtual 27, 3) := by decide +kernel
theorem dL_leach_8 : decode cL_leach 8 = .ok (.i2l, 1) := by decide +kernel
theorem dL_leach_9 : decode cL_leach 9 = .ok (.lastore, 1) := by decide +kernel
theorem dL_leach_10 : decode cL_leach 10 = .ok (.goto 15, 3) := by decide +kernel
theorem dL_leach_13 : decode cL_leach 13 = .ok (.astore 4, 2) := by decide +kernel
theorem dL_leach_15 : decode cL_leach 15 = .ok (.iconst 1, 1) := by decide +kernel
theorem dL_leach_16 : decode cL_leach 16 = .ok (.ireturn, 1) := by decide +kernel
theorem dL_leach_17 : decode cL_leach 17 = .ok (.astore 4, 2) := by decide +kernel
theorem dL_leach_19 : decode cL_leach 19 = .ok (.iconst 2, 1) := by decide +kernel
theorem dL_leach_20 : decode cL_leach 20 = .ok (.ireturn, 1) := by decide +kernel
theorem dL_leach_21 : decode cL_leach 21 = .ok (.astore 4, 2) := by decide +kernel
theorem dL_leach_23 : decode cL_leach 23 = .ok (.iconst 3, 1) := by decide +kernel
theorem dL_leach_24 : decode cL_leach 24 = .ok (.ireturn, 1) := by decide +kernel
theorem dL_leach_25 : decode cL_leach 25 = .ok (.iconst 0, 1) := by decide +kernel
theorem dL_leach_26 : decode cL_leach 26 = .ok (.ireturn, 1) := by decide +kernel
theorem dL_heat_0 : decode cL_heat 0 = .ok (.aload_n 2, 1) := by decide +kernel
theorem dL_heat_1 : decode cL_heat 1 = .ok (.iconst 0, 1) := by decide +kernel
theorem dL_heat_2 : decode cL_heat 2 = .ok (.aload_n 0, 1) := by decide +kernel
theorem dL_heat_3 : decode cL_heat 3 = .ok (.iload_n 1, 1) := by decide +kernel
theorem dL_heat_4 : decode cL_heat 4 = .ok (.invokevirtual 30, 3) := by decide +kernel
theorem dL_heat_7 : decode cL_heat 7 = .ok (.i2l, 1) := by decide +kernel
theorem dL_heat_8 : decode cL_heat 8 = .ok (.lastore, 1) := by decide +kernel
theorem dL_heat_9 : decode cL_heat 9 = .ok (.goto 6, 3) := by decide +kernel
theorem dL_heat_12 : decode cL_heat 12 = .ok (.astore_n 3, 1) := by decide +kernel
theorem dL_heat_13 : decode cL_heat 13 = .ok (.iconst 1, 1) := by decide +kernel
theorem dL_heat_14 : decode cL_heat 14 = .ok (.ireturn, 1) := by decide +kernel
theorem dL_heat_15 : decode cL_heat 15 = .ok (.iconst 0, 1) := by decide +kernel
theorem dL_heat_16 : decode cL_heat 16 = .ok (.ireturn, 1) := by decide +kernel
theorem dL_customer_0 : decode cL_customer 0 = .ok (.aload 5, 2) := by decide +kernel
theorem dL_customer_2 : decode cL_customer 2 = .ok (.iconst 0, 1) := by decide +kernel
theorem dL_customer_3 : decode cL_customer 3 = .ok (.aload_n 0, 1) := by decide +kernel
theorem dL_customer_4 : decode cL_customer 4 = .ok (.iload_n 1, 1) := by decide +kernel
theorem dL_customer_5 : decode cL_customer 5 = .ok (.iload_n 2, 1) := by decide +kernel
theorem dL_customer_6 : decode cL_customer 6 = .ok (.iload_n 3, 1) := by decide +kernel
theorem dL_customer_7 : decode cL_customer 7 = .ok (.iload 4, 2) := by decide +kernel
theorem dL_customer_9 : decode cL_customer 9 = .ok (.invokevirtual 34, 3) := by decide +kernel
theorem dL_customer_12 : decode cL_customer 12 = .ok (.i2l, 1) := by decide +kernel
theorem dL_customer_13 : decode cL_customer 13 = .ok (.lastore, 1) := by decide +kernel
theorem dL_customer_14 : decode cL_customer 14 = .ok (.goto 11, 3) := by decide +kernel
theorem dL_customer_17 : decode cL_customer 17 = .ok (.astore 6, 2) := by decide +kernel
theorem dL_customer_19 : decode cL_customer 19 = .ok (.iconst 1, 1) := by decide +kernel
theorem dL_customer_20 : decode cL_customer 20 = .ok (.ireturn, 1) := by decide +kernel
theorem dL_customer_21 : decode cL_customer 21 = .ok (.astore 6, 2) := by decide +kernel
theorem dL_customer_23 : decode cL_customer 23 = .ok (.iconst 2, 1) := by decide +kernel
theorem dL_customer_24 : decode cL_customer 24 = .ok (.ireturn, 1) := by decide +kernel
theorem dL_customer_25 : decode cL_customer 25 = .ok (.iconst 0, 1) := by decide +kernel
theorem dL_customer_26 : decode cL_customer 26 = .ok (.ireturn, 1) := by decide +kernel
theorem dL_nominate_0 : decode cL_nominate 0 = .ok (.aload 4, 2) := by decide +kernel
theorem dL_nominate_2 : decode cL_nominate 2 = .ok (.iconst 0, 1) := by decide +kernel
theorem dL_nominate_3 : decode cL_nominate 3 = .ok (.aload_n 0, 1) := by decide +kernel
theorem dL_nominate_4 : decode cL_nominate 4 = .ok (.iload_n 1, 1) := by decide +kernel
theorem dL_nominate_5 : decode cL_nominate 5 = .ok (.iload_n 2, 1) := by decide +kernel
theorem dL_nominate_6 : decode cL_nominate 6 = .ok (.iload_n 3, 1) := by decide +kernel
theorem dL_nominate_7 : decode cL_nominate 7 = .ok (.invokevirtual 38, 3) := by decide +kernel
theorem dL_nominate_10 : decode cL_nominate 10 = .ok (.i2l, 1) := by decide +kernel
theorem dL_nominate_11 : decode cL_nominate 11 = .ok (.lastore, 1) := by decide +kernel
theorem dL_nominate_12 : decode cL_nominate 12 = .ok (.goto 11, 3) := by decide +kernel
theorem dL_nominate_15 : decode cL_nominate 15 = .ok (.astore 5, 2) := by decide +kernel
theorem dL_nominate_17 : decode cL_nominate 17 = .ok (.iconst 1, 1) := by decide +kernel
theorem dL_nominate_18 : decode cL_nominate 18 = .ok (.ireturn, 1) := by decide +kernel
theorem dL_nominate_19 : decode cL_nominate 19 = .ok (.astore 5, 2) := by decide +kernel
theorem dL_nominate_21 : decode cL_nominate 21 = .ok (.iconst 2, 1) := by decide +kernel
theorem dL_nominate_22 : decode cL_nominate 22 = .ok (.ireturn, 1) := by decide +kernel
theorem dL_nominate_23 : decode cL_nominate 23 = .ok (.iconst 0, 1) := by decide +kernel
theorem dL_nominate_24 : decode cL_nominate 24 = .ok (.ireturn, 1) := by decide +kernel
theorem dL_transfer_0 : decode cL_transfer 0 = .ok (.aload 4, 2) := by decide +kernel
theorem dL_transfer_2 : decode cL_transfer 2 = .ok (.iconst 0, 1) := by decide +kernel
theorem dL_transfer_3 : decode cL_transfer 3 = .ok (.aload_n 0, 1) := by decide +kernel
theorem dL_transfer_4 : decode cL_transfer 4 = .ok (.iload_n 1, 1) := by decide +kernel
theorem dL_transfer_5 : decode cL_transfer 5 = .ok (.iload_n 2, 1) := by decide +kernel
theorem dL_transfer_6 : decode cL_transfer 6 = .ok (.iload_n 3, 1) := by decide +kernel
theorem dL_transfer_7 : decode cL_transfer 7 = .ok (.invokevirtual 41, 3) := by decide +kernel
theorem dL_transfer_10 : decode cL_transfer 10 = .ok (.i2l, 1) := by decide +kernel
theorem dL_transfer_11 : decode cL_transfer 11 = .ok (.lastore, 1) := by decide +kernel
theorem dL_transfer_12 : decode cL_transfer 12 = .ok (.goto 15, 3) := by decide +kernel
theorem dL_transfer_15 : decode cL_transfer 15 = .ok (.astore 5, 2) := by decide +kernel
theorem dL_transfer_17 : decode cL_transfer 17 = .ok (.iconst 1, 1) := by decide +kernel
theorem dL_transfer_18 : decode cL_transfer 18 = .ok (.ireturn, 1) := by decide +kernel
theorem dL_transfer_19 : decode cL_transfer 19 = .ok (.astore 5, 2) := by decide +kernel
theorem dL_transfer_21 : decode cL_transfer 21 = .ok (.iconst 2, 1) := by decide +kernel
theorem dL_transfer_22 : decode cL_transfer 22 = .ok (.ireturn, 1) := by decide +kernel
theorem dL_transfer_23 : decode cL_transfer 23 = .ok (.astore 5, 2) := by decide +kernel
theorem dL_transfer_25 : decode cL_transfer 25 = .ok (.iconst 3, 1) := by decide +kernel
theorem dL_transfer_26 : decode cL_transfer 26 = .ok (.ireturn, 1) := by decide +kernel
theorem dL_transfer_27 : decode cL_transfer 27 = .ok (.iconst 0, 1) := by decide +kernel
theorem dL_transfer_28 : decode cL_transfer 28 = .ok (.ireturn, 1) := by decide +kernel
theorem dL_law_0 : decode cL_law 0 = .ok (.aload 4, 2) := by decide +kernel
theorem dL_law_2 : decode cL_law 2 = .ok (.iconst 0, 1) := by decide +kernel
theorem dL_law_3 : decode cL_law 3 = .ok (.aload_n 0, 1) := by decide +kernel
theorem dL_law_4 : decode cL_law 4 = .ok (.iload_n 1, 1) := by decide +kernel
theorem dL_law_5 : decode cL_law 5 = .ok (.iload_n 2, 1) := by decide +kernel
theorem dL_law_6 : decode cL_law 6 = .ok (.iload_n 3, 1) := by decide +kernel
theorem dL_law_7 : decode cL_law 7 = .ok (.invokevirtual 44, 3) := by decide +kernel
theorem dL_law_10 : decode cL_law 10 = .ok (.i2l, 1) := by decide +kernel
theorem dL_law_11 : decode cL_law 11 = .ok (.lastore, 1) := by decide +kernel
theorem dL_law_12 : decode cL_law 12 = .ok (.goto 11, 3) := by decide +kernel
theorem dL_law_15 : decode cL_law 15 = .ok (.astore 5, 2) := by decide +kernel
theorem dL_law_17 : decode cL_law 17 = .ok (.iconst 1, 1) := by decide +kernel
theorem dL_law_18 : decode cL_law 18 = .ok (.ireturn, 1) := by decide +kernel
theorem dL_law_19 : decode cL_law 19 = .ok (.astore 5, 2) := by decide +kernel
theorem dL_law_21 : decode cL_law 21 = .ok (.iconst 2, 1) := by decide +kernel
theorem dL_law_22 : decode cL_law 22 = .ok (.ireturn, 1) := by decide +kernel
theorem dL_law_23 : decode cL_law 23 = .ok (.iconst 0, 1) := by decide +kernel
theorem dL_law_24 : decode cL_law 24 = .ok (.ireturn, 1) := by decide +kernel
theorem dL_price_0 : decode cL_price 0 = .ok (.aload_n 3, 1) := by decide +kernel
theorem dL_price_1 : decode cL_price 1 = .ok (.iconst 0, 1) := by decide +kernel
theorem dL_price_2 : decode cL_price 2 = .ok (.aload_n 0, 1) := by decide +kernel
theorem dL_price_3 : decode cL_price 3 = .ok (.iload_n 1, 1) := by decide +kernel
theorem dL_price_4 : decode cL_price 4 = .ok (.iload_n 2, 1) := by decide +kernel
theorem dL_price_5 : decode cL_price 5 = .ok (.invokevirtual 47, 3) := by decide +kernel
theorem dL_price_8 : decode cL_price 8 = .ok (.i2l, 1) := by decide +kernel
theorem dL_price_9 : decode cL_price 9 = .ok (.lastore, 1) := by decide +kernel
theorem dL_price_10 : decode cL_price 10 = .ok (.goto 7, 3) := by decide +kernel
theorem dL_price_13 : decode cL_price 13 = .ok (.astore 4, 2) := by decide +kernel
theorem dL_price_15 : decode cL_price 15 = .ok (.iconst 1, 1) := by decide +kernel
theorem dL_price_16 : decode cL_price 16 = .ok (.ireturn, 1) := by decide +kernel
theorem dL_price_17 : decode cL_price 17 = .ok (.iconst 0, 1) := by decide +kernel
theorem dL_price_18 : decode cL_price 18 = .ok (.ireturn, 1) := by decide +kernel
theorem dL_pass_0 : decode cL_pass 0 = .ok (.aload_n 2, 1) := by decide +kernel
theorem dL_pass_1 : decode cL_pass 1 = .ok (.iconst 0, 1) := by decide +kernel
theorem dL_pass_2 : decode cL_pass 2 = .ok (.aload_n 0, 1) := by decide +kernel
theorem dL_pass_3 : decode cL_pass 3 = .ok (.iload_n 1, 1) := by decide +kernel
theorem dL_pass_4 : decode cL_pass 4 = .ok (.invokevirtual 50, 3) := by decide +kernel
theorem dL_pass_7 : decode cL_pass 7 = .ok (.i2l, 1) := by decide +kernel
theorem dL_pass_8 : decode cL_pass 8 = .ok (.lastore, 1) := by decide +kernel
theorem dL_pass_9 : decode cL_pass 9 = .ok (.goto 9, 3) := by decide +kernel
theorem dL_pass_12 : decode cL_pass 12 = .ok (.astore_n 3, 1) := by decide +kernel
theorem dL_pass_13 : decode cL_pass 13 = .ok (.iconst 1, 1) := by decide +kernel
theorem dL_pass_14 : decode cL_pass 14 = .ok (.ireturn, 1) := by decide +kernel
theorem dL_pass_15 : decode cL_pass 15 = .ok (.astore_n 3, 1) := by decide +kernel
theorem dL_pass_16 : decode cL_pass 16 = .ok (.iconst 2, 1) := by decide +kernel
theorem dL_pass_17 : decode cL_pass 17 = .ok (.ireturn, 1) := by decide +kernel
theorem dL_pass_18 : decode cL_pass 18 = .ok (.iconst 0, 1) := by decide +kernel
theorem dL_pass_19 : decode cL_pass 19 = .ok (.ireturn, 1) := by decide +kernel
theorem dL_pressure_0 : decode cL_pressure 0 = .ok (.aload_n 2, 1) := by decide +kernel
theorem dL_pressure_1 : decode cL_pressure 1 = .ok (.iconst 0, 1) := by decide +kernel
theorem dL_pressure_2 : decode cL_pressure 2 = .ok (.aload_n 0, 1) := by decide +kernel
theorem dL_pressure_3 : decode cL_pressure 3 = .ok (.iload_n 1, 1) := by decide +kernel
theorem dL_pressure_4 : decode cL_pressure 4 = .ok (.invokevirtual 53, 3) := by decide +kernel
theorem dL_pressure_7 : decode cL_pressure 7 = .ok (.i2l, 1) := by decide +kernel
theorem dL_pressure_8 : decode cL_pressure 8 = .ok (.lastore, 1) := by decide +kernel
theorem dL_pressure_9 : decode cL_pressure 9 = .ok (.goto 6, 3) := by decide +kernel
theorem dL_pressure_12 : decode cL_pressure 12 = .ok (.astore_n 3, 1) := by decide +kernel
theorem dL_pressure_13 : decode cL_pressure 13 = .ok (.iconst 1, 1) := by decide +kernel
theorem dL_pressure_14 : decode cL_pressure 14 = .ok (.ireturn, 1) := by decide +kernel
theorem dL_pressure_15 : decode cL_pressure 15 = .ok (.iconst 0, 1) := by decide +kernel
theorem dL_pressure_16 : decode cL_pressure 16 = .ok (.ireturn, 1) := by decide +kernel
theorem dL_rate_0 : decode cL_rate 0 = .ok (.aload_n 3, 1) := by decide +kernel
theorem dL_rate_1 : decode cL_rate 1 = .ok (.iconst 0, 1) := by decide +kernel
theorem dL_rate_2 : decode cL_rate 2 = .ok (.aload_n 0, 1) := by decide +kernel
theorem dL_rate_3 : decode cL_rate 3 = .ok (.iload_n 1, 1) := by decide +kernel
theorem dL_rate_4 : decode cL_rate 4 = .ok (.iload_n 2, 1) := by decide +kernel
theorem dL_rate_5 : decode cL_rate 5 = .ok (.invokevirtual 56, 3) := by decide +kernel
theorem dL_rate_8 : decode cL_rate 8 = .ok (.i2l, 1) := by decide +kernel
theorem dL_rate_9 : decode cL_rate 9 = .ok (.lastore, 1) := by decide +kernel
theorem dL_rate_10 : decode cL_rate 10 = .ok (.goto 7, 3) := by decide +kernel
theorem dL_rate_13 : decode cL_rate 13 = .ok (.astore 4, 2) := by decide +kernel
theorem dL_rate_15 : decode cL_rate 15 = .ok (.iconst 1, 1) := by decide +kernel
theorem dL_rate_16 : decode cL_rate 16 = .ok (.ireturn, 1) := by decide +kernel
theorem dL_rate_17 : decode cL_rate 17 = .ok (.iconst 0, 1) := by decide +kernel
theorem dL_rate_18 : decode cL_rate 18 = .ok (.ireturn, 1) := by decide +kernel
theorem dL_mix_0 : decode cL_mix 0 = .ok (.aload_n 2, 1) := by decide +kernel
theorem dL_mix_1 : decode cL_mix 1 = .ok (.iconst 0, 1) := by decide +kernel
theorem dL_mix_2 : decode cL_mix 2 = .ok (.aload_n 0, 1) := by decide +kernel
theorem dL_mix_3 : decode cL_mix 3 = .ok (.iload_n 1, 1) := by decide +kernel
theorem dL_mix_4 : decode cL_mix 4 = .ok (.invokevirtual 60, 3) := by decide +kernel
theorem dL_mix_7 : decode cL_mix 7 = .ok (.i2l, 1) := by decide +kernel
theorem dL_mix_8 : decode cL_mix 8 = .ok (.lastore, 1) := by decide +kernel
theorem dL_mix_9 : decode cL_mix 9 = .ok (.goto 6, 3) := by decide +kernel
theorem dL_mix_12 : decode cL_mix 12 = .ok (.astore_n 3, 1) := by decide +kernel
theorem dL_mix_13 : decode cL_mix 13 = .ok (.iconst 1, 1) := by decide +kernel
theorem dL_mix_14 : decode cL_mix 14 = .ok (.ireturn, 1) := by decide +kernel
theorem dL_mix_15 : decode cL_mix 15 = .ok (.iconst 0, 1) := by decide +kernel
theorem dL_mix_16 : decode cL_mix 16 = .ok (.ireturn, 1) := by decide +kernel
theorem dL_ofStore_0 : decode cL_ofStore 0 = .ok (.aload_n 3, 1) := by decide +kernel
theorem dL_ofStore_1 : decode cL_ofStore 1 = .ok (.iconst 0, 1) := by decide +kernel
theorem dL_ofStore_2 : decode cL_ofStore 2 = .ok (.aload_n 0, 1) := by decide +kernel
theorem dL_ofStore_3 : decode cL_ofStore 3 = .ok (.iload_n 1, 1) := by decide +kernel
theorem dL_ofStore_4 : decode cL_ofStore 4 = .ok (.iload_n 2, 1) := by decide +kernel
theorem dL_ofStore_5 : decode cL_ofStore 5 = .ok (.invokevirtual 63, 3) := by decide +kernel
theorem dL_ofStore_8 : decode cL_ofStore 8 = .ok (.lastore, 1) := by decide +kernel
theorem dL_ofStore_9 : decode cL_ofStore 9 = .ok (.goto 11, 3) := by decide +kernel
theorem dL_ofStore_12 : decode cL_ofStore 12 = .ok (.astore 4, 2) := by decide +kernel
theorem dL_ofStore_14 : decode cL_ofStore 14 = .ok (.iconst 1, 1) := by decide +kernel
theorem dL_ofStore_15 : decode cL_ofStore 15 = .ok (.ireturn, 1) := by decide +kernel
theorem dL_ofStore_16 : decode cL_ofStore 16 = .ok (.astore 4, 2) := by decide +kernel
theorem dL_ofStore_18 : decode cL_ofStore 18 = .ok (.iconst 2, 1) := by decide +kernel
theorem dL_ofStore_19 : decode cL_ofStore 19 = .ok (.ireturn, 1) := by decide +kernel
theorem dL_ofStore_20 : decode cL_ofStore 20 = .ok (.iconst 0, 1) := by decide +kernel
theorem dL_ofStore_21 : decode cL_ofStore 21 = .ok (.ireturn, 1) := by decide +kernel
theorem dL_ofCustomer_0 : decode cL_ofCustomer 0 = .ok (.aload_n 3, 1) := by decide +kernel
theorem dL_ofCustomer_1 : decode cL_ofCustomer 1 = .ok (.iconst 0, 1) := by decide +kernel
theorem dL_ofCustomer_2 : decode cL_ofCustomer 2 = .ok (.aload_n 0, 1) := by decide +kernel
theorem dL_ofCustomer_3 : decode cL_ofCustomer 3 = .ok (.iload_n 1, 1) := by decide +kernel
theorem dL_ofCustomer_4 : decode cL_ofCustomer 4 = .ok (.iload_n 2, 1) := by decide +kernel
theorem dL_ofCustomer_5 : decode cL_ofCustomer 5 = .ok (.invokevirtual 67, 3) := by decide +kernel
theorem dL_ofCustomer_8 : decode cL_ofCustomer 8 = .ok (.lastore, 1) := by decide +kernel
theorem dL_ofCustomer_9 : decode cL_ofCustomer 9 = .ok (.goto 11, 3) := by decide +kernel
theorem dL_ofCustomer_12 : decode cL_ofCustomer 12 = .ok (.astore 4, 2) := by decide +kernel
theorem dL_ofCustomer_14 : decode cL_ofCustomer 14 = .ok (.iconst 1, 1) := by decide +kernel
theorem dL_ofCustomer_15 : decode cL_ofCustomer 15 = .ok (.ireturn, 1) := by decide +kernel
theorem dL_ofCustomer_16 : decode cL_ofCustomer 16 = .ok (.astore 4, 2) := by decide +kernel
theorem dL_ofCustomer_18 : decode cL_ofCustomer 18 = .ok (.iconst 2, 1) := by decide +kernel
theorem dL_ofCustomer_19 : decode cL_ofCustomer 19 = .ok (.ireturn, 1) := by decide +kernel
theorem dL_ofCustomer_20 : decode cL_ofCustomer 20 = .ok (.iconst 0, 1) := by decide +kernel
theorem dL_ofCustomer_21 : decode cL_ofCustomer 21 = .ok (.ireturn, 1) := by decide +kernel
theorem dL_flow_0 : decode cL_flow 0 = .ok (.aload_n 2, 1) := by decide +kernel
theorem dL_flow_1 : decode cL_flow 1 = .ok (.iconst 0, 1) := by decide +kernel
theorem dL_flow_2 : decode cL_flow 2 = .ok (.aload_n 0, 1) := by decide +kernel
theorem dL_flow_3 : decode cL_flow 3 = .ok (.iload_n 1, 1) := by decide +kernel
theorem dL_flow_4 : decode cL_flow 4 = .ok (.invokevirtual 70, 3) := by decide +kernel
theorem dL_flow_7 : decode cL_flow 7 = .ok (.i2l, 1) := by decide +kernel
theorem dL_flow_8 : decode cL_flow 8 = .ok (.lastore, 1) := by decide +kernel
theorem dL_flow_9 : decode cL_flow 9 = .ok (.goto 6, 3) := by decide +kernel
theorem dL_flow_12 : decode cL_flow 12 = .ok (.astore_n 3, 1) := by decide +kernel
theorem dL_flow_13 : decode cL_flow 13 = .ok (.iconst 1, 1) := by decide +kernel
theorem dL_flow_14 : decode cL_flow 14 = .ok (.ireturn, 1) := by decide +kernel
theorem dL_flow_15 : decode cL_flow 15 = .ok (.iconst 0, 1) := by decide +kernel
theorem dL_flow_16 : decode cL_flow 16 = .ok (.ireturn, 1) := by decide +kernel
theorem dL_why_0 : decode cL_why 0 = .ok (.aload_n 2, 1) := by decide +kernel
theorem dL_why_1 : decode cL_why 1 = .ok (.iconst 0, 1) := by decide +kernel
theorem dL_why_2 : decode cL_why 2 = .ok (.aload_n 0, 1) := by decide +kernel
theorem dL_why_3 : decode cL_why 3 = .ok (.iload_n 1, 1) := by decide +kernel
theorem dL_why_4 : decode cL_why 4 = .ok (.invokevirtual 73, 3) := by decide +kernel
theorem dL_why_7 : decode cL_why 7 = .ok (.i2l, 1) := by decide +kernel
theorem dL_why_8 : decode cL_why 8 = .ok (.lastore, 1) := by decide +kernel
theorem dL_why_9 : decode cL_why 9 = .ok (.goto 6, 3) := by decide +kernel
theorem dL_why_12 : decode cL_why 12 = .ok (.astore_n 3, 1) := by decide +kernel
theorem dL_why_13 : decode cL_why 13 = .ok (.iconst 1, 1) := by decide +kernel
theorem dL_why_14 : decode cL_why 14 = .ok (.ireturn, 1) := by decide +kernel
theorem dL_why_15 : decode cL_why 15 = .ok (.iconst 0, 1) := by decide +kernel
theorem dL_why_16 : decode cL_why 16 = .ok (.ireturn, 1) := by decide +kernel
theorem dL_worth_0 : decode cL_worth 0 = .ok (.aload_n 3, 1) := by decide +kernel
theorem dL_worth_1 : decode cL_worth 1 = .ok (.iconst 0, 1) := by decide +kernel
theorem dL_worth_2 : decode cL_worth 2 = .ok (.aload_n 0, 1) := by decide +kernel
theorem dL_worth_3 : decode cL_worth 3 = .ok (.iload_n 1, 1) := by decide +kernel
theorem dL_worth_4 : decode cL_worth 4 = .ok (.iload_n 2, 1) := by decide +kernel
theorem dL_worth_5 : decode cL_worth 5 = .ok (.invokevirtual 76, 3) := by decide +kernel
theorem dL_worth_8 : decode cL_worth 8 = .ok (.lastore, 1) := by decide +kernel
theorem dL_worth_9 : decode cL_worth 9 = .ok (.goto 11, 3) := by decide +kernel
theorem dL_worth_12 : decode cL_worth 12 = .ok (.astore 4, 2) := by decide +kernel
theorem dL_worth_14 : decode cL_worth 14 = .ok (.iconst 1, 1) := by decide +kernel
theorem dL_worth_15 : decode cL_worth 15 = .ok (.ireturn, 1) := by decide +kernel
theorem dL_worth_16 : decode cL_worth 16 = .ok (.astore 4, 2) := by decide +kernel
theorem dL_worth_18 : decode cL_worth 18 = .ok (.iconst 2, 1) := by decide +kernel
theorem dL_worth_19 : decode cL_worth 19 = .ok (.ireturn, 1) := by decide +kernel
theorem dL_worth_20 : decode cL_worth 20 = .ok (.iconst 0, 1) := by decide +kernel
theorem dL_worth_21 : decode cL_worth 21 = .ok (.ireturn, 1) := by decide +kernel
theorem dL_worthAnew_0 : decode cL_worthAnew 0 = .ok (.aload_n 3, 1) := by decide +kernel
theorem dL_worthAnew_1 : decode cL_worthAnew 1 = .ok (.iconst 0, 1) := by decide +kernel
theorem dL_worthAnew_2 : decode cL_worthAnew 2 = .ok (.aload_n 0, 1) := by decide +kernel
theorem dL_worthAnew_3 : decode cL_worthAnew 3 = .ok (.iload_n 1, 1) := by decide +kernel
theorem dL_worthAnew_4 : decode cL_worthAnew 4 = .ok (.iload_n 2, 1) := by decide +kernel
theorem dL_worthAnew_5 : decode cL_worthAnew 5 = .ok (.invokevirtual 79, 3) := by decide +kernel
theorem dL_worthAnew_8 : decode cL_worthAnew 8 = .ok (.lastore, 1) := by decide +kernel
theorem dL_worthAnew_9 : decode cL_worthAnew 9 = .ok (.goto 11, 3) := by decide +kernel
theorem dL_worthAnew_12 : decode cL_worthAnew 12 = .ok (.astore 4, 2) := by decide +kernel
theorem dL_worthAnew_14 : decode cL_worthAnew 14 = .ok (.iconst 1, 1) := by decide +kernel
theorem dL_worthAnew_15 : decode cL_worthAnew 15 = .ok (.ireturn, 1) := by decide +kernel
theorem dL_worthAnew_16 : decode cL_worthAnew 16 = .ok (.astore 4, 2) := by decide +kernel
theorem dL_worthAnew_18 : decode cL_worthAnew 18 = .ok (.iconst 2, 1) := by decide +kernel
theorem dL_worthAnew_19 : decode cL_worthAnew 19 = .ok (.ireturn, 1) := by decide +kernel
theorem dL_worthAnew_20 : decode cL_worthAnew 20 = .ok (.iconst 0, 1) := by decide +kernel
theorem dL_worthAnew_21 : decode cL_worthAnew 21 = .ok (.ireturn, 1) := by decide +kernel
theorem dL_of_0 : decode cL_of 0 = .ok (.aload_n 2, 1) := by decide +kernel
theorem dL_of_1 : decode cL_of 1 = .ok (.iconst 0, 1) := by decide +kernel
theorem dL_of_2 : decode cL_of 2 = .ok (.aload_n 0, 1) := by decide +kernel
theorem dL_of_3 : decode cL_of 3 = .ok (.iload_n 1, 1) := by decide +kernel
theorem dL_of_4 : decode cL_of 4 = .ok (.invokevirtual 82, 3) := by decide +kernel
theorem dL_of_7 : decode cL_of 7 = .ok (.lastore, 1) := by decide +kernel
theorem dL_of_8 : decode cL_of 8 = .ok (.goto 6, 3) := by decide +kernel
theorem dL_of_11 : decode cL_of 11 = .ok (.astore_n 3, 1) := by decide +kernel
theorem dL_of_12 : decode cL_of 12 = .ok (.iconst 1, 1) := by decide +kernel
theorem dL_of_13 : decode cL_of 13 = .ok (.ireturn, 1) := by decide +kernel
theorem dL_of_14 : decode cL_of 14 = .ok (.iconst 0, 1) := by decide +kernel
theorem dL_of_15 : decode cL_of 15 = .ok (.ireturn, 1) := by decide +kernel
theorem dL_law__0 : decode cL_law_ 0 = .ok (.new 8, 3) := by decide +kernel
theorem dL_law__3 : decode cL_law_ 3 = .ok (.dup, 1) := by decide +kernel
theorem dL_law__4 : decode cL_law_ 4 = .ok (.invokespecial 86, 3) := by decide +kernel
theorem dL_law__7 : decode cL_law_ 7 = .ok (.astore_n 1, 1) := by decide +kernel
theorem dL_law__8 : decode cL_law_ 8 = .ok (.new 87, 3) := by decide +kernel
theorem dL_law__11 : decode cL_law_ 11 = .ok (.dup, 1) := by decide +kernel
theorem dL_law__12 : decode cL_law_ 12 = .ok (.invokespecial 89, 3) := by decide +kernel
theorem dL_law__15 : decode cL_law_ 15 = .ok (.astore_n 2, 1) := by decide +kernel
theorem dL_law__16 : decode cL_law_ 16 = .ok (.iconst 1, 1) := by decide +kernel
theorem dL_law__17 : decode cL_law_ 17 = .ok (.newarray .long, 2) := by decide +kernel
theorem dL_law__19 : decode cL_law_ 19 = .ok (.astore_n 3, 1) := by decide +kernel
theorem dL_law__20 : decode cL_law_ 20 = .ok (.iconst 0, 1) := by decide +kernel
theorem dL_law__21 : decode cL_law_ 21 = .ok (.istore 4, 2) := by decide +kernel
theorem dL_law__23 : decode cL_law_ 23 = .ok (.iload 4, 2) := by decide +kernel
theorem dL_law__25 : decode cL_law_ 25 = .ok (.aload_n 0, 1) := by decide +kernel
theorem dL_law__26 : decode cL_law_ 26 = .ok (.arraylength, 1) := by decide +kernel
theorem dL_law__27 : decode cL_law_ 27 = .ok (.bipush 7, 2) := by decide +kernel
theorem dL_law__29 : decode cL_law_ 29 = .ok (.isub, 1) := by decide +kernel
theorem dL_law__30 : decode cL_law_ 30 = .ok (.if_icmp .gt 1593, 3) := by decide +kernel
theorem dL_law__33 : decode cL_law_ 33 = .ok (.aload_n 0, 1) := by decide +kernel
theorem dL_law__34 : decode cL_law_ 34 = .ok (.iload 4, 2) := by decide +kernel
theorem dL_law__36 : decode cL_law_ 36 = .ok (.iaload, 1) := by decide +kernel
theorem dL_law__37 : decode cL_law_ 37 = .ok (.bipush 31, 2) := by decide +kernel
theorem dL_law__39 : decode cL_law_ 39 = .ok (.iand, 1) := by decide +kernel
theorem dL_law__40 : decode cL_law_ 40 = .ok (.tableswitch 1577 0 20 #[100, 218, 298, 366, 434, 490, 582, 662, 742, 822, 890, 946, 1002, 1086, 1142, 1209, 1276, 1332, 1388, 1455, 1522], 100) := by decide +kernel
theorem dL_law__140 : decode cL_law_ 140 = .ok (.aload_n 1, 1) := by decide +kernel
theorem dL_law__141 : decode cL_law_ 141 = .ok (.aload_n 0, 1) := by decide +kernel
theorem dL_law__142 : decode cL_law_ 142 = .ok (.iload 4, 2) := by decide +kernel
theorem dL_law__144 : decode cL_law_ 144 = .ok (.iconst 1, 1) := by decide +kernel
theorem dL_law__145 : decode cL_law_ 145 = .ok (.iadd, 1) := by decide +kernel
theorem dL_law__146 : decode cL_law_ 146 = .ok (.iaload, 1) := by decide +kernel
theorem dL_law__147 : decode cL_law_ 147 = .ok (.aload_n 0, 1) := by decide +kernel
theorem dL_law__148 : decode cL_law_ 148 = .ok (.iload 4, 2) := by decide +kernel
theorem dL_law__150 : decode cL_law_ 150 = .ok (.iconst 2, 1) := by decide +kernel
theorem dL_law__151 : decode cL_law_ 151 = .ok (.iadd, 1) := by decide +kernel
theorem dL_law__152 : decode cL_law_ 152 = .ok (.iaload, 1) := by decide +kernel
theorem dL_law__153 : decode cL_law_ 153 = .ok (.aload_n 0, 1) := by decide +kernel
theorem dL_law__154 : decode cL_law_ 154 = .ok (.iload 4, 2) := by decide +kernel
theorem dL_law__156 : decode cL_law_ 156 = .ok (.iconst 3, 1) := by decide +kernel
theorem dL_law__157 : decode cL_law_ 157 = .ok (.iadd, 1) := by decide +kernel
theorem dL_law__158 : decode cL_law_ 158 = .ok (.iaload, 1) := by decide +kernel
theorem dL_law__159 : decode cL_law_ 159 = .ok (.aload_n 0, 1) := by decide +kernel
theorem dL_law__160 : decode cL_law_ 160 = .ok (.iload 4, 2) := by decide +kernel
theorem dL_law__162 : decode cL_law_ 162 = .ok (.iconst 4, 1) := by decide +kernel
theorem dL_law__163 : decode cL_law_ 163 = .ok (.iadd, 1) := by decide +kernel
theorem dL_law__164 : decode cL_law_ 164 = .ok (.iaload, 1) := by decide +kernel
theorem dL_law__165 : decode cL_law_ 165 = .ok (.aload_n 0, 1) := by decide +kernel
theorem dL_law__166 : decode cL_law_ 166 = .ok (.iload 4, 2) := by decide +kernel
theorem dL_law__168 : decode cL_law_ 168 = .ok (.iconst 5, 1) := by decide +kernel
theorem dL_law__169 : decode cL_law_ 169 = .ok (.iadd, 1) := by decide +kernel
theorem dL_law__170 : decode cL_law_ 170 = .ok (.iaload, 1) := by decide +kernel
theorem dL_law__171 : decode cL_law_ 171 = .ok (.aload_n 0, 1) := by decide +kernel
theorem dL_law__172 : decode cL_law_ 172 = .ok (.iload 4, 2) := by decide +kernel
theorem dL_law__174 : decode cL_law_ 174 = .ok (.bipush 6, 2) := by decide +kernel
theorem dL_law__176 : decode cL_law_ 176 = .ok (.iadd, 1) := by decide +kernel
theorem dL_law__177 : decode cL_law_ 177 = .ok (.iaload, 1) := by decide +kernel
theorem dL_law__178 : decode cL_law_ 178 = .ok (.aload_n 3, 1) := by decide +kernel
theorem dL_law__179 : decode cL_law_ 179 = .ok (.invokestatic 90, 3) := by decide +kernel
theorem dL_law__182 : decode cL_law_ 182 = .ok (.istore 5, 2) := by decide +kernel
theorem dL_law__184 : decode cL_law_ 184 = .ok (.aload_n 2, 1) := by decide +kernel
theorem dL_law__185 : decode cL_law_ 185 = .ok (.aload_n 0, 1) := by decide +kernel
theorem dL_law__186 : decode cL_law_ 186 = .ok (.iload 4, 2) := by decide +kernel
theorem dL_law__188 : decode cL_law_ 188 = .ok (.iconst 1, 1) := by decide +kernel
theorem dL_law__189 : decode cL_law_ 189 = .ok (.iadd, 1) := by decide +kernel
theorem dL_law__190 : decode cL_law_ 190 = .ok (.iaload, 1) := by decide +kernel
theorem dL_law__191 : decode cL_law_ 191 = .ok (.aload_n 0, 1) := by decide +kernel
theorem dL_law__192 : decode cL_law_ 192 = .ok (.iload 4, 2) := by decide +kernel
theorem dL_law__194 : decode cL_law_ 194 = .ok (.iconst 2, 1) := by decide +kernel
theorem dL_law__195 : decode cL_law_ 195 = .ok (.iadd, 1) := by decide +kernel
theorem dL_law__196 : decode cL_law_ 196 = .ok (.iaload, 1) := by decide +kernel
theorem dL_law__197 : decode cL_law_ 197 = .ok (.aload_n 0, 1) := by decide +kernel
theorem dL_law__198 : decode cL_law_ 198 = .ok (.iload 4, 2) := by decide +kernel
theorem dL_law__200 : decode cL_law_ 200 = .ok (.iconst 3, 1) := by decide +kernel
theorem dL_law__201 : decode cL_law_ 201 = .ok (.iadd, 1) := by decide +kernel
theorem dL_law__202 : decode cL_law_ 202 = .ok (.iaload, 1) := by decide +kernel
theorem dL_law__203 : decode cL_law_ 203 = .ok (.aload_n 0, 1) := by decide +kernel
theorem dL_law__204 : decode cL_law_ 204 = .ok (.iload 4, 2) := by decide +kernel
theorem dL_law__206 : decode cL_law_ 206 = .ok (.iconst 4, 1) := by decide +kernel
theorem dL_law__207 : decode cL_law_ 207 = .ok (.iadd, 1) := by decide +kernel
theorem dL_law__208 : decode cL_law_ 208 = .ok (.iaload, 1) := by decide +kernel
theorem dL_law__209 : decode cL_law_ 209 = .ok (.aload_n 0, 1) := by decide +kernel
theorem dL_law__210 : decode cL_law_ 210 = .ok (.iload 4, 2) := by decide +kernel
theorem dL_law__212 : decode cL_law_ 212 = .ok (.iconst 5, 1) := by decide +kernel
theorem dL_law__213 : decode cL_law_ 213 = .ok (.iadd, 1) := by decide +kernel
theorem dL_law__214 : decode cL_law_ 214 = .ok (.iaload, 1) := by decide +kernel
theorem dL_law__215 : decode cL_law_ 215 = .ok (.aload_n 0, 1) := by decide +kernel
theorem dL_law__216 : decode cL_law_ 216 = .ok (.iload 4, 2) := by decide +kernel
theorem dL_law__218 : decode cL_law_ 218 = .ok (.bipush 6, 2) := by decide +kernel
theorem dL_law__220 : decode cL_law_ 220 = .ok (.iadd, 1) := by decide +kernel
theorem dL_law__221 : decode cL_law_ 221 = .ok (.iaload, 1) := by decide +kernel
theorem dL_law__222 : decode cL_law_ 222 = .ok (.invokevirtual 95, 3) := by decide +kernel
theorem dL_law__225 : decode cL_law_ 225 = .ok (.istore 6, 2) := by decide +kernel
theorem dL_law__227 : decode cL_law_ 227 = .ok (.aload_n 2, 1) := by decide +kernel
theorem dL_law__228 : decode cL_law_ 228 = .ok (.invokevirtual 96, 3) := by decide +kernel
theorem dL_law__231 : decode cL_law_ 231 = .ok (.iload 5, 2) := by decide +kernel
theorem dL_law__233 : decode cL_law_ 233 = .ok (.if_icmp .eq 5, 3) := by decide +kernel
theorem dL_law__236 : decode cL_law_ 236 = .ok (.iconst 0, 1) := by decide +kernel
theorem dL_law__237 : decode cL_law_ 237 = .ok (.ireturn, 1) := by decide +kernel
theorem dL_law__238 : decode cL_law_ 238 = .ok (.iload 5, 2) := by decide +kernel
theorem dL_law__240 : decode cL_law_ 240 = .ok (.ifCond .ne 15, 3) := by decide +kernel
theorem dL_law__243 : decode cL_law_ 243 = .ok (.aload_n 3, 1) := by decide +kernel
theorem dL_law__244 : decode cL_law_ 244 = .ok (.iconst 0, 1) := by decide +kernel
theorem dL_law__245 : decode cL_law_ 245 = .ok (.laload, 1) := by decide +kernel
theorem dL_law__246 : decode cL_law_ 246 = .ok (.iload 6, 2) := by decide +kernel
theorem dL_law__248 : decode cL_law_ 248 = .ok (.i2l, 1) := by decide +kernel
theorem dL_law__249 : decode cL_law_ 249 = .ok (.lcmp, 1) := by decide +kernel
theorem dL_law__250 : decode cL_law_ 250 = .ok (.ifCond .eq 5, 3) := by decide +kernel
theorem dL_law__253 : decode cL_law_ 253 = .ok (.iconst 0, 1) := by decide +kernel
theorem dL_law__254 : decode cL_law_ 254 = .ok (.ireturn, 1) := by decide +kernel
theorem dL_law__255 : decode cL_law_ 255 = .ok (.goto 1362, 3) := by decide +kernel
theorem dL_law__258 : decode cL_law_ 258 = .ok (.aload_n 1, 1) := by decide +kernel
theorem dL_law__259 : decode cL_law_ 259 = .ok (.aload_n 0, 1) := by decide +kernel
theorem dL_law__260 : decode cL_law_ 260 = .ok (.iload 4, 2) := by decide +kernel
theorem dL_law__262 : decode cL_law_ 262 = .ok (.iconst 1, 1) := by decide +kernel
theorem dL_law__263 : decode cL_law_ 263 = .ok (.iadd, 1) := by decide +kernel
theorem dL_law__264 : decode cL_law_ 264 = .ok (.iaload, 1) := by decide +kernel
theorem dL_law__265 : decode cL_law_ 265 = .ok (.aload_n 0, 1) := by decide +kernel
theorem dL_law__266 : decode cL_law_ 266 = .ok (.iload 4, 2) := by decide +kernel
theorem dL_law__268 : decode cL_law_ 268 = .ok (.iconst 2, 1) := by decide +kernel
theorem dL_law__269 : decode cL_law_ 269 = .ok (.iadd, 1) := by decide +kernel
theorem dL_law__270 : decode cL_law_ 270 = .ok (.iaload, 1) := by decide +kernel
theorem dL_law__271 : decode cL_law_ 271 = .ok (.aload_n 0, 1) := by decide +kernel
theorem dL_law__272 : decode cL_law_ 272 = .ok (.iload 4, 2) := by decide +kernel
theorem dL_law__274 : decode cL_law_ 274 = .ok (.iconst 3, 1) := by decide +kernel
theorem dL_law__275 : decode cL_law_ 275 = .ok (.iadd, 1) := by decide +kernel
theorem dL_law__276 : decode cL_law_ 276 = .ok (.iaload, 1) := by decide +kernel
theorem dL_law__277 : decode cL_law_ 277 = .ok (.aload_n 3, 1) := by decide +kernel
theorem dL_law__278 : decode cL_law_ 278 = .ok (.invokestatic 100, 3) := by decide +kernel
theorem dL_law__281 : decode cL_law_ 281 = .ok (.istore 5, 2) := by decide +kernel
theorem dL_law__283 : decode cL_law_ 283 = .ok (.aload_n 2, 1) := by decide +kernel
theorem dL_law__284 : decode cL_law_ 284 = .ok (.aload_n 0, 1) := by decide +kernel
theorem dL_law__285 : decode cL_law_ 285 = .ok (.iload 4, 2) := by decide +kernel
theorem dL_law__287 : decode cL_law_ 287 = .ok (.iconst 1, 1) := by decide +kernel
theorem dL_law__288 : decode cL_law_ 288 = .ok (.iadd, 1) := by decide +kernel
theorem dL_law__289 : decode cL_law_ 289 = .ok (.iaload, 1) := by decide +kernel
theorem dL_law__290 : decode cL_law_ 290 = .ok (.aload_n 0, 1) := by decide +kernel
theorem dL_law__291 : decode cL_law_ 291 = .ok (.iload 4, 2) := by decide +kernel
theorem dL_law__293 : decode cL_law_ 293 = .ok (.iconst 2, 1) := by decide +kernel
theorem dL_law__294 : decode cL_law_ 294 = .ok (.iadd, 1) := by decide +kernel
theorem dL_law__295 : decode cL_law_ 295 = .ok (.iaload, 1) := by decide +kernel
theorem dL_law__296 : decode cL_law_ 296 = .ok (.aload_n 0, 1) := by decide +kernel
theorem dL_law__297 : decode cL_law_ 297 = .ok (.iload 4, 2) := by decide +kernel
theorem dL_law__299 : decode cL_law_ 299 = .ok (.iconst 3, 1) := by decide +kernel
theorem dL_law__300 : decode cL_law_ 300 = .ok (.iadd, 1) := by decide +kernel
theorem dL_law__301 : decode cL_law_ 301 = .ok (.iaload, 1) := by decide +kernel
theorem dL_law__302 : decode cL_law_ 302 = .ok (.invokevirtual 103, 3) := by decide +kernel
theorem dL_law__305 : decode cL_law_ 305 = .ok (.istore 6, 2) := by decide +kernel
theorem dL_law__307 : decode cL_law_ 307 = .ok (.aload_n 2, 1) := by decide +kernel
theorem dL_law__308 : decode cL_law_ 308 = .ok (.invokevirtual 96, 3) := by decide +kernel
theorem dL_law__311 : decode cL_law_ 311 = .ok (.iload 5, 2) := by decide +kernel
theorem dL_law__313 : decode cL_law_ 313 = .ok (.if_icmp .eq 5, 3) := by decide +kernel
theorem dL_law__316 : decode cL_law_ 316 = .ok (.iconst 0, 1) := by decide +kernel
theorem dL_law__317 : decode cL_law_ 317 = .ok (.ireturn, 1) := by decide +kernel
theorem dL_law__318 : decode cL_law_ 318 = .ok (.iload 5, 2) := by decide +kernel
theorem dL_law__320 : decode cL_law_ 320 = .ok (.ifCond .ne 15, 3) := by decide +kernel
theorem dL_law__323 : decode cL_law_ 323 = .ok (.aload_n 3, 1) := by decide +kernel
theorem dL_law__324 : decode cL_law_ 324 = .ok (.iconst 0, 1) := by decide +kernel
theorem dL_law__325 : decode cL_law_ 325 = .ok (.laload, 1) := by decide +kernel
theorem dL_law__326 : decode cL_law_ 326 = .ok (.iload 6, 2) := by decide +kernel
theorem dL_law__328 : decode cL_law_ 328 = .ok (.i2l, 1) := by decide +kernel
theorem dL_law__329 : decode cL_law_ 329 = .ok (.lcmp, 1) := by decide +kernel
theorem dL_law__330 : decode cL_law_ 330 = .ok (.ifCond .eq 5, 3) := by decide +kernel
theorem dL_law__333 : decode cL_law_ 333 = .ok (.iconst 0, 1) := by decide +kernel
theorem dL_law__334 : decode cL_law_ 334 = .ok (.ireturn, 1) := by decide +kernel
theorem dL_law__335 : decode cL_law_ 335 = .ok (.goto 1282, 3) := by decide +kernel
theorem dL_law__338 : decode cL_law_ 338 = .ok (.aload_n 1, 1) := by decide +kernel
theorem dL_law__339 : decode cL_law_ 339 = .ok (.aload_n 0, 1) := by decide +kernel
theorem dL_law__340 : decode cL_law_ 340 = .ok (.iload 4, 2) := by decide +kernel
theorem dL_law__342 : decode cL_law_ 342 = .ok (.iconst 1, 1) := by decide +kernel
theorem dL_law__343 : decode cL_law_ 343 = .ok (.iadd, 1) := by decide +kernel
theorem dL_law__344 : decode cL_law_ 344 = .ok (.iaload, 1) := by decide +kernel
theorem dL_law__345 : decode cL_law_ 345 = .ok (.aload_n 0, 1) := by decide +kernel
theorem dL_law__346 : decode cL_law_ 346 = .ok (.iload 4, 2) := by decide +kernel
theorem dL_law__348 : decode cL_law_ 348 = .ok (.iconst 2, 1) := by decide +kernel
theorem dL_law__349 : decode cL_law_ 349 = .ok (.iadd, 1) := by decide +kernel
theorem dL_law__350 : decode cL_law_ 350 = .ok (.iaload, 1) := by decide +kernel
theorem dL_law__351 : decode cL_law_ 351 = .ok (.aload_n 3, 1) := by decide +kernel
theorem dL_law__352 : decode cL_law_ 352 = .ok (.invokestatic 104, 3) := by decide +kernel
theorem dL_law__355 : decode cL_law_ 355 = .ok (.istore 5, 2) := by decide +kernel
theorem dL_law__357 : decode cL_law_ 357 = .ok (.aload_n 2, 1) := by decide +kernel
theorem dL_law__358 : decode cL_law_ 358 = .ok (.aload_n 0, 1) := by decide +kernel
theorem dL_law__359 : decode cL_law_ 359 = .ok (.iload 4, 2) := by decide +kernel
theorem dL_law__361 : decode cL_law_ 361 = .ok (.iconst 1, 1) := by decide +kernel
theorem dL_law__362 : decode cL_law_ 362 = .ok (.iadd, 1) := by decide +kernel
theorem dL_law__363 : decode cL_law_ 363 = .ok (.iaload, 1) := by decide +kernel
theorem dL_law__364 : decode cL_law_ 364 = .ok (.aload_n 0, 1) := by decide +kernel
theorem dL_law__365 : decode cL_law_ 365 = .ok (.iload 4, 2) := by decide +kernel
theorem dL_law__367 : decode cL_law_ 367 = .ok (.iconst 2, 1) := by decide +kernel
theorem dL_law__368 : decode cL_law_ 368 = .ok (.iadd, 1) := by decide +kernel
theorem dL_law__369 : decode cL_law_ 369 = .ok (.iaload, 1) := by decide +kernel
theorem dL_law__370 : decode cL_law_ 370 = .ok (.invokevirtual 107, 3) := by decide +kernel
theorem dL_law__373 : decode cL_law_ 373 = .ok (.istore 6, 2) := by decide +kernel
theorem dL_law__375 : decode cL_law_ 375 = .ok (.aload_n 2, 1) := by decide +kernel
theorem dL_law__376 : decode cL_law_ 376 = .ok (.invokevirtual 96, 3) := by decide +kernel
theorem dL_law__379 : decode cL_law_ 379 = .ok (.iload 5, 2) := by decide +kernel
theorem dL_law__381 : decode cL_law_ 381 = .ok (.if_icmp .eq 5, 3) := by decide +kernel
theorem dL_law__384 : decode cL_law_ 384 = .ok (.iconst 0, 1) := by decide +kernel
theorem dL_law__385 : decode cL_law_ 385 = .ok (.ireturn, 1) := by decide +kernel
theorem dL_law__386 : decode cL_law_ 386 = .ok (.iload 5, 2) := by decide +kernel
theorem dL_law__388 : decode cL_law_ 388 = .ok (.ifCond .ne 15, 3) := by decide +kernel
theorem dL_law__391 : decode cL_law_ 391 = .ok (.aload_n 3, 1) := by decide +kernel
theorem dL_law__392 : decode cL_law_ 392 = .ok (.iconst 0, 1) := by decide +kernel
theorem dL_law__393 : decode cL_law_ 393 = .ok (.laload, 1) := by decide +kernel
theorem dL_law__394 : decode cL_law_ 394 = .ok (.iload 6, 2) := by decide +kernel
theorem dL_law__396 : decode cL_law_ 396 = .ok (.i2l, 1) := by decide +kernel
theorem dL_law__397 : decode cL_law_ 397 = .ok (.lcmp, 1) := by decide +kernel
theorem dL_law__398 : decode cL_law_ 398 = .ok (.ifCond .eq 5, 3) := by decide +kernel
theorem dL_law__401 : decode cL_law_ 401 = .ok (.iconst 0, 1) := by decide +kernel
theorem dL_law__402 : decode cL_law_ 402 = .ok (.ireturn, 1) := by decide +kernel
theorem dL_law__403 : decode cL_law_ 403 = .ok (.goto 1214, 3) := by decide +kernel
theorem dL_law__406 : decode cL_law_ 406 = .ok (.aload_n 1, 1) := by decide +kernel
theorem dL_law__407 : decode cL_law_ 407 = .ok (.aload_n 0, 1) := by decide +kernel
theorem dL_law__408 : decode cL_law_ 408 = .ok (.iload 4, 2) := by decide +kernel
theorem dL_law__410 : decode cL_law_ 410 = .ok (.iconst 1, 1) := by decide +kernel
theorem dL_law__411 : decode cL_law_ 411 = .ok (.iadd, 1) := by decide +kernel
theorem dL_law__412 : decode cL_law_ 412 = .ok (.iaload, 1) := by decide +kernel
theorem dL_law__413 : decode cL_law_ 413 = .ok (.aload_n 0, 1) := by decide +kernel
theorem dL_law__414 : decode cL_law_ 414 = .ok (.iload 4, 2) := by decide +kernel
theorem dL_law__416 : decode cL_law_ 416 = .ok (.iconst 2, 1) := by decide +kernel
theorem dL_law__417 : decode cL_law_ 417 = .ok (.iadd, 1) := by decide +kernel
theorem dL_law__418 : decode cL_law_ 418 = .ok (.iaload, 1) := by decide +kernel
theorem dL_law__419 : decode cL_law_ 419 = .ok (.aload_n 3, 1) := by decide +kernel
theorem dL_law__420 : decode cL_law_ 420 = .ok (.invokestatic 108, 3) := by decide +kernel
theorem dL_law__423 : decode cL_law_ 423 = .ok (.istore 5, 2) := by decide +kernel
theorem dL_law__425 : decode cL_law_ 425 = .ok (.aload_n 2, 1) := by decide +kernel
theorem dL_law__426 : decode cL_law_ 426 = .ok (.aload_n 0, 1) := by decide +kernel
theorem dL_law__427 : decode cL_law_ 427 = .ok (.iload 4, 2) := by decide +kernel
theorem dL_law__429 : decode cL_law_ 429 = .ok (.iconst 1, 1) := by decide +kernel
theorem dL_law__430 : decode cL_law_ 430 = .ok (.iadd, 1) := by decide +kernel
theorem dL_law__431 : decode cL_law_ 431 = .ok (.iaload, 1) := by decide +kernel
theorem dL_law__432 : decode cL_law_ 432 = .ok (.aload_n 0, 1) := by decide +kernel
theorem dL_law__433 : decode cL_law_ 433 = .ok (.iload 4, 2) := by decide +kernel
theorem dL_law__435 : decode cL_law_ 435 = .ok (.iconst 2, 1) := by decide +kernel
theorem dL_law__436 : decode cL_law_ 436 = .ok (.iadd, 1) := by decide +kernel
theorem dL_law__437 : decode cL_law_ 437 = .ok (.iaload, 1) := by decide +kernel
theorem dL_law__438 : decode cL_law_ 438 = .ok (.invokevirtual 110, 3) := by decide +kernel
theorem dL_law__441 : decode cL_law_ 441 = .ok (.istore 6, 2) := by decide +kernel
theorem dL_law__443 : decode cL_law_ 443 = .ok (.aload_n 2, 1) := by decide +kernel
theorem dL_law__444 : decode cL_law_ 444 = .ok (.invokevirtual 96, 3) := by decide +kernel
theorem dL_law__447 : decode cL_law_ 447 = .ok (.iload 5, 2) := by decide +kernel
theorem dL_law__449 : decode cL_law_ 449 = .ok (.if_icmp .eq 5, 3) := by decide +kernel
theorem dL_law__452 : decode cL_law_ 452 = .ok (.iconst 0, 1) := by decide +kernel
theorem dL_law__453 : decode cL_law_ 453 = .ok (.ireturn, 1) := by decide +kernel
theorem dL_law__454 : decode cL_law_ 454 = .ok (.iload 5, 2) := by decide +kernel
theorem dL_law__456 : decode cL_law_ 456 = .ok (.ifCond .ne 15, 3) := by decide +kernel
theorem dL_law__459 : decode cL_law_ 459 = .ok (.aload_n 3, 1) := by decide +kernel
theorem dL_law__460 : decode cL_law_ 460 = .ok (.iconst 0, 1) := by decide +kernel
theorem dL_law__461 : decode cL_law_ 461 = .ok (.laload, 1) := by decide +kernel
theorem dL_law__462 : decode cL_law_ 462 = .ok (.iload 6, 2) := by decide +kernel
theorem dL_law__464 : decode cL_law_ 464 = .ok (.i2l, 1) := by decide +kernel
theorem dL_law__465 : decode cL_law_ 465 = .ok (.lcmp, 1) := by decide +kernel
theorem dL_law__466 : decode cL_law_ 466 = .ok (.ifCond .eq 5, 3) := by decide +kernel
theorem dL_law__469 : decode cL_law_ 469 = .ok (.iconst 0, 1) := by decide +kernel
theorem dL_law__470 : decode cL_law_ 470 = .ok (.ireturn, 1) := by decide +kernel
theorem dL_law__471 : decode cL_law_ 471 = .ok (.goto 1146, 3) := by decide +kernel
theorem dL_law__474 : decode cL_law_ 474 = .ok (.aload_n 1, 1) := by decide +kernel
theorem dL_law__475 : decode cL_law_ 475 = .ok (.aload_n 0, 1) := by decide +kernel
theorem dL_law__476 : decode cL_law_ 476 = .ok (.iload 4, 2) := by decide +kernel
theorem dL_law__478 : decode cL_law_ 478 = .ok (.iconst 1, 1) := by decide +kernel
theorem dL_law__479 : decode cL_law_ 479 = .ok (.iadd, 1) := by decide +kernel
theorem dL_law__480 : decode cL_law_ 480 = .ok (.iaload, 1) := by decide +kernel
theorem dL_law__481 : decode cL_law_ 481 = .ok (.aload_n 3, 1) := by decide +kernel
theorem dL_law__482 : decode cL_law_ 482 = .ok (.invokestatic 111, 3) := by decide +kernel
theorem dL_law__485 : decode cL_law_ 485 = .ok (.istore 5, 2) := by decide +kernel
theorem dL_law__487 : decode cL_law_ 487 = .ok (.aload_n 2, 1) := by decide +kernel
theorem dL_law__488 : decode cL_law_ 488 = .ok (.aload_n 0, 1) := by decide +kernel
theorem dL_law__489 : decode cL_law_ 489 = .ok (.iload 4, 2) := by decide +kernel
theorem dL_law__491 : decode cL_law_ 491 = .ok (.iconst 1, 1) := by decide +kernel
theorem dL_law__492 : decode cL_law_ 492 = .ok (.iadd, 1) := by decide +kernel
theorem dL_law__493 : decode cL_law_ 493 = .ok (.iaload, 1) := by decide +kernel
theorem dL_law__494 : decode cL_law_ 494 = .ok (.invokevirtual 114, 3) := by decide +kernel
theorem dL_law__497 : decode cL_law_ 497 = .ok (.istore 6, 2) := by decide +kernel
theorem dL_law__499 : decode cL_law_ 499 = .ok (.aload_n 2, 1) := by decide +kernel
theorem dL_law__500 : decode cL_law_ 500 = .ok (.invokevirtual 96, 3) := by decide +kernel
theorem dL_law__503 : decode cL_law_ 503 = .ok (.iload 5, 2) := by decide +kernel
theorem dL_law__505 : decode cL_law_ 505 = .ok (.if_icmp .eq 5, 3) := by decide +kernel
theorem dL_law__508 : decode cL_law_ 508 = .ok (.iconst 0, 1) := by decide +kernel
theorem dL_law__509 : decode cL_law_ 509 = .ok (.ireturn, 1) := by decide +kernel
theorem dL_law__510 : decode cL_law_ 510 = .ok (.iload 5, 2) := by decide +kernel
theorem dL_law__512 : decode cL_law_ 512 = .ok (.ifCond .ne 15, 3) := by decide +kernel
theorem dL_law__515 : decode cL_law_ 515 = .ok (.aload_n 3, 1) := by decide +kernel
theorem dL_law__516 : decode cL_law_ 516 = .ok (.iconst 0, 1) := by decide +kernel
theorem dL_law__517 : decode cL_law_ 517 = .ok (.laload, 1) := by decide +kernel
theorem dL_law__518 : decode cL_law_ 518 = .ok (.iload 6, 2) := by decide +kernel
theorem dL_law__520 : decode cL_law_ 520 = .ok (.i2l, 1) := by decide +kernel
theorem dL_law__521 : decode cL_law_ 521 = .ok (.lcmp, 1) := by decide +kernel
theorem dL_law__522 : decode cL_law_ 522 = .ok (.ifCond .eq 5, 3) := by decide +kernel
theorem dL_law__525 : decode cL_law_ 525 = .ok (.iconst 0, 1) := by decide +kernel
theorem dL_law__526 : decode cL_law_ 526 = .ok (.ireturn, 1) := by decide +kernel
theorem dL_law__527 : decode cL_law_ 527 = .ok (.goto 1090, 3) := by decide +kernel
theorem dL_law__530 : decode cL_law_ 530 = .ok (.aload_n 1, 1) := by decide +kernel
theorem dL_law__531 : decode cL_law_ 531 = .ok (.aload_n 0, 1) := by decide +kernel
theorem dL_law__532 : decode cL_law_ 532 = .ok (.iload 4, 2) := by decide +kernel
theorem dL_law__534 : decode cL_law_ 534 = .ok (.iconst 1, 1) := by decide +kernel
theorem dL_law__535 : decode cL_law_ 535 = .ok (.iadd, 1) := by decide +kernel
theorem dL_law__536 : decode cL_law_ 536 = .ok (.iaload, 1) := by decide +kernel
theorem dL_law__537 : decode cL_law_ 537 = .ok (.aload_n 0, 1) := by decide +kernel
theorem dL_law__538 : decode cL_law_ 538 = .ok (.iload 4, 2) := by decide +kernel
theorem dL_law__540 : decode cL_law_ 540 = .ok (.iconst 2, 1) := by decide +kernel
theorem dL_law__541 : decode cL_law_ 541 = .ok (.iadd, 1) := by decide +kernel
theorem dL_law__542 : decode cL_law_ 542 = .ok (.iaload, 1) := by decide +kernel
theorem dL_law__543 : decode cL_law_ 543 = .ok (.aload_n 0, 1) := by decide +kernel
theorem dL_law__544 : decode cL_law_ 544 = .ok (.iload 4, 2) := by decide +kernel
theorem dL_law__546 : decode cL_law_ 546 = .ok (.iconst 3, 1) := by decide +kernel
theorem dL_law__547 : decode cL_law_ 547 = .ok (.iadd, 1) := by decide +kernel
theorem dL_law__548 : decode cL_law_ 548 = .ok (.iaload, 1) := by decide +kernel
theorem dL_law__549 : decode cL_law_ 549 = .ok (.aload_n 0, 1) := by decide +kernel
theorem dL_law__550 : decode cL_law_ 550 = .ok (.iload 4, 2) := by decide +kernel
theorem dL_law__552 : decode cL_law_ 552 = .ok (.iconst 4, 1) := by decide +kernel
theorem dL_law__553 : decode cL_law_ 553 = .ok (.iadd, 1) := by decide +kernel
theorem dL_law__554 : decode cL_law_ 554 = .ok (.iaload, 1) := by decide +kernel
theorem dL_law__555 : decode cL_law_ 555 = .ok (.aload_n 3, 1) := by decide +kernel
theorem dL_law__556 : decode cL_law_ 556 = .ok (.invokestatic 115, 3) := by decide +kernel
theorem dL_law__559 : decode cL_law_ 559 = .ok (.istore 5, 2) := by decide +kernel
theorem dL_law__561 : decode cL_law_ 561 = .ok (.aload_n 2, 1) := by decide +kernel
theorem dL_law__562 : decode cL_law_ 562 = .ok (.aload_n 0, 1) := by decide +kernel
theorem dL_law__563 : decode cL_law_ 563 = .ok (.iload 4, 2) := by decide +kernel
theorem dL_law__565 : decode cL_law_ 565 = .ok (.iconst 1, 1) := by decide +kernel
theorem dL_law__566 : decode cL_law_ 566 = .ok (.iadd, 1) := by decide +kernel
theorem dL_law__567 : decode cL_law_ 567 = .ok (.iaload, 1) := by decide +kernel
theorem dL_law__568 : decode cL_law_ 568 = .ok (.aload_n 0, 1) := by decide +kernel
theorem dL_law__569 : decode cL_law_ 569 = .ok (.iload 4, 2) := by decide +kernel
theorem dL_law__571 : decode cL_law_ 571 = .ok (.iconst 2, 1) := by decide +kernel
theorem dL_law__572 : decode cL_law_ 572 = .ok (.iadd, 1) := by decide +kernel
theorem dL_law__573 : decode cL_law_ 573 = .ok (.iaload, 1) := by decide +kernel
theorem dL_law__574 : decode cL_law_ 574 = .ok (.aload_n 0, 1) := by decide +kernel
theorem dL_law__575 : decode cL_law_ 575 = .ok (.iload 4, 2) := by decide +kernel
theorem dL_law__577 : decode cL_law_ 577 = .ok (.iconst 3, 1) := by decide +kernel
theorem dL_law__578 : decode cL_law_ 578 = .ok (.iadd, 1) := by decide +kernel
theorem dL_law__579 : decode cL_law_ 579 = .ok (.iaload, 1) := by decide +kernel
theorem dL_law__580 : decode cL_law_ 580 = .ok (.aload_n 0, 1) := by decide +kernel
theorem dL_law__581 : decode cL_law_ 581 = .ok (.iload 4, 2) := by decide +kernel
theorem dL_law__583 : decode cL_law_ 583 = .ok (.iconst 4, 1) := by decide +kernel
theorem dL_law__584 : decode cL_law_ 584 = .ok (.iadd, 1) := by decide +kernel
theorem dL_law__585 : decode cL_law_ 585 = .ok (.iaload, 1) := by decide +kernel
theorem dL_law__586 : decode cL_law_ 586 = .ok (.invokevirtual 118, 3) := by decide +kernel
theorem dL_law__589 : decode cL_law_ 589 = .ok (.istore 6, 2) := by decide +kernel
theorem dL_law__591 : decode cL_law_ 591 = .ok (.aload_n 2, 1) := by decide +kernel
theorem dL_law__592 : decode cL_law_ 592 = .ok (.invokevirtual 96, 3) := by decide +kernel
theorem dL_law__595 : decode cL_law_ 595 = .ok (.iload 5, 2) := by decide +kernel
theorem dL_law__597 : decode cL_law_ 597 = .ok (.if_icmp .eq 5, 3) := by decide +kernel
theorem dL_law__600 : decode cL_law_ 600 = .ok (.iconst 0, 1) := by decide +kernel
theorem dL_law__601 : decode cL_law_ 601 = .ok (.ireturn, 1) := by decide +kernel
theorem dL_law__602 : decode cL_law_ 602 = .ok (.iload 5, 2) := by decide +kernel
theorem dL_law__604 : decode cL_law_ 604 = .ok (.ifCond .ne 15, 3) := by decide +kernel
theorem dL_law__607 : decode cL_law_ 607 = .ok (.aload_n 3, 1) := by decide +kernel
theorem dL_law__608 : decode cL_law_ 608 = .ok (.iconst 0, 1) := by decide +kernel
theorem dL_law__609 : decode cL_law_ 609 = .ok (.laload, 1) := by decide +kernel
theorem dL_law__610 : decode cL_law_ 610 = .ok (.iload 6, 2) := by decide +kernel
theorem dL_law__612 : decode cL_law_ 612 = .ok (.i2l, 1) := by decide +kernel
theorem dL_law__613 : decode cL_law_ 613 = .ok (.lcmp, 1) := by decide +kernel
theorem dL_law__614 : decode cL_law_ 614 = .ok (.ifCond .eq 5, 3) := by decide +kernel
theorem dL_law__617 : decode cL_law_ 617 = .ok (.iconst 0, 1) := by decide +kernel
theorem dL_law__618 : decode cL_law_ 618 = .ok (.ireturn, 1) := by decide +kernel
theorem dL_law__619 : decode cL_law_ 619 = .ok (.goto 998, 3) := by decide +kernel
theorem dL_law__622 : decode cL_law_ 622 = .ok (.aload_n 1, 1) := by decide +kernel
theorem dL_law__623 : decode cL_law_ 623 = .ok (.aload_n 0, 1) := by decide +kernel
theorem dL_law__624 : decode cL_law_ 624 = .ok (.iload 4, 2) := by decide +kernel
theorem dL_law__626 : decode cL_law_ 626 = .ok (.iconst 1, 1) := by decide +kernel
theorem dL_law__627 : decode cL_law_ 627 = .ok (.iadd, 1) := by decide +kernel
theorem dL_law__628 : decode cL_law_ 628 = .ok (.iaload, 1) := by decide +kernel
theorem dL_law__629 : decode cL_law_ 629 = .ok (.aload_n 0, 1) := by decide +kernel
theorem dL_law__630 : decode cL_law_ 630 = .ok (.iload 4, 2) := by decide +kernel
theorem dL_law__632 : decode cL_law_ 632 = .ok (.iconst 2, 1) := by decide +kernel
theorem dL_law__633 : decode cL_law_ 633 = .ok (.iadd, 1) := by decide +kernel
theorem dL_law__634 : decode cL_law_ 634 = .ok (.iaload, 1) := by decide +kernel
theorem dL_law__635 : decode cL_law_ 635 = .ok (.aload_n 0, 1) := by decide +kernel
theorem dL_law__636 : decode cL_law_ 636 = .ok (.iload 4, 2) := by decide +kernel
theorem dL_law__638 : decode cL_law_ 638 = .ok (.iconst 3, 1) := by decide +kernel
theorem dL_law__639 : decode cL_law_ 639 = .ok (.iadd, 1) := by decide +kernel
theorem dL_law__640 : decode cL_law_ 640 = .ok (.iaload, 1) := by decide +kernel
theorem dL_law__641 : decode cL_law_ 641 = .ok (.aload_n 3, 1) := by decide +kernel
theorem dL_law__642 : decode cL_law_ 642 = .ok (.invokestatic 119, 3) := by decide +kernel
theorem dL_law__645 : decode cL_law_ 645 = .ok (.istore 5, 2) := by decide +kernel
theorem dL_law__647 : decode cL_law_ 647 = .ok (.aload_n 2, 1) := by decide +kernel
theorem dL_law__648 : decode cL_law_ 648 = .ok (.aload_n 0, 1) := by decide +kernel
theorem dL_law__649 : decode cL_law_ 649 = .ok (.iload 4, 2) := by decide +kernel
theorem dL_law__651 : decode cL_law_ 651 = .ok (.iconst 1, 1) := by decide +kernel
theorem dL_law__652 : decode cL_law_ 652 = .ok (.iadd, 1) := by decide +kernel
theorem dL_law__653 : decode cL_law_ 653 = .ok (.iaload, 1) := by decide +kernel
theorem dL_law__654 : decode cL_law_ 654 = .ok (.aload_n 0, 1) := by decide +kernel
theorem dL_law__655 : decode cL_law_ 655 = .ok (.iload 4, 2) := by decide +kernel
theorem dL_law__657 : decode cL_law_ 657 = .ok (.iconst 2, 1) := by decide +kernel
theorem dL_law__658 : decode cL_law_ 658 = .ok (.iadd, 1) := by decide +kernel
theorem dL_law__659 : decode cL_law_ 659 = .ok (.iaload, 1) := by decide +kernel
theorem dL_law__660 : decode cL_law_ 660 = .ok (.aload_n 0, 1) := by decide +kernel
theorem dL_law__661 : decode cL_law_ 661 = .ok (.iload 4, 2) := by decide +kernel
theorem dL_law__663 : decode cL_law_ 663 = .ok (.iconst 3, 1) := by decide +kernel
theorem dL_law__664 : decode cL_law_ 664 = .ok (.iadd, 1) := by decide +kernel
theorem dL_law__665 : decode cL_law_ 665 = .ok (.iaload, 1) := by decide +kernel
theorem dL_law__666 : decode cL_law_ 666 = .ok (.invokevirtual 121, 3) := by decide +kernel
theorem dL_law__669 : decode cL_law_ 669 = .ok (.istore 6, 2) := by decide +kernel
theorem dL_law__671 : decode cL_law_ 671 = .ok (.aload_n 2, 1) := by decide +kernel
theorem dL_law__672 : decode cL_law_ 672 = .ok (.invokevirtual 96, 3) := by decide +kernel
theorem dL_law__675 : decode cL_law_ 675 = .ok (.iload 5, 2) := by decide +kernel
theorem dL_law__677 : decode cL_law_ 677 = .ok (.if_icmp .eq 5, 3) := by decide +kernel
theorem dL_law__680 : decode cL_law_ 680 = .ok (.iconst 0, 1) := by decide +kernel
theorem dL_law__681 : decode cL_law_ 681 = .ok (.ireturn, 1) := by decide +kernel
theorem dL_law__682 : decode cL_law_ 682 = .ok (.iload 5, 2) := by decide +kernel
theorem dL_law__684 : decode cL_law_ 684 = .ok (.ifCond .ne 15, 3) := by decide +kernel
theorem dL_law__687 : decode cL_law_ 687 = .ok (.aload_n 3, 1) := by decide +kernel
theorem dL_law__688 : decode cL_law_ 688 = .ok (.iconst 0, 1) := by decide +kernel
theorem dL_law__689 : decode cL_law_ 689 = .ok (.laload, 1) := by decide +kernel
theorem dL_law__690 : decode cL_law_ 690 = .ok (.iload 6, 2) := by decide +kernel
theorem dL_law__692 : decode cL_law_ 692 = .ok (.i2l, 1) := by decide +kernel
theorem dL_law__693 : decode cL_law_ 693 = .ok (.lcmp, 1) := by decide +kernel
theorem dL_law__694 : decode cL_law_ 694 = .ok (.ifCond .eq 5, 3) := by decide +kernel
theorem dL_law__697 : decode cL_law_ 697 = .ok (.iconst 0, 1) := by decide +kernel
theorem dL_law__698 : decode cL_law_ 698 = .ok (.ireturn, 1) := by decide +kernel
theorem dL_law__699 : decode cL_law_ 699 = .ok (.goto 918, 3) := by decide +kernel
theorem dL_law__702 : decode cL_law_ 702 = .ok (.aload_n 1, 1) := by decide +kernel
theorem dL_law__703 : decode cL_law_ 703 = .ok (.aload_n 0, 1) := by decide +kernel
theorem dL_law__704 : decode cL_law_ 704 = .ok (.iload 4, 2) := by decide +kernel
theorem dL_law__706 : decode cL_law_ 706 = .ok (.iconst 1, 1) := by decide +kernel
theorem dL_law__707 : decode cL_law_ 707 = .ok (.iadd, 1) := by decide +kernel
theorem dL_law__708 : decode cL_law_ 708 = .ok (.iaload, 1) := by decide +kernel
theorem dL_law__709 : decode cL_law_ 709 = .ok (.aload_n 0, 1) := by decide +kernel
theorem dL_law__710 : decode cL_law_ 710 = .ok (.iload 4, 2) := by decide +kernel
theorem dL_law__712 : decode cL_law_ 712 = .ok (.iconst 2, 1) := by decide +kernel
theorem dL_law__713 : decode cL_law_ 713 = .ok (.iadd, 1) := by decide +kernel
theorem dL_law__714 : decode cL_law_ 714 = .ok (.iaload, 1) := by decide +kernel
theorem dL_law__715 : decode cL_law_ 715 = .ok (.aload_n 0, 1) := by decide +kernel
theorem dL_law__716 : decode cL_law_ 716 = .ok (.iload 4, 2) := by decide +kernel
theorem dL_law__718 : decode cL_law_ 718 = .ok (.iconst 3, 1) := by decide +kernel
theorem dL_law__719 : decode cL_law_ 719 = .ok (.iadd, 1) := by decide +kernel
theorem dL_law__720 : decode cL_law_ 720 = .ok (.iaload, 1) := by decide +kernel
theorem dL_law__721 : decode cL_law_ 721 = .ok (.aload_n 3, 1) := by decide +kernel
theorem dL_law__722 : decode cL_law_ 722 = .ok (.invokestatic 122, 3) := by decide +kernel
theorem dL_law__725 : decode cL_law_ 725 = .ok (.istore 5, 2) := by decide +kernel
theorem dL_law__727 : decode cL_law_ 727 = .ok (.aload_n 2, 1) := by decide +kernel
theorem dL_law__728 : decode cL_law_ 728 = .ok (.aload_n 0, 1) := by decide +kernel
theorem dL_law__729 : decode cL_law_ 729 = .ok (.iload 4, 2) := by decide +kernel
theorem dL_law__731 : decode cL_law_ 731 = .ok (.iconst 1, 1) := by decide +kernel
theorem dL_law__732 : decode cL_law_ 732 = .ok (.iadd, 1) := by decide +kernel
theorem dL_law__733 : decode cL_law_ 733 = .ok (.iaload, 1) := by decide +kernel
theorem dL_law__734 : decode cL_law_ 734 = .ok (.aload_n 0, 1) := by decide +kernel
theorem dL_law__735 : decode cL_law_ 735 = .ok (.iload 4, 2) := by decide +kernel
theorem dL_law__737 : decode cL_law_ 737 = .ok (.iconst 2, 1) := by decide +kernel
theorem dL_law__738 : decode cL_law_ 738 = .ok (.iadd, 1) := by decide +kernel
theorem dL_law__739 : decode cL_law_ 739 = .ok (.iaload, 1) := by decide +kernel
theorem dL_law__740 : decode cL_law_ 740 = .ok (.aload_n 0, 1) := by decide +kernel
theorem dL_law__741 : decode cL_law_ 741 = .ok (.iload 4, 2) := by decide +kernel
theorem dL_law__743 : decode cL_law_ 743 = .ok (.iconst 3, 1) := by decide +kernel
theorem dL_law__744 : decode cL_law_ 744 = .ok (.iadd, 1) := by decide +kernel
theorem dL_law__745 : decode cL_law_ 745 = .ok (.iaload, 1) := by decide +kernel
theorem dL_law__746 : decode cL_law_ 746 = .ok (.invokevirtual 124, 3) := by decide +kernel
theorem dL_law__749 : decode cL_law_ 749 = .ok (.istore 6, 2) := by decide +kernel
theorem dL_law__751 : decode cL_law_ 751 = .ok (.aload_n 2, 1) := by decide +kernel
theorem dL_law__752 : decode cL_law_ 752 = .ok (.invokevirtual 96, 3) := by decide +kernel
theorem dL_law__755 : decode cL_law_ 755 = .ok (.iload 5, 2) := by decide +kernel
theorem dL_law__757 : decode cL_law_ 757 = .ok (.if_icmp .eq 5, 3) := by decide +kernel
theorem dL_law__760 : decode cL_law_ 760 = .ok (.iconst 0, 1) := by decide +kernel
theorem dL_law__761 : decode cL_law_ 761 = .ok (.ireturn, 1) := by decide +kernel
theorem dL_law__762 : decode cL_law_ 762 = .ok (.iload 5, 2) := by decide +kernel
theorem dL_law__764 : decode cL_law_ 764 = .ok (.ifCond .ne 15, 3) := by decide +kernel
theorem dL_law__767 : decode cL_law_ 767 = .ok (.aload_n 3, 1) := by decide +kernel
theorem dL_law__768 : decode cL_law_ 768 = .ok (.iconst 0, 1) := by decide +kernel
theorem dL_law__769 : decode cL_law_ 769 = .ok (.laload, 1) := by decide +kernel
theorem dL_law__770 : decode cL_law_ 770 = .ok (.iload 6, 2) := by decide +kernel
theorem dL_law__772 : decode cL_law_ 772 = .ok (.i2l, 1) := by decide +kernel
theorem dL_law__773 : decode cL_law_ 773 = .ok (.lcmp, 1) := by decide +kernel
theorem dL_law__774 : decode cL_law_ 774 = .ok (.ifCond .eq 5, 3) := by decide +kernel
theorem dL_law__777 : decode cL_law_ 777 = .ok (.iconst 0, 1) := by decide +kernel
theorem dL_law__778 : decode cL_law_ 778 = .ok (.ireturn, 1) := by decide +kernel
theorem dL_law__779 : decode cL_law_ 779 = .ok (.goto 838, 3) := by decide +kernel
theorem dL_law__782 : decode cL_law_ 782 = .ok (.aload_n 1, 1) := by decide +kernel
theorem dL_law__783 : decode cL_law_ 783 = .ok (.aload_n 0, 1) := by decide +kernel
theorem dL_law__784 : decode cL_law_ 784 = .ok (.iload 4, 2) := by decide +kernel
theorem dL_law__786 : decode cL_law_ 786 = .ok (.iconst 1, 1) := by decide +kernel
theorem dL_law__787 : decode cL_law_ 787 = .ok (.iadd, 1) := by decide +kernel
theorem dL_law__788 : decode cL_law_ 788 = .ok (.iaload, 1) := by decide +kernel
theorem dL_law__789 : decode cL_law_ 789 = .ok (.aload_n 0, 1) := by decide +kernel
theorem dL_law__790 : decode cL_law_ 790 = .ok (.iload 4, 2) := by decide +kernel
theorem dL_law__792 : decode cL_law_ 792 = .ok (.iconst 2, 1) := by decide +kernel
theorem dL_law__793 : decode cL_law_ 793 = .ok (.iadd, 1) := by decide +kernel
theorem dL_law__794 : decode cL_law_ 794 = .ok (.iaload, 1) := by decide +kernel
theorem dL_law__795 : decode cL_law_ 795 = .ok (.aload_n 0, 1) := by decide +kernel
theorem dL_law__796 : decode cL_law_ 796 = .ok (.iload 4, 2) := by decide +kernel
theorem dL_law__798 : decode cL_law_ 798 = .ok (.iconst 3, 1) := by decide +kernel
theorem dL_law__799 : decode cL_law_ 799 = .ok (.iadd, 1) := by decide +kernel
theorem dL_law__800 : decode cL_law_ 800 = .ok (.iaload, 1) := by decide +kernel
theorem dL_law__801 : decode cL_law_ 801 = .ok (.aload_n 3, 1) := by decide +kernel
theorem dL_law__802 : decode cL_law_ 802 = .ok (.invokestatic 125, 3) := by decide +kernel
theorem dL_law__805 : decode cL_law_ 805 = .ok (.istore 5, 2) := by decide +kernel
theorem dL_law__807 : decode cL_law_ 807 = .ok (.aload_n 2, 1) := by decide +kernel
theorem dL_law__808 : decode cL_law_ 808 = .ok (.aload_n 0, 1) := by decide +kernel
theorem dL_law__809 : decode cL_law_ 809 = .ok (.iload 4, 2) := by decide +kernel
theorem dL_law__811 : decode cL_law_ 811 = .ok (.iconst 1, 1) := by decide +kernel
theorem dL_law__812 : decode cL_law_ 812 = .ok (.iadd, 1) := by decide +kernel
theorem dL_law__813 : decode cL_law_ 813 = .ok (.iaload, 1) := by decide +kernel
theorem dL_law__814 : decode cL_law_ 814 = .ok (.aload_n 0, 1) := by decide +kernel
theorem dL_law__815 : decode cL_law_ 815 = .ok (.iload 4, 2) := by decide +kernel
theorem dL_law__817 : decode cL_law_ 817 = .ok (.iconst 2, 1) := by decide +kernel
theorem dL_law__818 : decode cL_law_ 818 = .ok (.iadd, 1) := by decide +kernel
theorem dL_law__819 : decode cL_law_ 819 = .ok (.iaload, 1) := by decide +kernel
theorem dL_law__820 : decode cL_law_ 820 = .ok (.aload_n 0, 1) := by decide +kernel
theorem dL_law__821 : decode cL_law_ 821 = .ok (.iload 4, 2) := by decide +kernel
theorem dL_law__823 : decode cL_law_ 823 = .ok (.iconst 3, 1) := by decide +kernel
theorem dL_law__824 : decode cL_law_ 824 = .ok (.iadd, 1) := by decide +kernel
theorem dL_law__825 : decode cL_law_ 825 = .ok (.iaload, 1) := by decide +kernel
theorem dL_law__826 : decode cL_law_ 826 = .ok (.invokevirtual 127, 3) := by decide +kernel
theorem dL_law__829 : decode cL_law_ 829 = .ok (.istore 6, 2) := by decide +kernel
theorem dL_law__831 : decode cL_law_ 831 = .ok (.aload_n 2, 1) := by decide +kernel
theorem dL_law__832 : decode cL_law_ 832 = .ok (.invokevirtual 96, 3) := by decide +kernel
theorem dL_law__835 : decode cL_law_ 835 = .ok (.iload 5, 2) := by decide +kernel
theorem dL_law__837 : decode cL_law_ 837 = .ok (.if_icmp .eq 5, 3) := by decide +kernel
theorem dL_law__840 : decode cL_law_ 840 = .ok (.iconst 0, 1) := by decide +kernel
theorem dL_law__841 : decode cL_law_ 841 = .ok (.ireturn, 1) := by decide +kernel
theorem dL_law__842 : decode cL_law_ 842 = .ok (.iload 5, 2) := by decide +kernel
theorem dL_law__844 : decode cL_law_ 844 = .ok (.ifCond .ne 15, 3) := by decide +kernel
theorem dL_law__847 : decode cL_law_ 847 = .ok (.aload_n 3, 1) := by decide +kernel
theorem dL_law__848 : decode cL_law_ 848 = .ok (.iconst 0, 1) := by decide +kernel
theorem dL_law__849 : decode cL_law_ 849 = .ok (.laload, 1) := by decide +kernel
theorem dL_law__850 : decode cL_law_ 850 = .ok (.iload 6, 2) := by decide +kernel
theorem dL_law__852 : decode cL_law_ 852 = .ok (.i2l, 1) := by decide +kernel
theorem dL_law__853 : decode cL_law_ 853 = .ok (.lcmp, 1) := by decide +kernel
theorem dL_law__854 : decode cL_law_ 854 = .ok (.ifCond .eq 5, 3) := by decide +kernel
theorem dL_law__857 : decode cL_law_ 857 = .ok (.iconst 0, 1) := by decide +kernel
theorem dL_law__858 : decode cL_law_ 858 = .ok (.ireturn, 1) := by decide +kernel
theorem dL_law__859 : decode cL_law_ 859 = .ok (.goto 758, 3) := by decide +kernel
theorem dL_law__862 : decode cL_law_ 862 = .ok (.aload_n 1, 1) := by decide +kernel
theorem dL_law__863 : decode cL_law_ 863 = .ok (.aload_n 0, 1) := by decide +kernel
theorem dL_law__864 : decode cL_law_ 864 = .ok (.iload 4, 2) := by decide +kernel
theorem dL_law__866 : decode cL_law_ 866 = .ok (.iconst 1, 1) := by decide +kernel
theorem dL_law__867 : decode cL_law_ 867 = .ok (.iadd, 1) := by decide +kernel
theorem dL_law__868 : decode cL_law_ 868 = .ok (.iaload, 1) := by decide +kernel
theorem dL_law__869 : decode cL_law_ 869 = .ok (.aload_n 0, 1) := by decide +kernel
theorem dL_law__870 : decode cL_law_ 870 = .ok (.iload 4, 2) := by decide +kernel
theorem dL_law__872 : decode cL_law_ 872 = .ok (.iconst 2, 1) := by decide +kernel
theorem dL_law__873 : decode cL_law_ 873 = .ok (.iadd, 1) := by decide +kernel
theorem dL_law__874 : decode cL_law_ 874 = .ok (.iaload, 1) := by decide +kernel
theorem dL_law__875 : decode cL_law_ 875 = .ok (.aload_n 3, 1) := by decide +kernel
theorem dL_law__876 : decode cL_law_ 876 = .ok (.invokestatic 128, 3) := by decide +kernel
theorem dL_law__879 : decode cL_law_ 879 = .ok (.istore 5, 2) := by decide +kernel
theorem dL_law__881 : decode cL_law_ 881 = .ok (.aload_n 2, 1) := by decide +kernel
theorem dL_law__882 : decode cL_law_ 882 = .ok (.aload_n 0, 1) := by decide +kernel
theorem dL_law__883 : decode cL_law_ 883 = .ok (.iload 4, 2) := by decide +kernel
theorem dL_law__885 : decode cL_law_ 885 = .ok (.iconst 1, 1) := by decide +kernel
theorem dL_law__886 : decode cL_law_ 886 = .ok (.iadd, 1) := by decide +kernel
theorem dL_law__887 : decode cL_law_ 887 = .ok (.iaload, 1) := by decide +kernel
theorem dL_law__888 : decode cL_law_ 888 = .ok (.aload_n 0, 1) := by decide +kernel
theorem dL_law__889 : decode cL_law_ 889 = .ok (.iload 4, 2) := by decide +kernel
theorem dL_law__891 : decode cL_law_ 891 = .ok (.iconst 2, 1) := by decide +kernel
theorem dL_law__892 : decode cL_law_ 892 = .ok (.iadd, 1) := by decide +kernel
theorem dL_law__893 : decode cL_law_ 893 = .ok (.iaload, 1) := by decide +kernel
theorem dL_law__894 : decode cL_law_ 894 = .ok (.invokevirtual 130, 3) := by decide +kernel
theorem dL_law__897 : decode cL_law_ 897 = .ok (.istore 6, 2) := by decide +kernel
theorem dL_law__899 : decode cL_law_ 899 = .ok (.aload_n 2, 1) := by decide +kernel
theorem dL_law__900 : decode cL_law_ 900 = .ok (.invokevirtual 96, 3) := by decide +kernel
theorem dL_law__903 : decode cL_law_ 903 = .ok (.iload 5, 2) := by decide +kernel
theorem dL_law__905 : decode cL_law_ 905 = .ok (.if_icmp .eq 5, 3) := by decide +kernel
theorem dL_law__908 : decode cL_law_ 908 = .ok (.iconst 0, 1) := by decide +kernel
theorem dL_law__909 : decode cL_law_ 909 = .ok (.ireturn, 1) := by decide +kernel
theorem dL_law__910 : decode cL_law_ 910 = .ok (.iload 5, 2) := by decide +kernel
theorem dL_law__912 : decode cL_law_ 912 = .ok (.ifCond .ne 15, 3) := by decide +kernel
theorem dL_law__915 : decode cL_law_ 915 = .ok (.aload_n 3, 1) := by decide +kernel
theorem dL_law__916 : decode cL_law_ 916 = .ok (.iconst 0, 1) := by decide +kernel
theorem dL_law__917 : decode cL_law_ 917 = .ok (.laload, 1) := by decide +kernel
theorem dL_law__918 : decode cL_law_ 918 = .ok (.iload 6, 2) := by decide +kernel
theorem dL_law__920 : decode cL_law_ 920 = .ok (.i2l, 1) := by decide +kernel
theorem dL_law__921 : decode cL_law_ 921 = .ok (.lcmp, 1) := by decide +kernel
theorem dL_law__922 : decode cL_law_ 922 = .ok (.ifCond .eq 5, 3) := by decide +kernel
theorem dL_law__925 : decode cL_law_ 925 = .ok (.iconst 0, 1) := by decide +kernel
theorem dL_law__926 : decode cL_law_ 926 = .ok (.ireturn, 1) := by decide +kernel
theorem dL_law__927 : decode cL_law_ 927 = .ok (.goto 690, 3) := by decide +kernel
theorem dL_law__930 : decode cL_law_ 930 = .ok (.aload_n 1, 1) := by decide +kernel
theorem dL_law__931 : decode cL_law_ 931 = .ok (.aload_n 0, 1) := by decide +kernel
theorem dL_law__932 : decode cL_law_ 932 = .ok (.iload 4, 2) := by decide +kernel
theorem dL_law__934 : decode cL_law_ 934 = .ok (.iconst 1, 1) := by decide +kernel
theorem dL_law__935 : decode cL_law_ 935 = .ok (.iadd, 1) := by decide +kernel
theorem dL_law__936 : decode cL_law_ 936 = .ok (.iaload, 1) := by decide +kernel
theorem dL_law__937 : decode cL_law_ 937 = .ok (.aload_n 3, 1) := by decide +kernel
theorem dL_law__938 : decode cL_law_ 938 = .ok (.invokestatic 131, 3) := by decide +kernel
theorem dL_law__941 : decode cL_law_ 941 = .ok (.istore 5, 2) := by decide +kernel
theorem dL_law__943 : decode cL_law_ 943 = .ok (.aload_n 2, 1) := by decide +kernel
theorem dL_law__944 : decode cL_law_ 944 = .ok (.aload_n 0, 1) := by decide +kernel
theorem dL_law__945 : decode cL_law_ 945 = .ok (.iload 4, 2) := by decide +kernel
theorem dL_law__947 : decode cL_law_ 947 = .ok (.iconst 1, 1) := by decide +kernel
theorem dL_law__948 : decode cL_law_ 948 = .ok (.iadd, 1) := by decide +kernel
theorem dL_law__949 : decode cL_law_ 949 = .ok (.iaload, 1) := by decide +kernel
theorem dL_law__950 : decode cL_law_ 950 = .ok (.invokevirtual 133, 3) := by decide +kernel
theorem dL_law__953 : decode cL_law_ 953 = .ok (.istore 6, 2) := by decide +kernel
theorem dL_law__955 : decode cL_law_ 955 = .ok (.aload_n 2, 1) := by decide +kernel
theorem dL_law__956 : decode cL_law_ 956 = .ok (.invokevirtual 96, 3) := by decide +kernel
theorem dL_law__959 : decode cL_law_ 959 = .ok (.iload 5, 2) := by decide +kernel
theorem dL_law__961 : decode cL_law_ 961 = .ok (.if_icmp .eq 5, 3) := by decide +kernel
theorem dL_law__964 : decode cL_law_ 964 = .ok (.iconst 0, 1) := by decide +kernel
theorem dL_law__965 : decode cL_law_ 965 = .ok (.ireturn, 1) := by decide +kernel
theorem dL_law__966 : decode cL_law_ 966 = .ok (.iload 5, 2) := by decide +kernel
theorem dL_law__968 : decode cL_law_ 968 = .ok (.ifCond .ne 15, 3) := by decide +kernel
theorem dL_law__971 : decode cL_law_ 971 = .ok (.aload_n 3, 1) := by decide +kernel
theorem dL_law__972 : decode cL_law_ 972 = .ok (.iconst 0, 1) := by decide +kernel
theorem dL_law__973 : decode cL_law_ 973 = .ok (.laload, 1) := by decide +kernel
theorem dL_law__974 : decode cL_law_ 974 = .ok (.iload 6, 2) := by decide +kernel
theorem dL_law__976 : decode cL_law_ 976 = .ok (.i2l, 1) := by decide +kernel
theorem dL_law__977 : decode cL_law_ 977 = .ok (.lcmp, 1) := by decide +kernel
theorem dL_law__978 : decode cL_law_ 978 = .ok (.ifCond .eq 5, 3) := by decide +kernel
theorem dL_law__981 : decode cL_law_ 981 = .ok (.iconst 0, 1) := by decide +kernel
theorem dL_law__982 : decode cL_law_ 982 = .ok (.ireturn, 1) := by decide +kernel
theorem dL_law__983 : decode cL_law_ 983 = .ok (.goto 634, 3) := by decide +kernel
theorem dL_law__986 : decode cL_law_ 986 = .ok (.aload_n 1, 1) := by decide +kernel
theorem dL_law__987 : decode cL_law_ 987 = .ok (.aload_n 0, 1) := by decide +kernel
theorem dL_law__988 : decode cL_law_ 988 = .ok (.iload 4, 2) := by decide +kernel
theorem dL_law__990 : decode cL_law_ 990 = .ok (.iconst 1, 1) := by decide +kernel
theorem dL_law__991 : decode cL_law_ 991 = .ok (.iadd, 1) := by decide +kernel
theorem dL_law__992 : decode cL_law_ 992 = .ok (.iaload, 1) := by decide +kernel
theorem dL_law__993 : decode cL_law_ 993 = .ok (.aload_n 3, 1) := by decide +kernel
theorem dL_law__994 : decode cL_law_ 994 = .ok (.invokestatic 134, 3) := by decide +kernel
theorem dL_law__997 : decode cL_law_ 997 = .ok (.istore 5, 2) := by decide +kernel
theorem dL_law__999 : decode cL_law_ 999 = .ok (.aload_n 2, 1) := by decide +kernel
theorem dL_law__1000 : decode cL_law_ 1000 = .ok (.aload_n 0, 1) := by decide +kernel
theorem dL_law__1001 : decode cL_law_ 1001 = .ok (.iload 4, 2) := by decide +kernel
theorem dL_law__1003 : decode cL_law_ 1003 = .ok (.iconst 1, 1) := by decide +kernel
theorem dL_law__1004 : decode cL_law_ 1004 = .ok (.iadd, 1) := by decide +kernel
theorem dL_law__1005 : decode cL_law_ 1005 = .ok (.iaload, 1) := by decide +kernel
theorem dL_law__1006 : decode cL_law_ 1006 = .ok (.invokevirtual 136, 3) := by decide +kernel
theorem dL_law__1009 : decode cL_law_ 1009 = .ok (.istore 6, 2) := by decide +kernel
theorem dL_law__1011 : decode cL_law_ 1011 = .ok (.aload_n 2, 1) := by decide +kernel
theorem dL_law__1012 : decode cL_law_ 1012 = .ok (.invokevirtual 96, 3) := by decide +kernel
theorem dL_law__1015 : decode cL_law_ 1015 = .ok (.iload 5, 2) := by decide +kernel
theorem dL_law__1017 : decode cL_law_ 1017 = .ok (.if_icmp .eq 5, 3) := by decide +kernel
theorem dL_law__1020 : decode cL_law_ 1020 = .ok (.iconst 0, 1) := by decide +kernel
theorem dL_law__1021 : decode cL_law_ 1021 = .ok (.ireturn, 1) := by decide +kernel
theorem dL_law__1022 : decode cL_law_ 1022 = .ok (.iload 5, 2) := by decide +kernel
theorem dL_law__1024 : decode cL_law_ 1024 = .ok (.ifCond .ne 15, 3) := by decide +kernel
theorem dL_law__1027 : decode cL_law_ 1027 = .ok (.aload_n 3, 1) := by decide +kernel
theorem dL_law__1028 : decode cL_law_ 1028 = .ok (.iconst 0, 1) := by decide +kernel
theorem dL_law__1029 : decode cL_law_ 1029 = .ok (.laload, 1) := by decide +kernel
theorem dL_law__1030 : decode cL_law_ 1030 = .ok (.iload 6, 2) := by decide +kernel
theorem dL_law__1032 : decode cL_law_ 1032 = .ok (.i2l, 1) := by decide +kernel
theorem dL_law__1033 : decode cL_law_ 1033 = .ok (.lcmp, 1) := by decide +kernel
theorem dL_law__1034 : decode cL_law_ 1034 = .ok (.ifCond .eq 5, 3) := by decide +kernel
theorem dL_law__1037 : decode cL_law_ 1037 = .ok (.iconst 0, 1) := by decide +kernel
theorem dL_law__1038 : decode cL_law_ 1038 = .ok (.ireturn, 1) := by decide +kernel
theorem dL_law__1039 : decode cL_law_ 1039 = .ok (.goto 578, 3) := by decide +kernel
theorem dL_law__1042 : decode cL_law_ 1042 = .ok (.aload_n 1, 1) := by decide +kernel
theorem dL_law__1043 : decode cL_law_ 1043 = .ok (.aload_n 0, 1) := by decide +kernel
theorem dL_law__1044 : decode cL_law_ 1044 = .ok (.iload 4, 2) := by decide +kernel
theorem dL_law__1046 : decode cL_law_ 1046 = .ok (.iconst 1, 1) := by decide +kernel
theorem dL_law__1047 : decode cL_law_ 1047 = .ok (.iadd, 1) := by decide +kernel
theorem dL_law__1048 : decode cL_law_ 1048 = .ok (.iaload, 1) := by decide +kernel
theorem dL_law__1049 : decode cL_law_ 1049 = .ok (.aload_n 0, 1) := by decide +kernel
theorem dL_law__1050 : decode cL_law_ 1050 = .ok (.iload 4, 2) := by decide +kernel
theorem dL_law__1052 : decode cL_law_ 1052 = .ok (.iconst 2, 1) := by decide +kernel
theorem dL_law__1053 : decode cL_law_ 1053 = .ok (.iadd, 1) := by decide +kernel
theorem dL_law__1054 : decode cL_law_ 1054 = .ok (.iaload, 1) := by decide +kernel
theorem dL_law__1055 : decode cL_law_ 1055 = .ok (.ifCond .eq 7, 3) := by decide +kernel
theorem dL_law__1058 : decode cL_law_ 1058 = .ok (.iconst 1, 1) := by decide +kernel
theorem dL_law__1059 : decode cL_law_ 1059 = .ok (.goto 4, 3) := by decide +kernel
theorem dL_law__1062 : decode cL_law_ 1062 = .ok (.iconst 0, 1) := by decide +kernel
theorem dL_law__1063 : decode cL_law_ 1063 = .ok (.aload_n 3, 1) := by decide +kernel
theorem dL_law__1064 : decode cL_law_ 1064 = .ok (.invokestatic 137, 3) := by decide +kernel
theorem dL_law__1067 : decode cL_law_ 1067 = .ok (.istore 5, 2) := by decide +kernel
theorem dL_law__1069 : decode cL_law_ 1069 = .ok (.aload_n 2, 1) := by decide +kernel
theorem dL_law__1070 : decode cL_law_ 1070 = .ok (.aload_n 0, 1) := by decide +kernel
theorem dL_law__1071 : decode cL_law_ 1071 = .ok (.iload 4, 2) := by decide +kernel
theorem dL_law__1073 : decode cL_law_ 1073 = .ok (.iconst 1, 1) := by decide +kernel
theorem dL_law__1074 : decode cL_law_ 1074 = .ok (.iadd, 1) := by decide +kernel
theorem dL_law__1075 : decode cL_law_ 1075 = .ok (.iaload, 1) := by decide +kernel
theorem dL_law__1076 : decode cL_law_ 1076 = .ok (.aload_n 0, 1) := by decide +kernel
theorem dL_law__1077 : decode cL_law_ 1077 = .ok (.iload 4, 2) := by decide +kernel
theorem dL_law__1079 : decode cL_law_ 1079 = .ok (.iconst 2, 1) := by decide +kernel
theorem dL_law__1080 : decode cL_law_ 1080 = .ok (.iadd, 1) := by decide +kernel
theorem dL_law__1081 : decode cL_law_ 1081 = .ok (.iaload, 1) := by decide +kernel
theorem dL_law__1082 : decode cL_law_ 1082 = .ok (.ifCond .eq 7, 3) := by decide +kernel
theorem dL_law__1085 : decode cL_law_ 1085 = .ok (.iconst 1, 1) := by decide +kernel
theorem dL_law__1086 : decode cL_law_ 1086 = .ok (.goto 4, 3) := by decide +kernel
theorem dL_law__1089 : decode cL_law_ 1089 = .ok (.iconst 0, 1) := by decide +kernel
theorem dL_law__1090 : decode cL_law_ 1090 = .ok (.invokevirtual 140, 3) := by decide +kernel
theorem dL_law__1093 : decode cL_law_ 1093 = .ok (.istore 6, 2) := by decide +kernel
theorem dL_law__1095 : decode cL_law_ 1095 = .ok (.aload_n 2, 1) := by decide +kernel
theorem dL_law__1096 : decode cL_law_ 1096 = .ok (.invokevirtual 96, 3) := by decide +kernel
theorem dL_law__1099 : decode cL_law_ 1099 = .ok (.iload 5, 2) := by decide +kernel
theorem dL_law__1101 : decode cL_law_ 1101 = .ok (.if_icmp .eq 5, 3) := by decide +kernel
theorem dL_law__1104 : decode cL_law_ 1104 = .ok (.iconst 0, 1) := by decide +kernel
theorem dL_law__1105 : decode cL_law_ 1105 = .ok (.ireturn, 1) := by decide +kernel
theorem dL_law__1106 : decode cL_law_ 1106 = .ok (.iload 5, 2) := by decide +kernel
theorem dL_law__1108 : decode cL_law_ 1108 = .ok (.ifCond .ne 15, 3) := by decide +kernel
theorem dL_law__1111 : decode cL_law_ 1111 = .ok (.aload_n 3, 1) := by decide +kernel
theorem dL_law__1112 : decode cL_law_ 1112 = .ok (.iconst 0, 1) := by decide +kernel
theorem dL_law__1113 : decode cL_law_ 1113 = .ok (.laload, 1) := by decide +kernel
theorem dL_law__1114 : decode cL_law_ 1114 = .ok (.iload 6, 2) := by decide +kernel
theorem dL_law__1116 : decode cL_law_ 1116 = .ok (.i2l, 1) := by decide +kernel
theorem dL_law__1117 : decode cL_law_ 1117 = .ok (.lcmp, 1) := by decide +kernel
theorem dL_law__1118 : decode cL_law_ 1118 = .ok (.ifCond .eq 5, 3) := by decide +kernel
theorem dL_law__1121 : decode cL_law_ 1121 = .ok (.iconst 0, 1) := by decide +kernel
theorem dL_law__1122 : decode cL_law_ 1122 = .ok (.ireturn, 1) := by decide +kernel
theorem dL_law__1123 : decode cL_law_ 1123 = .ok (.goto 494, 3) := by decide +kernel
theorem dL_law__1126 : decode cL_law_ 1126 = .ok (.aload_n 1, 1) := by decide +kernel
theorem dL_law__1127 : decode cL_law_ 1127 = .ok (.aload_n 0, 1) := by decide +kernel
theorem dL_law__1128 : decode cL_law_ 1128 = .ok (.iload 4, 2) := by decide +kernel
theorem dL_law__1130 : decode cL_law_ 1130 = .ok (.iconst 1, 1) := by decide +kernel
theorem dL_law__1131 : decode cL_law_ 1131 = .ok (.iadd, 1) := by decide +kernel
theorem dL_law__1132 : decode cL_law_ 1132 = .ok (.iaload, 1) := by decide +kernel
theorem dL_law__1133 : decode cL_law_ 1133 = .ok (.aload_n 3, 1) := by decide +kernel
theorem dL_law__1134 : decode cL_law_ 1134 = .ok (.invokestatic 141, 3) := by decide +kernel
theorem dL_law__1137 : decode cL_law_ 1137 = .ok (.istore 5, 2) := by decide +kernel
theorem dL_law__1139 : decode cL_law_ 1139 = .ok (.aload_n 2, 1) := by decide +kernel
theorem dL_law__1140 : decode cL_law_ 1140 = .ok (.aload_n 0, 1) := by decide +kernel
theorem dL_law__1141 : decode cL_law_ 1141 = .ok (.iload 4, 2) := by decide +kernel
theorem dL_law__1143 : decode cL_law_ 1143 = .ok (.iconst 1, 1) := by decide +kernel
theorem dL_law__1144 : decode cL_law_ 1144 = .ok (.iadd, 1) := by decide +kernel
theorem dL_law__1145 : decode cL_law_ 1145 = .ok (.iaload, 1) := by decide +kernel
theorem dL_law__1146 : decode cL_law_ 1146 = .ok (.invokevirtual 143, 3) := by decide +kernel
theorem dL_law__1149 : decode cL_law_ 1149 = .ok (.istore 6, 2) := by decide +kernel
theorem dL_law__1151 : decode cL_law_ 1151 = .ok (.aload_n 2, 1) := by decide +kernel
theorem dL_law__1152 : decode cL_law_ 1152 = .ok (.invokevirtual 96, 3) := by decide +kernel
theorem dL_law__1155 : decode cL_law_ 1155 = .ok (.iload 5, 2) := by decide +kernel
theorem dL_law__1157 : decode cL_law_ 1157 = .ok (.if_icmp .eq 5, 3) := by decide +kernel
theorem dL_law__1160 : decode cL_law_ 1160 = .ok (.iconst 0, 1) := by decide +kernel
theorem dL_law__1161 : decode cL_law_ 1161 = .ok (.ireturn, 1) := by decide +kernel
theorem dL_law__1162 : decode cL_law_ 1162 = .ok (.iload 5, 2) := by decide +kernel
theorem dL_law__1164 : decode cL_law_ 1164 = .ok (.ifCond .ne 15, 3) := by decide +kernel
theorem dL_law__1167 : decode cL_law_ 1167 = .ok (.aload_n 3, 1) := by decide +kernel
theorem dL_law__1168 : decode cL_law_ 1168 = .ok (.iconst 0, 1) := by decide +kernel
theorem dL_law__1169 : decode cL_law_ 1169 = .ok (.laload, 1) := by decide +kernel
theorem dL_law__1170 : decode cL_law_ 1170 = .ok (.iload 6, 2) := by decide +kernel
theorem dL_law__1172 : decode cL_law_ 1172 = .ok (.i2l, 1) := by decide +kernel
theorem dL_law__1173 : decode cL_law_ 1173 = .ok (.lcmp, 1) := by decide +kernel
theorem dL_law__1174 : decode cL_law_ 1174 = .ok (.ifCond .eq 5, 3) := by decide +kernel
theorem dL_law__1177 : decode cL_law_ 1177 = .ok (.iconst 0, 1) := by decide +kernel
theorem dL_law__1178 : decode cL_law_ 1178 = .ok (.ireturn, 1) := by decide +kernel
theorem dL_law__1179 : decode cL_law_ 1179 = .ok (.goto 438, 3) := by decide +kernel
theorem dL_law__1182 : decode cL_law_ 1182 = .ok (.aload_n 1, 1) := by decide +kernel
theorem dL_law__1183 : decode cL_law_ 1183 = .ok (.aload_n 0, 1) := by decide +kernel
theorem dL_law__1184 : decode cL_law_ 1184 = .ok (.iload 4, 2) := by decide +kernel
theorem dL_law__1186 : decode cL_law_ 1186 = .ok (.iconst 1, 1) := by decide +kernel
theorem dL_law__1187 : decode cL_law_ 1187 = .ok (.iadd, 1) := by decide +kernel
theorem dL_law__1188 : decode cL_law_ 1188 = .ok (.iaload, 1) := by decide +kernel
theorem dL_law__1189 : decode cL_law_ 1189 = .ok (.aload_n 0, 1) := by decide +kernel
theorem dL_law__1190 : decode cL_law_ 1190 = .ok (.iload 4, 2) := by decide +kernel
theorem dL_law__1192 : decode cL_law_ 1192 = .ok (.iconst 2, 1) := by decide +kernel
theorem dL_law__1193 : decode cL_law_ 1193 = .ok (.iadd, 1) := by decide +kernel
theorem dL_law__1194 : decode cL_law_ 1194 = .ok (.iaload, 1) := by decide +kernel
theorem dL_law__1195 : decode cL_law_ 1195 = .ok (.aload_n 3, 1) := by decide +kernel
theorem dL_law__1196 : decode cL_law_ 1196 = .ok (.invokestatic 144, 3) := by decide +kernel
theorem dL_law__1199 : decode cL_law_ 1199 = .ok (.istore 5, 2) := by decide +kernel
theorem dL_law__1201 : decode cL_law_ 1201 = .ok (.aload_n 2, 1) := by decide +kernel
theorem dL_law__1202 : decode cL_law_ 1202 = .ok (.aload_n 0, 1) := by decide +kernel
theorem dL_law__1203 : decode cL_law_ 1203 = .ok (.iload 4, 2) := by decide +kernel
theorem dL_law__1205 : decode cL_law_ 1205 = .ok (.iconst 1, 1) := by decide +kernel
theorem dL_law__1206 : decode cL_law_ 1206 = .ok (.iadd, 1) := by decide +kernel
theorem dL_law__1207 : decode cL_law_ 1207 = .ok (.iaload, 1) := by decide +kernel
theorem dL_law__1208 : decode cL_law_ 1208 = .ok (.aload_n 0, 1) := by decide +kernel
theorem dL_law__1209 : decode cL_law_ 1209 = .ok (.iload 4, 2) := by decide +kernel
theorem dL_law__1211 : decode cL_law_ 1211 = .ok (.iconst 2, 1) := by decide +kernel
theorem dL_law__1212 : decode cL_law_ 1212 = .ok (.iadd, 1) := by decide +kernel
theorem dL_law__1213 : decode cL_law_ 1213 = .ok (.iaload, 1) := by decide +kernel
theorem dL_law__1214 : decode cL_law_ 1214 = .ok (.invokevirtual 146, 3) := by decide +kernel
theorem dL_law__1217 : decode cL_law_ 1217 = .ok (.lstore 6, 2) := by decide +kernel
theorem dL_law__1219 : decode cL_law_ 1219 = .ok (.aload_n 2, 1) := by decide +kernel
theorem dL_law__1220 : decode cL_law_ 1220 = .ok (.invokevirtual 96, 3) := by decide +kernel
theorem dL_law__1223 : decode cL_law_ 1223 = .ok (.iload 5, 2) := by decide +kernel
theorem dL_law__1225 : decode cL_law_ 1225 = .ok (.if_icmp .eq 5, 3) := by decide +kernel
theorem dL_law__1228 : decode cL_law_ 1228 = .ok (.iconst 0, 1) := by decide +kernel
theorem dL_law__1229 : decode cL_law_ 1229 = .ok (.ireturn, 1) := by decide +kernel
theorem dL_law__1230 : decode cL_law_ 1230 = .ok (.iload 5, 2) := by decide +kernel
theorem dL_law__1232 : decode cL_law_ 1232 = .ok (.ifCond .ne 14, 3) := by decide +kernel
theorem dL_law__1235 : decode cL_law_ 1235 = .ok (.aload_n 3, 1) := by decide +kernel
theorem dL_law__1236 : decode cL_law_ 1236 = .ok (.iconst 0, 1) := by decide +kernel
theorem dL_law__1237 : decode cL_law_ 1237 = .ok (.laload, 1) := by decide +kernel
theorem dL_law__1238 : decode cL_law_ 1238 = .ok (.lload 6, 2) := by decide +kernel
theorem dL_law__1240 : decode cL_law_ 1240 = .ok (.lcmp, 1) := by decide +kernel
theorem dL_law__1241 : decode cL_law_ 1241 = .ok (.ifCond .eq 5, 3) := by decide +kernel
theorem dL_law__1244 : decode cL_law_ 1244 = .ok (.iconst 0, 1) := by decide +kernel
theorem dL_law__1245 : decode cL_law_ 1245 = .ok (.ireturn, 1) := by decide +kernel
theorem dL_law__1246 : decode cL_law_ 1246 = .ok (.goto 371, 3) := by decide +kernel
theorem dL_law__1249 : decode cL_law_ 1249 = .ok (.aload_n 1, 1) := by decide +kernel
theorem dL_law__1250 : decode cL_law_ 1250 = .ok (.aload_n 0, 1) := by decide +kernel
theorem dL_law__1251 : decode cL_law_ 1251 = .ok (.iload 4, 2) := by decide +kernel
theorem dL_law__1253 : decode cL_law_ 1253 = .ok (.iconst 1, 1) := by decide +kernel
theorem dL_law__1254 : decode cL_law_ 1254 = .ok (.iadd, 1) := by decide +kernel
theorem dL_law__1255 : decode cL_law_ 1255 = .ok (.iaload, 1) := by decide +kernel
theorem dL_law__1256 : decode cL_law_ 1256 = .ok (.aload_n 0, 1) := by decide +kernel
theorem dL_law__1257 : decode cL_law_ 1257 = .ok (.iload 4, 2) := by decide +kernel
theorem dL_law__1259 : decode cL_law_ 1259 = .ok (.iconst 2, 1) := by decide +kernel
theorem dL_law__1260 : decode cL_law_ 1260 = .ok (.iadd, 1) := by decide +kernel
theorem dL_law__1261 : decode cL_law_ 1261 = .ok (.iaload, 1) := by decide +kernel
theorem dL_law__1262 : decode cL_law_ 1262 = .ok (.aload_n 3, 1) := by decide +kernel
theorem dL_law__1263 : decode cL_law_ 1263 = .ok (.invokestatic 147, 3) := by decide +kernel
theorem dL_law__1266 : decode cL_law_ 1266 = .ok (.istore 5, 2) := by decide +kernel
theorem dL_law__1268 : decode cL_law_ 1268 = .ok (.aload_n 2, 1) := by decide +kernel
theorem dL_law__1269 : decode cL_law_ 1269 = .ok (.aload_n 0, 1) := by decide +kernel
theorem dL_law__1270 : decode cL_law_ 1270 = .ok (.iload 4, 2) := by decide +kernel
theorem dL_law__1272 : decode cL_law_ 1272 = .ok (.iconst 1, 1) := by decide +kernel
theorem dL_law__1273 : decode cL_law_ 1273 = .ok (.iadd, 1) := by decide +kernel
theorem dL_law__1274 : decode cL_law_ 1274 = .ok (.iaload, 1) := by decide +kernel
theorem dL_law__1275 : decode cL_law_ 1275 = .ok (.aload_n 0, 1) := by decide +kernel
theorem dL_law__1276 : decode cL_law_ 1276 = .ok (.iload 4, 2) := by decide +kernel
theorem dL_law__1278 : decode cL_law_ 1278 = .ok (.iconst 2, 1) := by decide +kernel
theorem dL_law__1279 : decode cL_law_ 1279 = .ok (.iadd, 1) := by decide +kernel
theorem dL_law__1280 : decode cL_law_ 1280 = .ok (.iaload, 1) := by decide +kernel
theorem dL_law__1281 : decode cL_law_ 1281 = .ok (.invokevirtual 149, 3) := by decide +kernel
theorem dL_law__1284 : decode cL_law_ 1284 = .ok (.lstore 6, 2) := by decide +kernel
theorem dL_law__1286 : decode cL_law_ 1286 = .ok (.aload_n 2, 1) := by decide +kernel
theorem dL_law__1287 : decode cL_law_ 1287 = .ok (.invokevirtual 96, 3) := by decide +kernel
theorem dL_law__1290 : decode cL_law_ 1290 = .ok (.iload 5, 2) := by decide +kernel
theorem dL_law__1292 : decode cL_law_ 1292 = .ok (.if_icmp .eq 5, 3) := by decide +kernel
theorem dL_law__1295 : decode cL_law_ 1295 = .ok (.iconst 0, 1) := by decide +kernel
theorem dL_law__1296 : decode cL_law_ 1296 = .ok (.ireturn, 1) := by decide +kernel
theorem dL_law__1297 : decode cL_law_ 1297 = .ok (.iload 5, 2) := by decide +kernel
theorem dL_law__1299 : decode cL_law_ 1299 = .ok (.ifCond .ne 14, 3) := by decide +kernel
theorem dL_law__1302 : decode cL_law_ 1302 = .ok (.aload_n 3, 1) := by decide +kernel
theorem dL_law__1303 : decode cL_law_ 1303 = .ok (.iconst 0, 1) := by decide +kernel
theorem dL_law__1304 : decode cL_law_ 1304 = .ok (.laload, 1) := by decide +kernel
theorem dL_law__1305 : decode cL_law_ 1305 = .ok (.lload 6, 2) := by decide +kernel
theorem dL_law__1307 : decode cL_law_ 1307 = .ok (.lcmp, 1) := by decide +kernel
theorem dL_law__1308 : decode cL_law_ 1308 = .ok (.ifCond .eq 5, 3) := by decide +kernel
theorem dL_law__1311 : decode cL_law_ 1311 = .ok (.iconst 0, 1) := by decide +kernel
theorem dL_law__1312 : decode cL_law_ 1312 = .ok (.ireturn, 1) := by decide +kernel
theorem dL_law__1313 : decode cL_law_ 1313 = .ok (.goto 304, 3) := by decide +kernel
theorem dL_law__1316 : decode cL_law_ 1316 = .ok (.aload_n 1, 1) := by decide +kernel
theorem dL_law__1317 : decode cL_law_ 1317 = .ok (.aload_n 0, 1) := by decide +kernel
theorem dL_law__1318 : decode cL_law_ 1318 = .ok (.iload 4, 2) := by decide +kernel
theorem dL_law__1320 : decode cL_law_ 1320 = .ok (.iconst 1, 1) := by decide +kernel
theorem dL_law__1321 : decode cL_law_ 1321 = .ok (.iadd, 1) := by decide +kernel
theorem dL_law__1322 : decode cL_law_ 1322 = .ok (.iaload, 1) := by decide +kernel
theorem dL_law__1323 : decode cL_law_ 1323 = .ok (.aload_n 3, 1) := by decide +kernel
theorem dL_law__1324 : decode cL_law_ 1324 = .ok (.invokestatic 150, 3) := by decide +kernel
theorem dL_law__1327 : decode cL_law_ 1327 = .ok (.istore 5, 2) := by decide +kernel
theorem dL_law__1329 : decode cL_law_ 1329 = .ok (.aload_n 2, 1) := by decide +kernel
theorem dL_law__1330 : decode cL_law_ 1330 = .ok (.aload_n 0, 1) := by decide +kernel
theorem dL_law__1331 : decode cL_law_ 1331 = .ok (.iload 4, 2) := by decide +kernel
theorem dL_law__1333 : decode cL_law_ 1333 = .ok (.iconst 1, 1) := by decide +kernel
theorem dL_law__1334 : decode cL_law_ 1334 = .ok (.iadd, 1) := by decide +kernel
theorem dL_law__1335 : decode cL_law_ 1335 = .ok (.iaload, 1) := by decide +kernel
theorem dL_law__1336 : decode cL_law_ 1336 = .ok (.invokevirtual 152, 3) := by decide +kernel
theorem dL_law__1339 : decode cL_law_ 1339 = .ok (.istore 6, 2) := by decide +kernel
theorem dL_law__1341 : decode cL_law_ 1341 = .ok (.aload_n 2, 1) := by decide +kernel
theorem dL_law__1342 : decode cL_law_ 1342 = .ok (.invokevirtual 96, 3) := by decide +kernel
theorem dL_law__1345 : decode cL_law_ 1345 = .ok (.iload 5, 2) := by decide +kernel
theorem dL_law__1347 : decode cL_law_ 1347 = .ok (.if_icmp .eq 5, 3) := by decide +kernel
theorem dL_law__1350 : decode cL_law_ 1350 = .ok (.iconst 0, 1) := by decide +kernel
theorem dL_law__1351 : decode cL_law_ 1351 = .ok (.ireturn, 1) := by decide +kernel
theorem dL_law__1352 : decode cL_law_ 1352 = .ok (.iload 5, 2) := by decide +kernel
theorem dL_law__1354 : decode cL_law_ 1354 = .ok (.ifCond .ne 15, 3) := by decide +kernel
theorem dL_law__1357 : decode cL_law_ 1357 = .ok (.aload_n 3, 1) := by decide +kernel
theorem dL_law__1358 : decode cL_law_ 1358 = .ok (.iconst 0, 1) := by decide +kernel
theorem dL_law__1359 : decode cL_law_ 1359 = .ok (.laload, 1) := by decide +kernel
theorem dL_law__1360 : decode cL_law_ 1360 = .ok (.iload 6, 2) := by decide +kernel
theorem dL_law__1362 : decode cL_law_ 1362 = .ok (.i2l, 1) := by decide +kernel
theorem dL_law__1363 : decode cL_law_ 1363 = .ok (.lcmp, 1) := by decide +kernel
theorem dL_law__1364 : decode cL_law_ 1364 = .ok (.ifCond .eq 5, 3) := by decide +kernel
theorem dL_law__1367 : decode cL_law_ 1367 = .ok (.iconst 0, 1) := by decide +kernel
theorem dL_law__1368 : decode cL_law_ 1368 = .ok (.ireturn, 1) := by decide +kernel
theorem dL_law__1369 : decode cL_law_ 1369 = .ok (.goto 248, 3) := by decide +kernel
theorem dL_law__1372 : decode cL_law_ 1372 = .ok (.aload_n 1, 1) := by decide +kernel
theorem dL_law__1373 : decode cL_law_ 1373 = .ok (.aload_n 0, 1) := by decide +kernel
theorem dL_law__1374 : decode cL_law_ 1374 = .ok (.iload 4, 2) := by decide +kernel
theorem dL_law__1376 : decode cL_law_ 1376 = .ok (.iconst 1, 1) := by decide +kernel
theorem dL_law__1377 : decode cL_law_ 1377 = .ok (.iadd, 1) := by decide +kernel
theorem dL_law__1378 : decode cL_law_ 1378 = .ok (.iaload, 1) := by decide +kernel
theorem dL_law__1379 : decode cL_law_ 1379 = .ok (.aload_n 3, 1) := by decide +kernel
theorem dL_law__1380 : decode cL_law_ 1380 = .ok (.invokestatic 153, 3) := by decide +kernel
theorem dL_law__1383 : decode cL_law_ 1383 = .ok (.istore 5, 2) := by decide +kernel
theorem dL_law__1385 : decode cL_law_ 1385 = .ok (.aload_n 2, 1) := by decide +kernel
theorem dL_law__1386 : decode cL_law_ 1386 = .ok (.aload_n 0, 1) := by decide +kernel
theorem dL_law__1387 : decode cL_law_ 1387 = .ok (.iload 4, 2) := by decide +kernel
theorem dL_law__1389 : decode cL_law_ 1389 = .ok (.iconst 1, 1) := by decide +kernel
theorem dL_law__1390 : decode cL_law_ 1390 = .ok (.iadd, 1) := by decide +kernel
theorem dL_law__1391 : decode cL_law_ 1391 = .ok (.iaload, 1) := by decide +kernel
theorem dL_law__1392 : decode cL_law_ 1392 = .ok (.invokevirtual 155, 3) := by decide +kernel
theorem dL_law__1395 : decode cL_law_ 1395 = .ok (.istore 6, 2) := by decide +kernel
theorem dL_law__1397 : decode cL_law_ 1397 = .ok (.aload_n 2, 1) := by decide +kernel
theorem dL_law__1398 : decode cL_law_ 1398 = .ok (.invokevirtual 96, 3) := by decide +kernel
theorem dL_law__1401 : decode cL_law_ 1401 = .ok (.iload 5, 2) := by decide +kernel
theorem dL_law__1403 : decode cL_law_ 1403 = .ok (.if_icmp .eq 5, 3) := by decide +kernel
theorem dL_law__1406 : decode cL_law_ 1406 = .ok (.iconst 0, 1) := by decide +kernel
theorem dL_law__1407 : decode cL_law_ 1407 = .ok (.ireturn, 1) := by decide +kernel
theorem dL_law__1408 : decode cL_law_ 1408 = .ok (.iload 5, 2) := by decide +kernel
theorem dL_law__1410 : decode cL_law_ 1410 = .ok (.ifCond .ne 15, 3) := by decide +kernel
theorem dL_law__1413 : decode cL_law_ 1413 = .ok (.aload_n 3, 1) := by decide +kernel
theorem dL_law__1414 : decode cL_law_ 1414 = .ok (.iconst 0, 1) := by decide +kernel
theorem dL_law__1415 : decode cL_law_ 1415 = .ok (.laload, 1) := by decide +kernel
theorem dL_law__1416 : decode cL_law_ 1416 = .ok (.iload 6, 2) := by decide +kernel
theorem dL_law__1418 : decode cL_law_ 1418 = .ok (.i2l, 1) := by decide +kernel
theorem dL_law__1419 : decode cL_law_ 1419 = .ok (.lcmp, 1) := by decide +kernel
theorem dL_law__1420 : decode cL_law_ 1420 = .ok (.ifCond .eq 5, 3) := by decide +kernel
theorem dL_law__1423 : decode cL_law_ 1423 = .ok (.iconst 0, 1) := by decide +kernel
theorem dL_law__1424 : decode cL_law_ 1424 = .ok (.ireturn, 1) := by decide +kernel
theorem dL_law__1425 : decode cL_law_ 1425 = .ok (.goto 192, 3) := by decide +kernel
theorem dL_law__1428 : decode cL_law_ 1428 = .ok (.aload_n 1, 1) := by decide +kernel
theorem dL_law__1429 : decode cL_law_ 1429 = .ok (.aload_n 0, 1) := by decide +kernel
theorem dL_law__1430 : decode cL_law_ 1430 = .ok (.iload 4, 2) := by decide +kernel
theorem dL_law__1432 : decode cL_law_ 1432 = .ok (.iconst 1, 1) := by decide +kernel
theorem dL_law__1433 : decode cL_law_ 1433 = .ok (.iadd, 1) := by decide +kernel
theorem dL_law__1434 : decode cL_law_ 1434 = .ok (.iaload, 1) := by decide +kernel
theorem dL_law__1435 : decode cL_law_ 1435 = .ok (.aload_n 0, 1) := by decide +kernel
theorem dL_law__1436 : decode cL_law_ 1436 = .ok (.iload 4, 2) := by decide +kernel
theorem dL_law__1438 : decode cL_law_ 1438 = .ok (.iconst 2, 1) := by decide +kernel
theorem dL_law__1439 : decode cL_law_ 1439 = .ok (.iadd, 1) := by decide +kernel
theorem dL_law__1440 : decode cL_law_ 1440 = .ok (.iaload, 1) := by decide +kernel
theorem dL_law__1441 : decode cL_law_ 1441 = .ok (.aload_n 3, 1) := by decide +kernel
theorem dL_law__1442 : decode cL_law_ 1442 = .ok (.invokestatic 156, 3) := by decide +kernel
theorem dL_law__1445 : decode cL_law_ 1445 = .ok (.istore 5, 2) := by decide +kernel
theorem dL_law__1447 : decode cL_law_ 1447 = .ok (.aload_n 2, 1) := by decide +kernel
theorem dL_law__1448 : decode cL_law_ 1448 = .ok (.aload_n 0, 1) := by decide +kernel
theorem dL_law__1449 : decode cL_law_ 1449 = .ok (.iload 4, 2) := by decide +kernel
theorem dL_law__1451 : decode cL_law_ 1451 = .ok (.iconst 1, 1) := by decide +kernel
theorem dL_law__1452 : decode cL_law_ 1452 = .ok (.iadd, 1) := by decide +kernel
theorem dL_law__1453 : decode cL_law_ 1453 = .ok (.iaload, 1) := by decide +kernel
theorem dL_law__1454 : decode cL_law_ 1454 = .ok (.aload_n 0, 1) := by decide +kernel
theorem dL_law__1455 : decode cL_law_ 1455 = .ok (.iload 4, 2) := by decide +kernel
theorem dL_law__1457 : decode cL_law_ 1457 = .ok (.iconst 2, 1) := by decide +kernel
theorem dL_law__1458 : decode cL_law_ 1458 = .ok (.iadd, 1) := by decide +kernel
theorem dL_law__1459 : decode cL_law_ 1459 = .ok (.iaload, 1) := by decide +kernel
theorem dL_law__1460 : decode cL_law_ 1460 = .ok (.invokevirtual 158, 3) := by decide +kernel
theorem dL_law__1463 : decode cL_law_ 1463 = .ok (.lstore 6, 2) := by decide +kernel
theorem dL_law__1465 : decode cL_law_ 1465 = .ok (.aload_n 2, 1) := by decide +kernel
theorem dL_law__1466 : decode cL_law_ 1466 = .ok (.invokevirtual 96, 3) := by decide +kernel
theorem dL_law__1469 : decode cL_law_ 1469 = .ok (.iload 5, 2) := by decide +kernel
theorem dL_law__1471 : decode cL_law_ 1471 = .ok (.if_icmp .eq 5, 3) := by decide +kernel
theorem dL_law__1474 : decode cL_law_ 1474 = .ok (.iconst 0, 1) := by decide +kernel
theorem dL_law__1475 : decode cL_law_ 1475 = .ok (.ireturn, 1) := by decide +kernel
theorem dL_law__1476 : decode cL_law_ 1476 = .ok (.iload 5, 2) := by decide +kernel
theorem dL_law__1478 : decode cL_law_ 1478 = .ok (.ifCond .ne 14, 3) := by decide +kernel
theorem dL_law__1481 : decode cL_law_ 1481 = .ok (.aload_n 3, 1) := by decide +kernel
theorem dL_law__1482 : decode cL_law_ 1482 = .ok (.iconst 0, 1) := by decide +kernel
theorem dL_law__1483 : decode cL_law_ 1483 = .ok (.laload, 1) := by decide +kernel
theorem dL_law__1484 : decode cL_law_ 1484 = .ok (.lload 6, 2) := by decide +kernel
theorem dL_law__1486 : decode cL_law_ 1486 = .ok (.lcmp, 1) := by decide +kernel
theorem dL_law__1487 : decode cL_law_ 1487 = .ok (.ifCond .eq 5, 3) := by decide +kernel
theorem dL_law__1490 : decode cL_law_ 1490 = .ok (.iconst 0, 1) := by decide +kernel
theorem dL_law__1491 : decode cL_law_ 1491 = .ok (.ireturn, 1) := by decide +kernel
theorem dL_law__1492 : decode cL_law_ 1492 = .ok (.goto 125, 3) := by decide +kernel
theorem dL_law__1495 : decode cL_law_ 1495 = .ok (.aload_n 1, 1) := by decide +kernel
theorem dL_law__1496 : decode cL_law_ 1496 = .ok (.aload_n 0, 1) := by decide +kernel
theorem dL_law__1497 : decode cL_law_ 1497 = .ok (.iload 4, 2) := by decide +kernel
theorem dL_law__1499 : decode cL_law_ 1499 = .ok (.iconst 1, 1) := by decide +kernel
theorem dL_law__1500 : decode cL_law_ 1500 = .ok (.iadd, 1) := by decide +kernel
theorem dL_law__1501 : decode cL_law_ 1501 = .ok (.iaload, 1) := by decide +kernel
theorem dL_law__1502 : decode cL_law_ 1502 = .ok (.aload_n 0, 1) := by decide +kernel
theorem dL_law__1503 : decode cL_law_ 1503 = .ok (.iload 4, 2) := by decide +kernel
theorem dL_law__1505 : decode cL_law_ 1505 = .ok (.iconst 2, 1) := by decide +kernel
theorem dL_law__1506 : decode cL_law_ 1506 = .ok (.iadd, 1) := by decide +kernel
theorem dL_law__1507 : decode cL_law_ 1507 = .ok (.iaload, 1) := by decide +kernel
theorem dL_law__1508 : decode cL_law_ 1508 = .ok (.aload_n 3, 1) := by decide +kernel
theorem dL_law__1509 : decode cL_law_ 1509 = .ok (.invokestatic 159, 3) := by decide +kernel
theorem dL_law__1512 : decode cL_law_ 1512 = .ok (.istore 5, 2) := by decide +kernel
theorem dL_law__1514 : decode cL_law_ 1514 = .ok (.aload_n 2, 1) := by decide +kernel
theorem dL_law__1515 : decode cL_law_ 1515 = .ok (.aload_n 0, 1) := by decide +kernel
theorem dL_law__1516 : decode cL_law_ 1516 = .ok (.iload 4, 2) := by decide +kernel
theorem dL_law__1518 : decode cL_law_ 1518 = .ok (.iconst 1, 1) := by decide +kernel
theorem dL_law__1519 : decode cL_law_ 1519 = .ok (.iadd, 1) := by decide +kernel
theorem dL_law__1520 : decode cL_law_ 1520 = .ok (.iaload, 1) := by decide +kernel
theorem dL_law__1521 : decode cL_law_ 1521 = .ok (.aload_n 0, 1) := by decide +kernel
theorem dL_law__1522 : decode cL_law_ 1522 = .ok (.iload 4, 2) := by decide +kernel
theorem dL_law__1524 : decode cL_law_ 1524 = .ok (.iconst 2, 1) := by decide +kernel
theorem dL_law__1525 : decode cL_law_ 1525 = .ok (.iadd, 1) := by decide +kernel
theorem dL_law__1526 : decode cL_law_ 1526 = .ok (.iaload, 1) := by decide +kernel
theorem dL_law__1527 : decode cL_law_ 1527 = .ok (.invokevirtual 161, 3) := by decide +kernel
theorem dL_law__1530 : decode cL_law_ 1530 = .ok (.lstore 6, 2) := by decide +kernel
theorem dL_law__1532 : decode cL_law_ 1532 = .ok (.aload_n 2, 1) := by decide +kernel
theorem dL_law__1533 : decode cL_law_ 1533 = .ok (.invokevirtual 96, 3) := by decide +kernel
theorem dL_law__1536 : decode cL_law_ 1536 = .ok (.iload 5, 2) := by decide +kernel
theorem dL_law__1538 : decode cL_law_ 1538 = .ok (.if_icmp .eq 5, 3) := by decide +kernel
theorem dL_law__1541 : decode cL_law_ 1541 = .ok (.iconst 0, 1) := by decide +kernel
theorem dL_law__1542 : decode cL_law_ 1542 = .ok (.ireturn, 1) := by decide +kernel
theorem dL_law__1543 : decode cL_law_ 1543 = .ok (.iload 5, 2) := by decide +kernel
theorem dL_law__1545 : decode cL_law_ 1545 = .ok (.ifCond .ne 14, 3) := by decide +kernel
theorem dL_law__1548 : decode cL_law_ 1548 = .ok (.aload_n 3, 1) := by decide +kernel
theorem dL_law__1549 : decode cL_law_ 1549 = .ok (.iconst 0, 1) := by decide +kernel
theorem dL_law__1550 : decode cL_law_ 1550 = .ok (.laload, 1) := by decide +kernel
theorem dL_law__1551 : decode cL_law_ 1551 = .ok (.lload 6, 2) := by decide +kernel
theorem dL_law__1553 : decode cL_law_ 1553 = .ok (.lcmp, 1) := by decide +kernel
theorem dL_law__1554 : decode cL_law_ 1554 = .ok (.ifCond .eq 5, 3) := by decide +kernel
theorem dL_law__1557 : decode cL_law_ 1557 = .ok (.iconst 0, 1) := by decide +kernel
theorem dL_law__1558 : decode cL_law_ 1558 = .ok (.ireturn, 1) := by decide +kernel
theorem dL_law__1559 : decode cL_law_ 1559 = .ok (.goto 58, 3) := by decide +kernel
theorem dL_law__1562 : decode cL_law_ 1562 = .ok (.aload_n 1, 1) := by decide +kernel
theorem dL_law__1563 : decode cL_law_ 1563 = .ok (.aload_n 0, 1) := by decide +kernel
theorem dL_law__1564 : decode cL_law_ 1564 = .ok (.iload 4, 2) := by decide +kernel
theorem dL_law__1566 : decode cL_law_ 1566 = .ok (.iconst 1, 1) := by decide +kernel
theorem dL_law__1567 : decode cL_law_ 1567 = .ok (.iadd, 1) := by decide +kernel
theorem dL_law__1568 : decode cL_law_ 1568 = .ok (.iaload, 1) := by decide +kernel
theorem dL_law__1569 : decode cL_law_ 1569 = .ok (.aload_n 3, 1) := by decide +kernel
theorem dL_law__1570 : decode cL_law_ 1570 = .ok (.invokestatic 162, 3) := by decide +kernel
theorem dL_law__1573 : decode cL_law_ 1573 = .ok (.istore 5, 2) := by decide +kernel
theorem dL_law__1575 : decode cL_law_ 1575 = .ok (.aload_n 2, 1) := by decide +kernel
theorem dL_law__1576 : decode cL_law_ 1576 = .ok (.aload_n 0, 1) := by decide +kernel
theorem dL_law__1577 : decode cL_law_ 1577 = .ok (.iload 4, 2) := by decide +kernel
theorem dL_law__1579 : decode cL_law_ 1579 = .ok (.iconst 1, 1) := by decide +kernel
theorem dL_law__1580 : decode cL_law_ 1580 = .ok (.iadd, 1) := by decide +kernel
theorem dL_law__1581 : decode cL_law_ 1581 = .ok (.iaload, 1) := by decide +kernel
theorem dL_law__1582 : decode cL_law_ 1582 = .ok (.invokevirtual 164, 3) := by decide +kernel
theorem dL_law__1585 : decode cL_law_ 1585 = .ok (.lstore 6, 2) := by decide +kernel
theorem dL_law__1587 : decode cL_law_ 1587 = .ok (.aload_n 2, 1) := by decide +kernel
theorem dL_law__1588 : decode cL_law_ 1588 = .ok (.invokevirtual 96, 3) := by decide +kernel
theorem dL_law__1591 : decode cL_law_ 1591 = .ok (.iload 5, 2) := by decide +kernel
theorem dL_law__1593 : decode cL_law_ 1593 = .ok (.if_icmp .eq 5, 3) := by decide +kernel
theorem dL_law__1596 : decode cL_law_ 1596 = .ok (.iconst 0, 1) := by decide +kernel
theorem dL_law__1597 : decode cL_law_ 1597 = .ok (.ireturn, 1) := by decide +kernel
theorem dL_law__1598 : decode cL_law_ 1598 = .ok (.iload 5, 2) := by decide +kernel
theorem dL_law__1600 : decode cL_law_ 1600 = .ok (.ifCond .ne 14, 3) := by decide +kernel
theorem dL_law__1603 : decode cL_law_ 1603 = .ok (.aload_n 3, 1) := by decide +kernel
theorem dL_law__1604 : decode cL_law_ 1604 = .ok (.iconst 0, 1) := by decide +kernel
theorem dL_law__1605 : decode cL_law_ 1605 = .ok (.laload, 1) := by decide +kernel
theorem dL_law__1606 : decode cL_law_ 1606 = .ok (.lload 6, 2) := by decide +kernel
theorem dL_law__1608 : decode cL_law_ 1608 = .ok (.lcmp, 1) := by decide +kernel
theorem dL_law__1609 : decode cL_law_ 1609 = .ok (.ifCond .eq 5, 3) := by decide +kernel
theorem dL_law__1612 : decode cL_law_ 1612 = .ok (.iconst 0, 1) := by decide +kernel
theorem dL_law__1613 : decode cL_law_ 1613 = .ok (.ireturn, 1) := by decide +kernel
theorem dL_law__1614 : decode cL_law_ 1614 = .ok (.goto 3, 3) := by decide +kernel
theorem dL_law__1617 : decode cL_law_ 1617 = .ok (.iinc 4 7, 3) := by decide +kernel
theorem dL_law__1620 : decode cL_law_ 1620 = .ok (.goto (-1597), 3) := by decide +kernel
theorem dL_law__1623 : decode cL_law_ 1623 = .ok (.iconst 1, 1) := by decide +kernel
theorem dL_law__1624 : decode cL_law_ 1624 = .ok (.ireturn, 1) := by decide +kernel
