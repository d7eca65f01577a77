theorem dX0_init_0 : decode cX0_init 0 = .ok (.aload_n 0, 1) := by decide +kernel
theorem dX0_init_1 : decode cX0_init 1 = .ok (.invokespecial 3, 3) := by decide +kernel
theorem dX0_init_4 : decode cX0_init 4 = .ok (.aload_n 0, 1) := by decide +kernel
theorem dX0_init_5 : decode cX0_init 5 = .ok (.bipush 7, 2) := by decide +kernel
theorem dX0_init_7 : decode cX0_init 7 = .ok (.anewarray 11, 3) := by decide +kernel
theorem dX0_init_10 : decode cX0_init 10 = .ok (.putfield 13, 3) := by decide +kernel
theorem dX0_init_13 : decode cX0_init 13 = .ok (.iconst 0, 1) := by decide +kernel
theorem dX0_init_14 : decode cX0_init 14 = .ok (.istore_n 1, 1) := by decide +kernel
theorem dX0_init_15 : decode cX0_init 15 = .ok (.iload_n 1, 1) := by decide +kernel
theorem dX0_init_16 : decode cX0_init 16 = .ok (.bipush 7, 2) := by decide +kernel
theorem dX0_init_18 : decode cX0_init 18 = .ok (.if_icmp .ge 22, 3) := by decide +kernel
theorem dX0_init_21 : decode cX0_init 21 = .ok (.aload_n 0, 1) := by decide +kernel
theorem dX0_init_22 : decode cX0_init 22 = .ok (.getfield 13, 3) := by decide +kernel
theorem dX0_init_25 : decode cX0_init 25 = .ok (.iload_n 1, 1) := by decide +kernel
theorem dX0_init_26 : decode cX0_init 26 = .ok (.new 11, 3) := by decide +kernel
theorem dX0_init_29 : decode cX0_init 29 = .ok (.dup, 1) := by decide +kernel
theorem dX0_init_30 : decode cX0_init 30 = .ok (.invokespecial 17, 3) := by decide +kernel
theorem dX0_init_33 : decode cX0_init 33 = .ok (.aastore, 1) := by decide +kernel
theorem dX0_init_34 : decode cX0_init 34 = .ok (.iinc 1 1, 3) := by decide +kernel
theorem dX0_init_37 : decode cX0_init 37 = .ok (.goto (-22), 3) := by decide +kernel
theorem dX0_init_40 : decode cX0_init 40 = .ok (.return_, 1) := by decide +kernel
theorem dX0_draft_0 : decode cX0_draft 0 = .ok (.aload_n 0, 1) := by decide +kernel
theorem dX0_draft_1 : decode cX0_draft 1 = .ok (.getfield 13, 3) := by decide +kernel
theorem dX0_draft_4 : decode cX0_draft 4 = .ok (.aload_n 0, 1) := by decide +kernel
theorem dX0_draft_5 : decode cX0_draft 5 = .ok (.getfield 18, 3) := by decide +kernel
theorem dX0_draft_8 : decode cX0_draft 8 = .ok (.aaload, 1) := by decide +kernel
theorem dX0_draft_9 : decode cX0_draft 9 = .ok (.aload_n 1, 1) := by decide +kernel
theorem dX0_draft_10 : decode cX0_draft 10 = .ok (.invokevirtual 22, 3) := by decide +kernel
theorem dX0_draft_13 : decode cX0_draft 13 = .ok (.return_, 1) := by decide +kernel
theorem dX0_keepUnlessError_0 : decode cX0_keepUnlessError 0 = .ok (.iload_n 1, 1) := by decide +kernel
theorem dX0_keepUnlessError_1 : decode cX0_keepUnlessError 1 = .ok (.ifCond .lt 43, 3) := by decide +kernel
theorem dX0_keepUnlessError_4 : decode cX0_keepUnlessError 4 = .ok (.aload_n 0, 1) := by decide +kernel
theorem dX0_keepUnlessError_5 : decode cX0_keepUnlessError 5 = .ok (.aload_n 0, 1) := by decide +kernel
theorem dX0_keepUnlessError_6 : decode cX0_keepUnlessError 6 = .ok (.getfield 18, 3) := by decide +kernel
theorem dX0_keepUnlessError_9 : decode cX0_keepUnlessError 9 = .ok (.iconst 1, 1) := by decide +kernel
theorem dX0_keepUnlessError_10 : decode cX0_keepUnlessError 10 = .ok (.iadd, 1) := by decide +kernel
theorem dX0_keepUnlessError_11 : decode cX0_keepUnlessError 11 = .ok (.bipush 7, 2) := by decide +kernel
theorem dX0_keepUnlessError_13 : decode cX0_keepUnlessError 13 = .ok (.if_icmp .ge 12, 3) := by decide +kernel
theorem dX0_keepUnlessError_16 : decode cX0_keepUnlessError 16 = .ok (.aload_n 0, 1) := by decide +kernel
theorem dX0_keepUnlessError_17 : decode cX0_keepUnlessError 17 = .ok (.getfield 18, 3) := by decide +kernel
theorem dX0_keepUnlessError_20 : decode cX0_keepUnlessError 20 = .ok (.iconst 1, 1) := by decide +kernel
theorem dX0_keepUnlessError_21 : decode cX0_keepUnlessError 21 = .ok (.iadd, 1) := by decide +kernel
theorem dX0_keepUnlessError_22 : decode cX0_keepUnlessError 22 = .ok (.goto 4, 3) := by decide +kernel
theorem dX0_keepUnlessError_25 : decode cX0_keepUnlessError 25 = .ok (.iconst 0, 1) := by decide +kernel
theorem dX0_keepUnlessError_26 : decode cX0_keepUnlessError 26 = .ok (.putfield 18, 3) := by decide +kernel
theorem dX0_keepUnlessError_29 : decode cX0_keepUnlessError 29 = .ok (.aload_n 0, 1) := by decide +kernel
theorem dX0_keepUnlessError_30 : decode cX0_keepUnlessError 30 = .ok (.aload_n 0, 1) := by decide +kernel
theorem dX0_keepUnlessError_31 : decode cX0_keepUnlessError 31 = .ok (.getfield 26, 3) := by decide +kernel
theorem dX0_keepUnlessError_34 : decode cX0_keepUnlessError 34 = .ok (.iconst 1, 1) := by decide +kernel
theorem dX0_keepUnlessError_35 : decode cX0_keepUnlessError 35 = .ok (.iadd, 1) := by decide +kernel
theorem dX0_keepUnlessError_36 : decode cX0_keepUnlessError 36 = .ok (.bipush 6, 2) := by decide +kernel
theorem dX0_keepUnlessError_38 : decode cX0_keepUnlessError 38 = .ok (.invokestatic 29, 3) := by decide +kernel
theorem dX0_keepUnlessError_41 : decode cX0_keepUnlessError 41 = .ok (.putfield 26, 3) := by decide +kernel
theorem dX0_keepUnlessError_44 : decode cX0_keepUnlessError 44 = .ok (.iload_n 1, 1) := by decide +kernel
theorem dX0_keepUnlessError_45 : decode cX0_keepUnlessError 45 = .ok (.ireturn, 1) := by decide +kernel
theorem dX0_takeBack_0 : decode cX0_takeBack 0 = .ok (.aload_n 0, 1) := by decide +kernel
theorem dX0_takeBack_1 : decode cX0_takeBack 1 = .ok (.getfield 26, 3) := by decide +kernel
theorem dX0_takeBack_4 : decode cX0_takeBack 4 = .ok (.ifCond .ne 6, 3) := by decide +kernel
theorem dX0_takeBack_7 : decode cX0_takeBack 7 = .ok (.bipush (-5), 2) := by decide +kernel
theorem dX0_takeBack_9 : decode cX0_takeBack 9 = .ok (.ireturn, 1) := by decide +kernel
theorem dX0_takeBack_10 : decode cX0_takeBack 10 = .ok (.aload_n 0, 1) := by decide +kernel
theorem dX0_takeBack_11 : decode cX0_takeBack 11 = .ok (.aload_n 0, 1) := by decide +kernel
theorem dX0_takeBack_12 : decode cX0_takeBack 12 = .ok (.getfield 18, 3) := by decide +kernel
theorem dX0_takeBack_15 : decode cX0_takeBack 15 = .ok (.ifCond .le 12, 3) := by decide +kernel
theorem dX0_takeBack_18 : decode cX0_takeBack 18 = .ok (.aload_n 0, 1) := by decide +kernel
theorem dX0_takeBack_19 : decode cX0_takeBack 19 = .ok (.getfield 18, 3) := by decide +kernel
theorem dX0_takeBack_22 : decode cX0_takeBack 22 = .ok (.iconst 1, 1) := by decide +kernel
theorem dX0_takeBack_23 : decode cX0_takeBack 23 = .ok (.isub, 1) := by decide +kernel
theorem dX0_takeBack_24 : decode cX0_takeBack 24 = .ok (.goto 5, 3) := by decide +kernel
theorem dX0_takeBack_27 : decode cX0_takeBack 27 = .ok (.bipush 6, 2) := by decide +kernel
theorem dX0_takeBack_29 : decode cX0_takeBack 29 = .ok (.putfield 18, 3) := by decide +kernel
theorem dX0_takeBack_32 : decode cX0_takeBack 32 = .ok (.aload_n 0, 1) := by decide +kernel
theorem dX0_takeBack_33 : decode cX0_takeBack 33 = .ok (.dup, 1) := by decide +kernel
theorem dX0_takeBack_34 : decode cX0_takeBack 34 = .ok (.getfield 26, 3) := by decide +kernel
theorem dX0_takeBack_37 : decode cX0_takeBack 37 = .ok (.iconst 1, 1) := by decide +kernel
theorem dX0_takeBack_38 : decode cX0_takeBack 38 = .ok (.isub, 1) := by decide +kernel
theorem dX0_takeBack_39 : decode cX0_takeBack 39 = .ok (.putfield 26, 3) := by decide +kernel
theorem dX0_takeBack_42 : decode cX0_takeBack 42 = .ok (.aload_n 1, 1) := by decide +kernel
theorem dX0_takeBack_43 : decode cX0_takeBack 43 = .ok (.aload_n 0, 1) := by decide +kernel
theorem dX0_takeBack_44 : decode cX0_takeBack 44 = .ok (.getfield 13, 3) := by decide +kernel
theorem dX0_takeBack_47 : decode cX0_takeBack 47 = .ok (.aload_n 0, 1) := by decide +kernel
theorem dX0_takeBack_48 : decode cX0_takeBack 48 = .ok (.getfield 18, 3) := by decide +kernel
theorem dX0_takeBack_51 : decode cX0_takeBack 51 = .ok (.aaload, 1) := by decide +kernel
theorem dX0_takeBack_52 : decode cX0_takeBack 52 = .ok (.invokevirtual 22, 3) := by decide +kernel
theorem dX0_takeBack_55 : decode cX0_takeBack 55 = .ok (.aload_n 0, 1) := by decide +kernel
theorem dX0_takeBack_56 : decode cX0_takeBack 56 = .ok (.getfield 26, 3) := by decide +kernel
theorem dX0_takeBack_59 : decode cX0_takeBack 59 = .ok (.ireturn, 1) := by decide +kernel
theorem dX1_init_0 : decode cX1_init 0 = .ok (.aload_n 0, 1) := by decide +kernel
theorem dX1_init_1 : decode cX1_init 1 = .ok (.invokespecial 1, 3) := by decide +kernel
theorem dX1_init_4 : decode cX1_init 4 = .ok (.return_, 1) := by decide +kernel
theorem dX1_place_0 : decode cX1_place 0 = .ok (.aload_n 0, 1) := by decide +kernel
theorem dX1_place_1 : decode cX1_place 1 = .ok (.iload_n 1, 1) := by decide +kernel
theorem dX1_place_2 : decode cX1_place 2 = .ok (.putfield 7, 3) := by decide +kernel
theorem dX1_place_5 : decode cX1_place 5 = .ok (.aload_n 0, 1) := by decide +kernel
theorem dX1_place_6 : decode cX1_place 6 = .ok (.iconst 0, 1) := by decide +kernel
theorem dX1_place_7 : decode cX1_place 7 = .ok (.putfield 13, 3) := by decide +kernel
theorem dX1_place_10 : decode cX1_place 10 = .ok (.return_, 1) := by decide +kernel
theorem dX1_copyFrom_0 : decode cX1_copyFrom 0 = .ok (.aload_n 0, 1) := by decide +kernel
theorem dX1_copyFrom_1 : decode cX1_copyFrom 1 = .ok (.aload_n 1, 1) := by decide +kernel
theorem dX1_copyFrom_2 : decode cX1_copyFrom 2 = .ok (.getfield 7, 3) := by decide +kernel
theorem dX1_copyFrom_5 : decode cX1_copyFrom 5 = .ok (.putfield 7, 3) := by decide +kernel
theorem dX1_copyFrom_8 : decode cX1_copyFrom 8 = .ok (.aload_n 0, 1) := by decide +kernel
theorem dX1_copyFrom_9 : decode cX1_copyFrom 9 = .ok (.aload_n 1, 1) := by decide +kernel
theorem dX1_copyFrom_10 : decode cX1_copyFrom 10 = .ok (.getfield 13, 3) := by decide +kernel
theorem dX1_copyFrom_13 : decode cX1_copyFrom 13 = .ok (.putfield 13, 3) := by decide +kernel
theorem dX1_copyFrom_16 : decode cX1_copyFrom 16 = .ok (.return_, 1) := by decide +kernel
theorem dX2_init_0 : decode cX2_init 0 = .ok (.aload_n 0, 1) := by decide +kernel
theorem dX2_init_1 : decode cX2_init 1 = .ok (.invokespecial 3, 3) := by decide +kernel
theorem dX2_init_4 : decode cX2_init 4 = .ok (.return_, 1) := by decide +kernel
theorem dX2_place_0 : decode cX2_place 0 = .ok (.aload_n 0, 1) := by decide +kernel
theorem dX2_place_1 : decode cX2_place 1 = .ok (.iload_n 1, 1) := by decide +kernel
theorem dX2_place_2 : decode cX2_place 2 = .ok (.putfield 9, 3) := by decide +kernel
theorem dX2_place_5 : decode cX2_place 5 = .ok (.aload_n 0, 1) := by decide +kernel
theorem dX2_place_6 : decode cX2_place 6 = .ok (.iload_n 2, 1) := by decide +kernel
theorem dX2_place_7 : decode cX2_place 7 = .ok (.putfield 15, 3) := by decide +kernel
theorem dX2_place_10 : decode cX2_place 10 = .ok (.aload_n 0, 1) := by decide +kernel
theorem dX2_place_11 : decode cX2_place 11 = .ok (.iconst 0, 1) := by decide +kernel
theorem dX2_place_12 : decode cX2_place 12 = .ok (.putfield 18, 3) := by decide +kernel
theorem dX2_place_15 : decode cX2_place 15 = .ok (.aload_n 0, 1) := by decide +kernel
theorem dX2_place_16 : decode cX2_place 16 = .ok (.iconst 0, 1) := by decide +kernel
theorem dX2_place_17 : decode cX2_place 17 = .ok (.putfield 21, 3) := by decide +kernel
theorem dX2_place_20 : decode cX2_place 20 = .ok (.aload_n 0, 1) := by decide +kernel
theorem dX2_place_21 : decode cX2_place 21 = .ok (.iconst 0, 1) := by decide +kernel
theorem dX2_place_22 : decode cX2_place 22 = .ok (.putfield 24, 3) := by decide +kernel
theorem dX2_place_25 : decode cX2_place 25 = .ok (.aload_n 0, 1) := by decide +kernel
theorem dX2_place_26 : decode cX2_place 26 = .ok (.bipush (-6), 2) := by decide +kernel
theorem dX2_place_28 : decode cX2_place 28 = .ok (.putfield 27, 3) := by decide +kernel
theorem dX2_place_31 : decode cX2_place 31 = .ok (.aload_n 0, 1) := by decide +kernel
theorem dX2_place_32 : decode cX2_place 32 = .ok (.iconst 0, 1) := by decide +kernel
theorem dX2_place_33 : decode cX2_place 33 = .ok (.putfield 30, 3) := by decide +kernel
theorem dX2_place_36 : decode cX2_place 36 = .ok (.aload_n 0, 1) := by decide +kernel
theorem dX2_place_37 : decode cX2_place 37 = .ok (.iconst 0, 1) := by decide +kernel
theorem dX2_place_38 : decode cX2_place 38 = .ok (.putfield 33, 3) := by decide +kernel
theorem dX2_place_41 : decode cX2_place 41 = .ok (.aload_n 0, 1) := by decide +kernel
theorem dX2_place_42 : decode cX2_place 42 = .ok (.iconst 0, 1) := by decide +kernel
theorem dX2_place_43 : decode cX2_place 43 = .ok (.putfield 36, 3) := by decide +kernel
theorem dX2_place_46 : decode cX2_place 46 = .ok (.aload_n 0, 1) := by decide +kernel
theorem dX2_place_47 : decode cX2_place 47 = .ok (.iconst 0, 1) := by decide +kernel
theorem dX2_place_48 : decode cX2_place 48 = .ok (.putfield 39, 3) := by decide +kernel
theorem dX2_place_51 : decode cX2_place 51 = .ok (.aload_n 0, 1) := by decide +kernel
theorem dX2_place_52 : decode cX2_place 52 = .ok (.iconst 0, 1) := by decide +kernel
theorem dX2_place_53 : decode cX2_place 53 = .ok (.putfield 42, 3) := by decide +kernel
theorem dX2_place_56 : decode cX2_place 56 = .ok (.return_, 1) := by decide +kernel
theorem dX2_copyFrom_0 : decode cX2_copyFrom 0 = .ok (.aload_n 0, 1) := by decide +kernel
theorem dX2_copyFrom_1 : decode cX2_copyFrom 1 = .ok (.aload_n 1, 1) := by decide +kernel
theorem dX2_copyFrom_2 : decode cX2_copyFrom 2 = .ok (.getfield 9, 3) := by decide +kernel
theorem dX2_copyFrom_5 : decode cX2_copyFrom 5 = .ok (.putfield 9, 3) := by decide +kernel
theorem dX2_copyFrom_8 : decode cX2_copyFrom 8 = .ok (.aload_n 0, 1) := by decide +kernel
theorem dX2_copyFrom_9 : decode cX2_copyFrom 9 = .ok (.aload_n 1, 1) := by decide +kernel
theorem dX2_copyFrom_10 : decode cX2_copyFrom 10 = .ok (.getfield 15, 3) := by decide +kernel
theorem dX2_copyFrom_13 : decode cX2_copyFrom 13 = .ok (.putfield 15, 3) := by decide +kernel
theorem dX2_copyFrom_16 : decode cX2_copyFrom 16 = .ok (.aload_n 0, 1) := by decide +kernel
theorem dX2_copyFrom_17 : decode cX2_copyFrom 17 = .ok (.aload_n 1, 1) := by decide +kernel
theorem dX2_copyFrom_18 : decode cX2_copyFrom 18 = .ok (.getfield 18, 3) := by decide +kernel
theorem dX2_copyFrom_21 : decode cX2_copyFrom 21 = .ok (.putfield 18, 3) := by decide +kernel
theorem dX2_copyFrom_24 : decode cX2_copyFrom 24 = .ok (.aload_n 0, 1) := by decide +kernel
theorem dX2_copyFrom_25 : decode cX2_copyFrom 25 = .ok (.aload_n 1, 1) := by decide +kernel
theorem dX2_copyFrom_26 : decode cX2_copyFrom 26 = .ok (.getfield 21, 3) := by decide +kernel
theorem dX2_copyFrom_29 : decode cX2_copyFrom 29 = .ok (.putfield 21, 3) := by decide +kernel
theorem dX2_copyFrom_32 : decode cX2_copyFrom 32 = .ok (.aload_n 0, 1) := by decide +kernel
theorem dX2_copyFrom_33 : decode cX2_copyFrom 33 = .ok (.aload_n 1, 1) := by decide +kernel
theorem dX2_copyFrom_34 : decode cX2_copyFrom 34 = .ok (.getfield 24, 3) := by decide +kernel
theorem dX2_copyFrom_37 : decode cX2_copyFrom 37 = .ok (.putfield 24, 3) := by decide +kernel
theorem dX2_copyFrom_40 : decode cX2_copyFrom 40 = .ok (.aload_n 0, 1) := by decide +kernel
theorem dX2_copyFrom_41 : decode cX2_copyFrom 41 = .ok (.aload_n 1, 1) := by decide +kernel
theorem dX2_copyFrom_42 : decode cX2_copyFrom 42 = .ok (.getfield 27, 3) := by decide +kernel
theorem dX2_copyFrom_45 : decode cX2_copyFrom 45 = .ok (.putfield 27, 3) := by decide +kernel
theorem dX2_copyFrom_48 : decode cX2_copyFrom 48 = .ok (.aload_n 0, 1) := by decide +kernel
theorem dX2_copyFrom_49 : decode cX2_copyFrom 49 = .ok (.aload_n 1, 1) := by decide +kernel
theorem dX2_copyFrom_50 : decode cX2_copyFrom 50 = .ok (.getfield 30, 3) := by decide +kernel
theorem dX2_copyFrom_53 : decode cX2_copyFrom 53 = .ok (.putfield 30, 3) := by decide +kernel
theorem dX2_copyFrom_56 : decode cX2_copyFrom 56 = .ok (.aload_n 0, 1) := by decide +kernel
theorem dX2_copyFrom_57 : decode cX2_copyFrom 57 = .ok (.aload_n 1, 1) := by decide +kernel
theorem dX2_copyFrom_58 : decode cX2_copyFrom 58 = .ok (.getfield 33, 3) := by decide +kernel
theorem dX2_copyFrom_61 : decode cX2_copyFrom 61 = .ok (.putfield 33, 3) := by decide +kernel
theorem dX2_copyFrom_64 : decode cX2_copyFrom 64 = .ok (.aload_n 0, 1) := by decide +kernel
theorem dX2_copyFrom_65 : decode cX2_copyFrom 65 = .ok (.aload_n 1, 1) := by decide +kernel
theorem dX2_copyFrom_66 : decode cX2_copyFrom 66 = .ok (.getfield 36, 3) := by decide +kernel
theorem dX2_copyFrom_69 : decode cX2_copyFrom 69 = .ok (.putfield 36, 3) := by decide +kernel
theorem dX2_copyFrom_72 : decode cX2_copyFrom 72 = .ok (.aload_n 0, 1) := by decide +kernel
theorem dX2_copyFrom_73 : decode cX2_copyFrom 73 = .ok (.aload_n 1, 1) := by decide +kernel
theorem dX2_copyFrom_74 : decode cX2_copyFrom 74 = .ok (.getfield 39, 3) := by decide +kernel
theorem dX2_copyFrom_77 : decode cX2_copyFrom 77 = .ok (.putfield 39, 3) := by decide +kernel
theorem dX2_copyFrom_80 : decode cX2_copyFrom 80 = .ok (.aload_n 0, 1) := by decide +kernel
theorem dX2_copyFrom_81 : decode cX2_copyFrom 81 = .ok (.aload_n 1, 1) := by decide +kernel
theorem dX2_copyFrom_82 : decode cX2_copyFrom 82 = .ok (.getfield 42, 3) := by decide +kernel
theorem dX2_copyFrom_85 : decode cX2_copyFrom 85 = .ok (.putfield 42, 3) := by decide +kernel
theorem dX2_copyFrom_88 : decode cX2_copyFrom 88 = .ok (.return_, 1) := by decide +kernel
theorem dX2_forgetTick_0 : decode cX2_forgetTick 0 = .ok (.aload_n 0, 1) := by decide +kernel
theorem dX2_forgetTick_1 : decode cX2_forgetTick 1 = .ok (.iconst 0, 1) := by decide +kernel
theorem dX2_forgetTick_2 : decode cX2_forgetTick 2 = .ok (.putfield 45, 3) := by decide +kernel
theorem dX2_forgetTick_5 : decode cX2_forgetTick 5 = .ok (.aload_n 0, 1) := by decide +kernel
theorem dX2_forgetTick_6 : decode cX2_forgetTick 6 = .ok (.iconst 0, 1) := by decide +kernel
theorem dX2_forgetTick_7 : decode cX2_forgetTick 7 = .ok (.putfield 49, 3) := by decide +kernel
theorem dX2_forgetTick_10 : decode cX2_forgetTick 10 = .ok (.return_, 1) := by decide +kernel
theorem dX2_distanceTo_0 : decode cX2_distanceTo 0 = .ok (.aload_n 0, 1) := by decide +kernel
theorem dX2_distanceTo_1 : decode cX2_distanceTo 1 = .ok (.getfield 9, 3) := by decide +kernel
theorem dX2_distanceTo_4 : decode cX2_distanceTo 4 = .ok (.iload_n 1, 1) := by decide +kernel
theorem dX2_distanceTo_5 : decode cX2_distanceTo 5 = .ok (.isub, 1) := by decide +kernel
theorem dX2_distanceTo_6 : decode cX2_distanceTo 6 = .ok (.invokestatic 52, 3) := by decide +kernel
theorem dX2_distanceTo_9 : decode cX2_distanceTo 9 = .ok (.ireturn, 1) := by decide +kernel
theorem dX2_lights_0 : decode cX2_lights 0 = .ok (.aload_n 0, 1) := by decide +kernel
theorem dX2_lights_1 : decode cX2_lights 1 = .ok (.getfield 18, 3) := by decide +kernel
theorem dX2_lights_4 : decode cX2_lights 4 = .ok (.ifCond .ne 5, 3) := by decide +kernel
theorem dX2_lights_7 : decode cX2_lights 7 = .ok (.iconst 0, 1) := by decide +kernel
theorem dX2_lights_8 : decode cX2_lights 8 = .ok (.ireturn, 1) := by decide +kernel
theorem dX2_lights_9 : decode cX2_lights 9 = .ok (.aload_n 0, 1) := by decide +kernel
theorem dX2_lights_10 : decode cX2_lights 10 = .ok (.iload_n 1, 1) := by decide +kernel
theorem dX2_lights_11 : decode cX2_lights 11 = .ok (.invokevirtual 58, 3) := by decide +kernel
theorem dX2_lights_14 : decode cX2_lights 14 = .ok (.aload_n 0, 1) := by decide +kernel
theorem dX2_lights_15 : decode cX2_lights 15 = .ok (.getfield 18, 3) := by decide +kernel
theorem dX2_lights_18 : decode cX2_lights 18 = .ok (.iconst 2, 1) := by decide +kernel
theorem dX2_lights_19 : decode cX2_lights 19 = .ok (.if_icmp .ne 10, 3) := by decide +kernel
theorem dX2_lights_22 : decode cX2_lights 22 = .ok (.aload_n 0, 1) := by decide +kernel
theorem dX2_lights_23 : decode cX2_lights 23 = .ok (.getfield 15, 3) := by decide +kernel
theorem dX2_lights_26 : decode cX2_lights 26 = .ok (.goto 9, 3) := by decide +kernel
theorem dX2_lights_29 : decode cX2_lights 29 = .ok (.aload_n 0, 1) := by decide +kernel
theorem dX2_lights_30 : decode cX2_lights 30 = .ok (.getfield 15, 3) := by decide +kernel
theorem dX2_lights_33 : decode cX2_lights 33 = .ok (.iconst 2, 1) := by decide +kernel
theorem dX2_lights_34 : decode cX2_lights 34 = .ok (.idiv, 1) := by decide +kernel
theorem dX2_lights_35 : decode cX2_lights 35 = .ok (.if_icmp .gt 7, 3) := by decide +kernel
theorem dX2_lights_38 : decode cX2_lights 38 = .ok (.iconst 1, 1) := by decide +kernel
theorem dX2_lights_39 : decode cX2_lights 39 = .ok (.goto 4, 3) := by decide +kernel
theorem dX2_lights_42 : decode cX2_lights 42 = .ok (.iconst 0, 1) := by decide +kernel
theorem dX2_lights_43 : decode cX2_lights 43 = .ok (.ireturn, 1) := by decide +kernel
theorem dX2_disturbs_0 : decode cX2_disturbs 0 = .ok (.aload_n 0, 1) := by decide +kernel
theorem dX2_disturbs_1 : decode cX2_disturbs 1 = .ok (.getfield 18, 3) := by decide +kernel
theorem dX2_disturbs_4 : decode cX2_disturbs 4 = .ok (.iconst 2, 1) := by decide +kernel
theorem dX2_disturbs_5 : decode cX2_disturbs 5 = .ok (.if_icmp .ne 21, 3) := by decide +kernel
theorem dX2_disturbs_8 : decode cX2_disturbs 8 = .ok (.aload_n 0, 1) := by decide +kernel
theorem dX2_disturbs_9 : decode cX2_disturbs 9 = .ok (.iload_n 1, 1) := by decide +kernel
theorem dX2_disturbs_10 : decode cX2_disturbs 10 = .ok (.invokevirtual 58, 3) := by decide +kernel
theorem dX2_disturbs_13 : decode cX2_disturbs 13 = .ok (.aload_n 0, 1) := by decide +kernel
theorem dX2_disturbs_14 : decode cX2_disturbs 14 = .ok (.getfield 15, 3) := by decide +kernel
theorem dX2_disturbs_17 : decode cX2_disturbs 17 = .ok (.iconst 3, 1) := by decide +kernel
theorem dX2_disturbs_18 : decode cX2_disturbs 18 = .ok (.idiv, 1) := by decide +kernel
theorem dX2_disturbs_19 : decode cX2_disturbs 19 = .ok (.if_icmp .gt 7, 3) := by decide +kernel
theorem dX2_disturbs_22 : decode cX2_disturbs 22 = .ok (.iconst 1, 1) := by decide +kernel
theorem dX2_disturbs_23 : decode cX2_disturbs 23 = .ok (.goto 4, 3) := by decide +kernel
theorem dX2_disturbs_26 : decode cX2_disturbs 26 = .ok (.iconst 0, 1) := by decide +kernel
theorem dX2_disturbs_27 : decode cX2_disturbs 27 = .ok (.ireturn, 1) := by decide +kernel
theorem dX2_wake_0 : decode cX2_wake 0 = .ok (.aload_n 0, 1) := by decide +kernel
theorem dX2_wake_1 : decode cX2_wake 1 = .ok (.iconst 2, 1) := by decide +kernel
theorem dX2_wake_2 : decode cX2_wake 2 = .ok (.putfield 18, 3) := by decide +kernel
theorem dX2_wake_5 : decode cX2_wake 5 = .ok (.aload_n 0, 1) := by decide +kernel
theorem dX2_wake_6 : decode cX2_wake 6 = .ok (.iload_n 1, 1) := by decide +kernel
theorem dX2_wake_7 : decode cX2_wake 7 = .ok (.putfield 24, 3) := by decide +kernel
theorem dX2_wake_10 : decode cX2_wake 10 = .ok (.aload_n 0, 1) := by decide +kernel
theorem dX2_wake_11 : decode cX2_wake 11 = .ok (.iconst 1, 1) := by decide +kernel
theorem dX2_wake_12 : decode cX2_wake 12 = .ok (.putfield 45, 3) := by decide +kernel
theorem dX2_wake_15 : decode cX2_wake 15 = .ok (.return_, 1) := by decide +kernel
theorem dX2_hear_0 : decode cX2_hear 0 = .ok (.aload_n 0, 1) := by decide +kernel
theorem dX2_hear_1 : decode cX2_hear 1 = .ok (.dup, 1) := by decide +kernel
theorem dX2_hear_2 : decode cX2_hear 2 = .ok (.getfield 39, 3) := by decide +kernel
theorem dX2_hear_5 : decode cX2_hear 5 = .ok (.iconst 1, 1) := by decide +kernel
theorem dX2_hear_6 : decode cX2_hear 6 = .ok (.iadd, 1) := by decide +kernel
theorem dX2_hear_7 : decode cX2_hear 7 = .ok (.putfield 39, 3) := by decide +kernel
theorem dX2_hear_10 : decode cX2_hear 10 = .ok (.aload_n 0, 1) := by decide +kernel
theorem dX2_hear_11 : decode cX2_hear 11 = .ok (.aload_n 2, 1) := by decide +kernel
theorem dX2_hear_12 : decode cX2_hear 12 = .ok (.iconst 2, 1) := by decide +kernel
theorem dX2_hear_13 : decode cX2_hear 13 = .ok (.iaload, 1) := by decide +kernel
theorem dX2_hear_14 : decode cX2_hear 14 = .ok (.invokevirtual 61, 3) := by decide +kernel
theorem dX2_hear_17 : decode cX2_hear 17 = .ok (.iload_n 1, 1) := by decide +kernel
theorem dX2_hear_18 : decode cX2_hear 18 = .ok (.aload_n 2, 1) := by decide +kernel
theorem dX2_hear_19 : decode cX2_hear 19 = .ok (.iconst 5, 1) := by decide +kernel
theorem dX2_hear_20 : decode cX2_hear 20 = .ok (.iaload, 1) := by decide +kernel
theorem dX2_hear_21 : decode cX2_hear 21 = .ok (.if_icmp .ge 33, 3) := by decide +kernel
theorem dX2_hear_24 : decode cX2_hear 24 = .ok (.aload_n 0, 1) := by decide +kernel
theorem dX2_hear_25 : decode cX2_hear 25 = .ok (.getfield 27, 3) := by decide +kernel
theorem dX2_hear_28 : decode cX2_hear 28 = .ok (.bipush (-6), 2) := by decide +kernel
theorem dX2_hear_30 : decode cX2_hear 30 = .ok (.if_icmp .ne 24, 3) := by decide +kernel
theorem dX2_hear_33 : decode cX2_hear 33 = .ok (.aload_n 0, 1) := by decide +kernel
theorem dX2_hear_34 : decode cX2_hear 34 = .ok (.getfield 49, 3) := by decide +kernel
theorem dX2_hear_37 : decode cX2_hear 37 = .ok (.ifCond .ne 17, 3) := by decide +kernel
theorem dX2_hear_40 : decode cX2_hear 40 = .ok (.aload_n 0, 1) := by decide +kernel
theorem dX2_hear_41 : decode cX2_hear 41 = .ok (.aload_n 2, 1) := by decide +kernel
theorem dX2_hear_42 : decode cX2_hear 42 = .ok (.iconst 4, 1) := by decide +kernel
theorem dX2_hear_43 : decode cX2_hear 43 = .ok (.iaload, 1) := by decide +kernel
theorem dX2_hear_44 : decode cX2_hear 44 = .ok (.putfield 27, 3) := by decide +kernel
theorem dX2_hear_47 : decode cX2_hear 47 = .ok (.aload_n 0, 1) := by decide +kernel
theorem dX2_hear_48 : decode cX2_hear 48 = .ok (.iload_n 1, 1) := by decide +kernel
theorem dX2_hear_49 : decode cX2_hear 49 = .ok (.iconst 1, 1) := by decide +kernel
theorem dX2_hear_50 : decode cX2_hear 50 = .ok (.iadd, 1) := by decide +kernel
theorem dX2_hear_51 : decode cX2_hear 51 = .ok (.putfield 30, 3) := by decide +kernel
theorem dX2_hear_54 : decode cX2_hear 54 = .ok (.return_, 1) := by decide +kernel
theorem dX2_takeTurn_0 : decode cX2_takeTurn 0 = .ok (.aload_n 0, 1) := by decide +kernel
theorem dX2_takeTurn_1 : decode cX2_takeTurn 1 = .ok (.bipush (-6), 2) := by decide +kernel
theorem dX2_takeTurn_3 : decode cX2_takeTurn 3 = .ok (.putfield 27, 3) := by decide +kernel
theorem dX2_takeTurn_6 : decode cX2_takeTurn 6 = .ok (.aload_n 0, 1) := by decide +kernel
theorem dX2_takeTurn_7 : decode cX2_takeTurn 7 = .ok (.iconst 1, 1) := by decide +kernel
theorem dX2_takeTurn_8 : decode cX2_takeTurn 8 = .ok (.putfield 49, 3) := by decide +kernel
theorem dX2_takeTurn_11 : decode cX2_takeTurn 11 = .ok (.return_, 1) := by decide +kernel
theorem dX2_fade_0 : decode cX2_fade 0 = .ok (.aload_n 0, 1) := by decide +kernel
theorem dX2_fade_1 : decode cX2_fade 1 = .ok (.getfield 18, 3) := by decide +kernel
theorem dX2_fade_4 : decode cX2_fade 4 = .ok (.ifCond .eq 10, 3) := by decide +kernel
theorem dX2_fade_7 : decode cX2_fade 7 = .ok (.aload_n 0, 1) := by decide +kernel
theorem dX2_fade_8 : decode cX2_fade 8 = .ok (.getfield 45, 3) := by decide +kernel
theorem dX2_fade_11 : decode cX2_fade 11 = .ok (.ifCond .eq 4, 3) := by decide +kernel
theorem dX2_fade_14 : decode cX2_fade 14 = .ok (.return_, 1) := by decide +kernel
theorem dX2_fade_15 : decode cX2_fade 15 = .ok (.aload_n 0, 1) := by decide +kernel
theorem dX2_fade_16 : decode cX2_fade 16 = .ok (.dup, 1) := by decide +kernel
theorem dX2_fade_17 : decode cX2_fade 17 = .ok (.getfield 24, 3) := by decide +kernel
theorem dX2_fade_20 : decode cX2_fade 20 = .ok (.iconst 1, 1) := by decide +kernel
theorem dX2_fade_21 : decode cX2_fade 21 = .ok (.isub, 1) := by decide +kernel
theorem dX2_fade_22 : decode cX2_fade 22 = .ok (.putfield 24, 3) := by decide +kernel
theorem dX2_fade_25 : decode cX2_fade 25 = .ok (.aload_n 0, 1) := by decide +kernel
theorem dX2_fade_26 : decode cX2_fade 26 = .ok (.getfield 24, 3) := by decide +kernel
theorem dX2_fade_29 : decode cX2_fade 29 = .ok (.ifCond .le 4, 3) := by decide +kernel
theorem dX2_fade_32 : decode cX2_fade 32 = .ok (.return_, 1) := by decide +kernel
theorem dX2_fade_33 : decode cX2_fade 33 = .ok (.aload_n 0, 1) := by decide +kernel
theorem dX2_fade_34 : decode cX2_fade 34 = .ok (.getfield 18, 3) := by decide +kernel
theorem dX2_fade_37 : decode cX2_fade 37 = .ok (.iconst 2, 1) := by decide +kernel
theorem dX2_fade_38 : decode cX2_fade 38 = .ok (.if_icmp .ne 20, 3) := by decide +kernel
theorem dX2_fade_41 : decode cX2_fade 41 = .ok (.iload_n 1, 1) := by decide +kernel
theorem dX2_fade_42 : decode cX2_fade 42 = .ok (.ifCond .le 16, 3) := by decide +kernel
theorem dX2_fade_45 : decode cX2_fade 45 = .ok (.aload_n 0, 1) := by decide +kernel
theorem dX2_fade_46 : decode cX2_fade 46 = .ok (.iconst 1, 1) := by decide +kernel
theorem dX2_fade_47 : decode cX2_fade 47 = .ok (.putfield 18, 3) := by decide +kernel
theorem dX2_fade_50 : decode cX2_fade 50 = .ok (.aload_n 0, 1) := by decide +kernel
theorem dX2_fade_51 : decode cX2_fade 51 = .ok (.iload_n 1, 1) := by decide +kernel
theorem dX2_fade_52 : decode cX2_fade 52 = .ok (.putfield 24, 3) := by decide +kernel
theorem dX2_fade_55 : decode cX2_fade 55 = .ok (.goto 8, 3) := by decide +kernel
theorem dX2_fade_58 : decode cX2_fade 58 = .ok (.aload_n 0, 1) := by decide +kernel
theorem dX2_fade_59 : decode cX2_fade 59 = .ok (.iconst 0, 1) := by decide +kernel
theorem dX2_fade_60 : decode cX2_fade 60 = .ok (.putfield 18, 3) := by decide +kernel
theorem dX2_fade_63 : decode cX2_fade 63 = .ok (.return_, 1) := by decide +kernel
theorem dX2_useLight_0 : decode cX2_useLight 0 = .ok (.aload_n 0, 1) := by decide +kernel
theorem dX2_useLight_1 : decode cX2_useLight 1 = .ok (.getfield 18, 3) := by decide +kernel
theorem dX2_useLight_4 : decode cX2_useLight 4 = .ok (.iconst 2, 1) := by decide +kernel
theorem dX2_useLight_5 : decode cX2_useLight 5 = .ok (.if_icmp .ne 16, 3) := by decide +kernel
theorem dX2_useLight_8 : decode cX2_useLight 8 = .ok (.aload_n 0, 1) := by decide +kernel
theorem dX2_useLight_9 : decode cX2_useLight 9 = .ok (.dup, 1) := by decide +kernel
theorem dX2_useLight_10 : decode cX2_useLight 10 = .ok (.getfield 33, 3) := by decide +kernel
theorem dX2_useLight_13 : decode cX2_useLight 13 = .ok (.iconst 4, 1) := by decide +kernel
theorem dX2_useLight_14 : decode cX2_useLight 14 = .ok (.iadd, 1) := by decide +kernel
theorem dX2_useLight_15 : decode cX2_useLight 15 = .ok (.putfield 33, 3) := by decide +kernel
theorem dX2_useLight_18 : decode cX2_useLight 18 = .ok (.goto 21, 3) := by decide +kernel
theorem dX2_useLight_21 : decode cX2_useLight 21 = .ok (.aload_n 0, 1) := by decide +kernel
theorem dX2_useLight_22 : decode cX2_useLight 22 = .ok (.getfield 18, 3) := by decide +kernel
theorem dX2_useLight_25 : decode cX2_useLight 25 = .ok (.iconst 1, 1) := by decide +kernel
theorem dX2_useLight_26 : decode cX2_useLight 26 = .ok (.if_icmp .ne 13, 3) := by decide +kernel
theorem dX2_useLight_29 : decode cX2_useLight 29 = .ok (.aload_n 0, 1) := by decide +kernel
theorem dX2_useLight_30 : decode cX2_useLight 30 = .ok (.dup, 1) := by decide +kernel
theorem dX2_useLight_31 : decode cX2_useLight 31 = .ok (.getfield 33, 3) := by decide +kernel
theorem dX2_useLight_34 : decode cX2_useLight 34 = .ok (.iconst 1, 1) := by decide +kernel
theorem dX2_useLight_35 : decode cX2_useLight 35 = .ok (.iadd, 1) := by decide +kernel
theorem dX2_useLight_36 : decode cX2_useLight 36 = .ok (.putfield 33, 3) := by decide +kernel
theorem dX2_useLight_39 : decode cX2_useLight 39 = .ok (.return_, 1) := by decide +kernel
theorem dX2_becomes_0 : decode cX2_becomes 0 = .ok (.aload_n 0, 1) := by decide +kernel
theorem dX2_becomes_1 : decode cX2_becomes 1 = .ok (.iload_n 1, 1) := by decide +kernel
theorem dX2_becomes_2 : decode cX2_becomes 2 = .ok (.putfield 21, 3) := by decide +kernel
theorem dX2_becomes_5 : decode cX2_becomes 5 = .ok (.aload_n 0, 1) := by decide +kernel
theorem dX2_becomes_6 : decode cX2_becomes 6 = .ok (.getfield 21, 3) := by decide +kernel
theorem dX2_becomes_9 : decode cX2_becomes 9 = .ok (.iconst 2, 1) := by decide +kernel
theorem dX2_becomes_10 : decode cX2_becomes 10 = .ok (.if_icmp .ne 19, 3) := by decide +kernel
theorem dX2_becomes_13 : decode cX2_becomes 13 = .ok (.aload_n 0, 1) := by decide +kernel
theorem dX2_becomes_14 : decode cX2_becomes 14 = .ok (.iconst 0, 1) := by decide +kernel
theorem dX2_becomes_15 : decode cX2_becomes 15 = .ok (.putfield 18, 3) := by decide +kernel
theorem dX2_becomes_18 : decode cX2_becomes 18 = .ok (.aload_n 0, 1) := by decide +kernel
theorem dX2_becomes_19 : decode cX2_becomes 19 = .ok (.iconst 0, 1) := by decide +kernel
theorem dX2_becomes_20 : decode cX2_becomes 20 = .ok (.putfield 24, 3) := by decide +kernel
theorem dX2_becomes_23 : decode cX2_becomes 23 = .ok (.aload_n 0, 1) := by decide +kernel
theorem dX2_becomes_24 : decode cX2_becomes 24 = .ok (.bipush (-6), 2) := by decide +kernel
theorem dX2_becomes_26 : decode cX2_becomes 26 = .ok (.putfield 27, 3) := by decide +kernel
theorem dX2_becomes_29 : decode cX2_becomes 29 = .ok (.return_, 1) := by decide +kernel
theorem dX2_tell_0 : decode cX2_tell 0 = .ok (.iload_n 1, 1) := by decide +kernel
theorem dX2_tell_1 : decode cX2_tell 1 = .ok (.tableswitch 128 0 10 #[59, 64, 69, 74, 79, 84, 89, 108, 113, 118, 123], 59) := by decide +kernel
theorem dX2_tell_60 : decode cX2_tell 60 = .ok (.aload_n 0, 1) := by decide +kernel
theorem dX2_tell_61 : decode cX2_tell 61 = .ok (.getfield 9, 3) := by decide +kernel
theorem dX2_tell_64 : decode cX2_tell 64 = .ok (.ireturn, 1) := by decide +kernel
theorem dX2_tell_65 : decode cX2_tell 65 = .ok (.aload_n 0, 1) := by decide +kernel
theorem dX2_tell_66 : decode cX2_tell 66 = .ok (.getfield 15, 3) := by decide +kernel
theorem dX2_tell_69 : decode cX2_tell 69 = .ok (.ireturn, 1) := by decide +kernel
theorem dX2_tell_70 : decode cX2_tell 70 = .ok (.aload_n 0, 1) := by decide +kernel
theorem dX2_tell_71 : decode cX2_tell 71 = .ok (.getfield 18, 3) := by decide +kernel
theorem dX2_tell_74 : decode cX2_tell 74 = .ok (.ireturn, 1) := by decide +kernel
theorem dX2_tell_75 : decode cX2_tell 75 = .ok (.aload_n 0, 1) := by decide +kernel
theorem dX2_tell_76 : decode cX2_tell 76 = .ok (.getfield 21, 3) := by decide +kernel
theorem dX2_tell_79 : decode cX2_tell 79 = .ok (.ireturn, 1) := by decide +kernel
theorem dX2_tell_80 : decode cX2_tell 80 = .ok (.aload_n 0, 1) := by decide +kernel
theorem dX2_tell_81 : decode cX2_tell 81 = .ok (.getfield 24, 3) := by decide +kernel
theorem dX2_tell_84 : decode cX2_tell 84 = .ok (.ireturn, 1) := by decide +kernel
theorem dX2_tell_85 : decode cX2_tell 85 = .ok (.aload_n 0, 1) := by decide +kernel
theorem dX2_tell_86 : decode cX2_tell 86 = .ok (.getfield 27, 3) := by decide +kernel
theorem dX2_tell_89 : decode cX2_tell 89 = .ok (.ireturn, 1) := by decide +kernel
theorem dX2_tell_90 : decode cX2_tell 90 = .ok (.aload_n 0, 1) := by decide +kernel
theorem dX2_tell_91 : decode cX2_tell 91 = .ok (.getfield 27, 3) := by decide +kernel
theorem dX2_tell_94 : decode cX2_tell 94 = .ok (.bipush (-6), 2) := by decide +kernel
theorem dX2_tell_96 : decode cX2_tell 96 = .ok (.if_icmp .ne 8, 3) := by decide +kernel
theorem dX2_tell_99 : decode cX2_tell 99 = .ok (.bipush (-6), 2) := by decide +kernel
theorem dX2_tell_101 : decode cX2_tell 101 = .ok (.goto 7, 3) := by decide +kernel
theorem dX2_tell_104 : decode cX2_tell 104 = .ok (.aload_n 0, 1) := by decide +kernel
theorem dX2_tell_105 : decode cX2_tell 105 = .ok (.getfield 30, 3) := by decide +kernel
theorem dX2_tell_108 : decode cX2_tell 108 = .ok (.ireturn, 1) := by decide +kernel
theorem dX2_tell_109 : decode cX2_tell 109 = .ok (.aload_n 0, 1) := by decide +kernel
theorem dX2_tell_110 : decode cX2_tell 110 = .ok (.getfield 33, 3) := by decide +kernel
theorem dX2_tell_113 : decode cX2_tell 113 = .ok (.ireturn, 1) := by decide +kernel
theorem dX2_tell_114 : decode cX2_tell 114 = .ok (.aload_n 0, 1) := by decide +kernel
theorem dX2_tell_115 : decode cX2_tell 115 = .ok (.getfield 36, 3) := by decide +kernel
theorem dX2_tell_118 : decode cX2_tell 118 = .ok (.ireturn, 1) := by decide +kernel
theorem dX2_tell_119 : decode cX2_tell 119 = .ok (.aload_n 0, 1) := by decide +kernel
theorem dX2_tell_120 : decode cX2_tell 120 = .ok (.getfield 39, 3) := by decide +kernel
theorem dX2_tell_123 : decode cX2_tell 123 = .ok (.ireturn, 1) := by decide +kernel
theorem dX2_tell_124 : decode cX2_tell 124 = .ok (.aload_n 0, 1) := by decide +kernel
theorem dX2_tell_125 : decode cX2_tell 125 = .ok (.getfield 42, 3) := by decide +kernel
theorem dX2_tell_128 : decode cX2_tell 128 = .ok (.ireturn, 1) := by decide +kernel
theorem dX2_tell_129 : decode cX2_tell 129 = .ok (.bipush (-2), 2) := by decide +kernel
theorem dX2_tell_131 : decode cX2_tell 131 = .ok (.ireturn, 1) := by decide +kernel
theorem dX3_init_0 : decode cX3_init 0 = .ok (.aload_n 0, 1) := by decide +kernel
theorem dX3_init_1 : decode cX3_init 1 = .ok (.invokespecial 3, 3) := by decide +kernel
theorem dX3_init_4 : decode cX3_init 4 = .ok (.aload_n 0, 1) := by decide +kernel
theorem dX3_init_5 : decode cX3_init 5 = .ok (.bipush 80, 2) := by decide +kernel
theorem dX3_init_7 : decode cX3_init 7 = .ok (.newarray .char, 2) := by decide +kernel
theorem dX3_init_9 : decode cX3_init 9 = .ok (.putfield 9, 3) := by decide +kernel
theorem dX3_init_12 : decode cX3_init 12 = .ok (.aload_n 0, 1) := by decide +kernel
theorem dX3_init_13 : decode cX3_init 13 = .ok (.bipush 80, 2) := by decide +kernel
theorem dX3_init_15 : decode cX3_init 15 = .ok (.newarray .int, 2) := by decide +kernel
theorem dX3_init_17 : decode cX3_init 17 = .ok (.putfield 15, 3) := by decide +kernel
theorem dX3_init_20 : decode cX3_init 20 = .ok (.return_, 1) := by decide +kernel
theorem dX3_append_0 : decode cX3_append 0 = .ok (.aload_n 0, 1) := by decide +kernel
theorem dX3_append_1 : decode cX3_append 1 = .ok (.getfield 19, 3) := by decide +kernel
theorem dX3_append_4 : decode cX3_append 4 = .ok (.bipush 80, 2) := by decide +kernel
theorem dX3_append_6 : decode cX3_append 6 = .ok (.if_icmp .ge 23, 3) := by decide +kernel
theorem dX3_append_9 : decode cX3_append 9 = .ok (.aload_n 0, 1) := by decide +kernel
theorem dX3_append_10 : decode cX3_append 10 = .ok (.getfield 9, 3) := by decide +kernel
theorem dX3_append_13 : decode cX3_append 13 = .ok (.aload_n 0, 1) := by decide +kernel
theorem dX3_append_14 : decode cX3_append 14 = .ok (.getfield 19, 3) := by decide +kernel
theorem dX3_append_17 : decode cX3_append 17 = .ok (.iload_n 1, 1) := by decide +kernel
theorem dX3_append_18 : decode cX3_append 18 = .ok (.castore, 1) := by decide +kernel
theorem dX3_append_19 : decode cX3_append 19 = .ok (.aload_n 0, 1) := by decide +kernel
theorem dX3_append_20 : decode cX3_append 20 = .ok (.dup, 1) := by decide +kernel
theorem dX3_append_21 : decode cX3_append 21 = .ok (.getfield 19, 3) := by decide +kernel
theorem dX3_append_24 : decode cX3_append 24 = .ok (.iconst 1, 1) := by decide +kernel
theorem dX3_append_25 : decode cX3_append 25 = .ok (.iadd, 1) := by decide +kernel
theorem dX3_append_26 : decode cX3_append 26 = .ok (.putfield 19, 3) := by decide +kernel
theorem dX3_append_29 : decode cX3_append 29 = .ok (.return_, 1) := by decide +kernel
theorem dX3_clear_0 : decode cX3_clear 0 = .ok (.aload_n 0, 1) := by decide +kernel
theorem dX3_clear_1 : decode cX3_clear 1 = .ok (.iconst 0, 1) := by decide +kernel
theorem dX3_clear_2 : decode cX3_clear 2 = .ok (.putfield 19, 3) := by decide +kernel
theorem dX3_clear_5 : decode cX3_clear 5 = .ok (.return_, 1) := by decide +kernel
theorem dX3_rewind_0 : decode cX3_rewind 0 = .ok (.aload_n 0, 1) := by decide +kernel
theorem dX3_rewind_1 : decode cX3_rewind 1 = .ok (.iconst 0, 1) := by decide +kernel
theorem dX3_rewind_2 : decode cX3_rewind 2 = .ok (.putfield 23, 3) := by decide +kernel
theorem dX3_rewind_5 : decode cX3_rewind 5 = .ok (.return_, 1) := by decide +kernel
theorem dX3_firstFault_0 : decode cX3_firstFault 0 = .ok (.aload_n 0, 1) := by decide +kernel
theorem dX3_firstFault_1 : decode cX3_firstFault 1 = .ok (.invokevirtual 26, 3) := by decide +kernel
theorem dX3_firstFault_4 : decode cX3_firstFault 4 = .ok (.iconst 0, 1) := by decide +kernel
theorem dX3_firstFault_5 : decode cX3_firstFault 5 = .ok (.istore_n 1, 1) := by decide +kernel
theorem dX3_firstFault_6 : decode cX3_firstFault 6 = .ok (.iload_n 1, 1) := by decide +kernel
theorem dX3_firstFault_7 : decode cX3_firstFault 7 = .ok (.bipush 80, 2) := by decide +kernel
theorem dX3_firstFault_9 : decode cX3_firstFault 9 = .ok (.if_icmp .ge 49, 3) := by decide +kernel
theorem dX3_firstFault_12 : decode cX3_firstFault 12 = .ok (.aload_n 0, 1) := by decide +kernel
theorem dX3_firstFault_13 : decode cX3_firstFault 13 = .ok (.invokevirtual 29, 3) := by decide +kernel
theorem dX3_firstFault_16 : decode cX3_firstFault 16 = .ok (.ifCond .ne 8, 3) := by decide +kernel
theorem dX3_firstFault_19 : decode cX3_firstFault 19 = .ok (.aload_n 0, 1) := by decide +kernel
theorem dX3_firstFault_20 : decode cX3_firstFault 20 = .ok (.getfield 23, 3) := by decide +kernel
theorem dX3_firstFault_23 : decode cX3_firstFault 23 = .ok (.ireturn, 1) := by decide +kernel
theorem dX3_firstFault_24 : decode cX3_firstFault 24 = .ok (.aload_n 0, 1) := by decide +kernel
theorem dX3_firstFault_25 : decode cX3_firstFault 25 = .ok (.getfield 23, 3) := by decide +kernel
theorem dX3_firstFault_28 : decode cX3_firstFault 28 = .ok (.aload_n 0, 1) := by decide +kernel
theorem dX3_firstFault_29 : decode cX3_firstFault 29 = .ok (.getfield 19, 3) := by decide +kernel
theorem dX3_firstFault_32 : decode cX3_firstFault 32 = .ok (.if_icmp .lt 6, 3) := by decide +kernel
theorem dX3_firstFault_35 : decode cX3_firstFault 35 = .ok (.bipush (-6), 2) := by decide +kernel
theorem dX3_firstFault_37 : decode cX3_firstFault 37 = .ok (.ireturn, 1) := by decide +kernel
theorem dX3_firstFault_38 : decode cX3_firstFault 38 = .ok (.aload_n 0, 1) := by decide +kernel
theorem dX3_firstFault_39 : decode cX3_firstFault 39 = .ok (.bipush 59, 2) := by decide +kernel
theorem dX3_firstFault_41 : decode cX3_firstFault 41 = .ok (.invokevirtual 33, 3) := by decide +kernel
theorem dX3_firstFault_44 : decode cX3_firstFault 44 = .ok (.ifCond .ne 8, 3) := by decide +kernel
theorem dX3_firstFault_47 : decode cX3_firstFault 47 = .ok (.aload_n 0, 1) := by decide +kernel
theorem dX3_firstFault_48 : decode cX3_firstFault 48 = .ok (.getfield 23, 3) := by decide +kernel
theorem dX3_firstFault_51 : decode cX3_firstFault 51 = .ok (.ireturn, 1) := by decide +kernel
theorem dX3_firstFault_52 : decode cX3_firstFault 52 = .ok (.iinc 1 1, 3) := by decide +kernel
theorem dX3_firstFault_55 : decode cX3_firstFault 55 = .ok (.goto (-49), 3) := by decide +kernel
theorem dX3_firstFault_58 : decode cX3_firstFault 58 = .ok (.aload_n 0, 1) := by decide +kernel
theorem dX3_firstFault_59 : decode cX3_firstFault 59 = .ok (.getfield 23, 3) := by decide +kernel
theorem dX3_firstFault_62 : decode cX3_firstFault 62 = .ok (.ireturn, 1) := by decide +kernel
theorem dX3_readNextOrder_0 : decode cX3_readNextOrder 0 = .ok (.aload_n 0, 1) := by decide +kernel
theorem dX3_readNextOrder_1 : decode cX3_readNextOrder 1 = .ok (.getfield 23, 3) := by decide +kernel
theorem dX3_readNextOrder_4 : decode cX3_readNextOrder 4 = .ok (.ifCond .eq 12, 3) := by decide +kernel
theorem dX3_readNextOrder_7 : decode cX3_readNextOrder 7 = .ok (.aload_n 0, 1) := by decide +kernel
theorem dX3_readNextOrder_8 : decode cX3_readNextOrder 8 = .ok (.bipush 59, 2) := by decide +kernel
theorem dX3_readNextOrder_10 : decode cX3_readNextOrder 10 = .ok (.invokevirtual 33, 3) := by decide +kernel
theorem dX3_readNextOrder_13 : decode cX3_readNextOrder 13 = .ok (.ifCond .eq 14, 3) := by decide +kernel
theorem dX3_readNextOrder_16 : decode cX3_readNextOrder 16 = .ok (.aload_n 0, 1) := by decide +kernel
theorem dX3_readNextOrder_17 : decode cX3_readNextOrder 17 = .ok (.invokevirtual 29, 3) := by decide +kernel
theorem dX3_readNextOrder_20 : decode cX3_readNextOrder 20 = .ok (.ifCond .eq 7, 3) := by decide +kernel
theorem dX3_readNextOrder_23 : decode cX3_readNextOrder 23 = .ok (.iconst 1, 1) := by decide +kernel
theorem dX3_readNextOrder_24 : decode cX3_readNextOrder 24 = .ok (.goto 4, 3) := by decide +kernel
theorem dX3_readNextOrder_27 : decode cX3_readNextOrder 27 = .ok (.iconst 0, 1) := by decide +kernel
theorem dX3_readNextOrder_28 : decode cX3_readNextOrder 28 = .ok (.ireturn, 1) := by decide +kernel
theorem dX3_readOrder_0 : decode cX3_readOrder 0 = .ok (.aload_n 0, 1) := by decide +kernel
theorem dX3_readOrder_1 : decode cX3_readOrder 1 = .ok (.iconst 0, 1) := by decide +kernel
theorem dX3_readOrder_2 : decode cX3_readOrder 2 = .ok (.putfield 37, 3) := by decide +kernel
theorem dX3_readOrder_5 : decode cX3_readOrder 5 = .ok (.aload_n 0, 1) := by decide +kernel
theorem dX3_readOrder_6 : decode cX3_readOrder 6 = .ok (.aload_n 0, 1) := by decide +kernel
theorem dX3_readOrder_7 : decode cX3_readOrder 7 = .ok (.invokevirtual 40, 3) := by decide +kernel
theorem dX3_readOrder_10 : decode cX3_readOrder 10 = .ok (.putfield 44, 3) := by decide +kernel
theorem dX3_readOrder_13 : decode cX3_readOrder 13 = .ok (.aload_n 0, 1) := by decide +kernel
theorem dX3_readOrder_14 : decode cX3_readOrder 14 = .ok (.getfield 44, 3) := by decide +kernel
theorem dX3_readOrder_17 : decode cX3_readOrder 17 = .ok (.lookupswitch 170 #[(99, 88), (109, 110), (116, 148), (119, 43)], 43) := by decide +kernel
theorem dX3_readOrder_60 : decode cX3_readOrder 60 = .ok (.aload_n 0, 1) := by decide +kernel
theorem dX3_readOrder_61 : decode cX3_readOrder 61 = .ok (.bipush 119, 2) := by decide +kernel
theorem dX3_readOrder_63 : decode cX3_readOrder 63 = .ok (.invokevirtual 33, 3) := by decide +kernel
theorem dX3_readOrder_66 : decode cX3_readOrder 66 = .ok (.ifCond .eq 37, 3) := by decide +kernel
theorem dX3_readOrder_69 : decode cX3_readOrder 69 = .ok (.aload_n 0, 1) := by decide +kernel
theorem dX3_readOrder_70 : decode cX3_readOrder 70 = .ok (.invokevirtual 47, 3) := by decide +kernel
theorem dX3_readOrder_73 : decode cX3_readOrder 73 = .ok (.ifCond .eq 30, 3) := by decide +kernel
theorem dX3_readOrder_76 : decode cX3_readOrder 76 = .ok (.aload_n 0, 1) := by decide +kernel
theorem dX3_readOrder_77 : decode cX3_readOrder 77 = .ok (.bipush 47, 2) := by decide +kernel
theorem dX3_readOrder_79 : decode cX3_readOrder 79 = .ok (.invokevirtual 33, 3) := by decide +kernel
theorem dX3_readOrder_82 : decode cX3_readOrder 82 = .ok (.ifCond .eq 21, 3) := by decide +kernel
theorem dX3_readOrder_85 : decode cX3_readOrder 85 = .ok (.aload_n 0, 1) := by decide +kernel
theorem dX3_readOrder_86 : decode cX3_readOrder 86 = .ok (.invokevirtual 47, 3) := by decide +kernel
theorem dX3_readOrder_89 : decode cX3_readOrder 89 = .ok (.ifCond .eq 14, 3) := by decide +kernel
theorem dX3_readOrder_92 : decode cX3_readOrder 92 = .ok (.aload_n 0, 1) := by decide +kernel
theorem dX3_readOrder_93 : decode cX3_readOrder 93 = .ok (.invokevirtual 50, 3) := by decide +kernel
theorem dX3_readOrder_96 : decode cX3_readOrder 96 = .ok (.ifCond .eq 7, 3) := by decide +kernel
theorem dX3_readOrder_99 : decode cX3_readOrder 99 = .ok (.iconst 1, 1) := by decide +kernel
theorem dX3_readOrder_100 : decode cX3_readOrder 100 = .ok (.goto 4, 3) := by decide +kernel
theorem dX3_readOrder_103 : decode cX3_readOrder 103 = .ok (.iconst 0, 1) := by decide +kernel
theorem dX3_readOrder_104 : decode cX3_readOrder 104 = .ok (.ireturn, 1) := by decide +kernel
theorem dX3_readOrder_105 : decode cX3_readOrder 105 = .ok (.aload_n 0, 1) := by decide +kernel
theorem dX3_readOrder_106 : decode cX3_readOrder 106 = .ok (.bipush 99, 2) := by decide +kernel
theorem dX3_readOrder_108 : decode cX3_readOrder 108 = .ok (.invokevirtual 33, 3) := by decide +kernel
theorem dX3_readOrder_111 : decode cX3_readOrder 111 = .ok (.ifCond .eq 14, 3) := by decide +kernel
theorem dX3_readOrder_114 : decode cX3_readOrder 114 = .ok (.aload_n 0, 1) := by decide +kernel
theorem dX3_readOrder_115 : decode cX3_readOrder 115 = .ok (.invokevirtual 47, 3) := by decide +kernel
theorem dX3_readOrder_118 : decode cX3_readOrder 118 = .ok (.ifCond .eq 7, 3) := by decide +kernel
theorem dX3_readOrder_121 : decode cX3_readOrder 121 = .ok (.iconst 1, 1) := by decide +kernel
theorem dX3_readOrder_122 : decode cX3_readOrder 122 = .ok (.goto 4, 3) := by decide +kernel
theorem dX3_readOrder_125 : decode cX3_readOrder 125 = .ok (.iconst 0, 1) := by decide +kernel
theorem dX3_readOrder_126 : decode cX3_readOrder 126 = .ok (.ireturn, 1) := by decide +kernel
theorem dX3_readOrder_127 : decode cX3_readOrder 127 = .ok (.aload_n 0, 1) := by decide +kernel
theorem dX3_readOrder_128 : decode cX3_readOrder 128 = .ok (.bipush 109, 2) := by decide +kernel
theorem dX3_readOrder_130 : decode cX3_readOrder 130 = .ok (.invokevirtual 33, 3) := by decide +kernel
theorem dX3_readOrder_133 : decode cX3_readOrder 133 = .ok (.ifCond .eq 30, 3) := by decide +kernel
theorem dX3_readOrder_136 : decode cX3_readOrder 136 = .ok (.aload_n 0, 1) := by decide +kernel
theorem dX3_readOrder_137 : decode cX3_readOrder 137 = .ok (.invokevirtual 47, 3) := by decide +kernel
theorem dX3_readOrder_140 : decode cX3_readOrder 140 = .ok (.ifCond .eq 23, 3) := by decide +kernel
theorem dX3_readOrder_143 : decode cX3_readOrder 143 = .ok (.aload_n 0, 1) := by decide +kernel
theorem dX3_readOrder_144 : decode cX3_readOrder 144 = .ok (.bipush 61, 2) := by decide +kernel
theorem dX3_readOrder_146 : decode cX3_readOrder 146 = .ok (.invokevirtual 33, 3) := by decide +kernel
theorem dX3_readOrder_149 : decode cX3_readOrder 149 = .ok (.ifCond .eq 14, 3) := by decide +kernel
theorem dX3_readOrder_152 : decode cX3_readOrder 152 = .ok (.aload_n 0, 1) := by decide +kernel
theorem dX3_readOrder_153 : decode cX3_readOrder 153 = .ok (.invokevirtual 53, 3) := by decide +kernel
theorem dX3_readOrder_156 : decode cX3_readOrder 156 = .ok (.ifCond .eq 7, 3) := by decide +kernel
theorem dX3_readOrder_159 : decode cX3_readOrder 159 = .ok (.iconst 1, 1) := by decide +kernel
theorem dX3_readOrder_160 : decode cX3_readOrder 160 = .ok (.goto 4, 3) := by decide +kernel
theorem dX3_readOrder_163 : decode cX3_readOrder 163 = .ok (.iconst 0, 1) := by decide +kernel
theorem dX3_readOrder_164 : decode cX3_readOrder 164 = .ok (.ireturn, 1) := by decide +kernel
theorem dX3_readOrder_165 : decode cX3_readOrder 165 = .ok (.aload_n 0, 1) := by decide +kernel
theorem dX3_readOrder_166 : decode cX3_readOrder 166 = .ok (.bipush 116, 2) := by decide +kernel
theorem dX3_readOrder_168 : decode cX3_readOrder 168 = .ok (.invokevirtual 33, 3) := by decide +kernel
theorem dX3_readOrder_171 : decode cX3_readOrder 171 = .ok (.ifCond .eq 14, 3) := by decide +kernel
theorem dX3_readOrder_174 : decode cX3_readOrder 174 = .ok (.aload_n 0, 1) := by decide +kernel
theorem dX3_readOrder_175 : decode cX3_readOrder 175 = .ok (.invokevirtual 47, 3) := by decide +kernel
theorem dX3_readOrder_178 : decode cX3_readOrder 178 = .ok (.ifCond .eq 7, 3) := by decide +kernel
theorem dX3_readOrder_181 : decode cX3_readOrder 181 = .ok (.iconst 1, 1) := by decide +kernel
theorem dX3_readOrder_182 : decode cX3_readOrder 182 = .ok (.goto 4, 3) := by decide +kernel
theorem dX3_readOrder_185 : decode cX3_readOrder 185 = .ok (.iconst 0, 1) := by decide +kernel
theorem dX3_readOrder_186 : decode cX3_readOrder 186 = .ok (.ireturn, 1) := by decide +kernel
theorem dX3_readOrder_187 : decode cX3_readOrder 187 = .ok (.iconst 0, 1) := by decide +kernel
theorem dX3_readOrder_188 : decode cX3_readOrder 188 = .ok (.ireturn, 1) := by decide +kernel
theorem dX3_readGoals_0 : decode cX3_readGoals 0 = .ok (.iconst 0, 1) := by decide +kernel
theorem dX3_readGoals_1 : decode cX3_readGoals 1 = .ok (.istore_n 1, 1) := by decide +kernel
theorem dX3_readGoals_2 : decode cX3_readGoals 2 = .ok (.iload_n 1, 1) := by decide +kernel
theorem dX3_readGoals_3 : decode cX3_readGoals 3 = .ok (.bipush 80, 2) := by decide +kernel
theorem dX3_readGoals_5 : decode cX3_readGoals 5 = .ok (.if_icmp .ge 72, 3) := by decide +kernel
theorem dX3_readGoals_8 : decode cX3_readGoals 8 = .ok (.aload_n 0, 1) := by decide +kernel
theorem dX3_readGoals_9 : decode cX3_readGoals 9 = .ok (.invokevirtual 40, 3) := by decide +kernel
theorem dX3_readGoals_12 : decode cX3_readGoals 12 = .ok (.bipush 62, 2) := by decide +kernel
theorem dX3_readGoals_14 : decode cX3_readGoals 14 = .ok (.if_icmp .ne 63, 3) := by decide +kernel
theorem dX3_readGoals_17 : decode cX3_readGoals 17 = .ok (.aload_n 0, 1) := by decide +kernel
theorem dX3_readGoals_18 : decode cX3_readGoals 18 = .ok (.dup, 1) := by decide +kernel
theorem dX3_readGoals_19 : decode cX3_readGoals 19 = .ok (.getfield 23, 3) := by decide +kernel
theorem dX3_readGoals_22 : decode cX3_readGoals 22 = .ok (.iconst 1, 1) := by decide +kernel
theorem dX3_readGoals_23 : decode cX3_readGoals 23 = .ok (.iadd, 1) := by decide +kernel
theorem dX3_readGoals_24 : decode cX3_readGoals 24 = .ok (.putfield 23, 3) := by decide +kernel
theorem dX3_readGoals_27 : decode cX3_readGoals 27 = .ok (.aload_n 0, 1) := by decide +kernel
theorem dX3_readGoals_28 : decode cX3_readGoals 28 = .ok (.invokevirtual 47, 3) := by decide +kernel
theorem dX3_readGoals_31 : decode cX3_readGoals 31 = .ok (.ifCond .ne 5, 3) := by decide +kernel
theorem dX3_readGoals_34 : decode cX3_readGoals 34 = .ok (.iconst 0, 1) := by decide +kernel
theorem dX3_readGoals_35 : decode cX3_readGoals 35 = .ok (.ireturn, 1) := by decide +kernel
theorem dX3_readGoals_36 : decode cX3_readGoals 36 = .ok (.aload_n 0, 1) := by decide +kernel
theorem dX3_readGoals_37 : decode cX3_readGoals 37 = .ok (.invokevirtual 40, 3) := by decide +kernel
theorem dX3_readGoals_40 : decode cX3_readGoals 40 = .ok (.bipush 42, 2) := by decide +kernel
theorem dX3_readGoals_42 : decode cX3_readGoals 42 = .ok (.if_icmp .eq 11, 3) := by decide +kernel
theorem dX3_readGoals_45 : decode cX3_readGoals 45 = .ok (.aload_n 0, 1) := by decide +kernel
theorem dX3_readGoals_46 : decode cX3_readGoals 46 = .ok (.iconst 0, 1) := by decide +kernel
theorem dX3_readGoals_47 : decode cX3_readGoals 47 = .ok (.invokevirtual 56, 3) := by decide +kernel
theorem dX3_readGoals_50 : decode cX3_readGoals 50 = .ok (.goto 21, 3) := by decide +kernel
theorem dX3_readGoals_53 : decode cX3_readGoals 53 = .ok (.aload_n 0, 1) := by decide +kernel
theorem dX3_readGoals_54 : decode cX3_readGoals 54 = .ok (.bipush 42, 2) := by decide +kernel
theorem dX3_readGoals_56 : decode cX3_readGoals 56 = .ok (.invokevirtual 33, 3) := by decide +kernel
theorem dX3_readGoals_59 : decode cX3_readGoals 59 = .ok (.ifCond .eq 10, 3) := by decide +kernel
theorem dX3_readGoals_62 : decode cX3_readGoals 62 = .ok (.aload_n 0, 1) := by decide +kernel
theorem dX3_readGoals_63 : decode cX3_readGoals 63 = .ok (.invokevirtual 47, 3) := by decide +kernel
theorem dX3_readGoals_66 : decode cX3_readGoals 66 = .ok (.ifCond .ne 5, 3) := by decide +kernel
theorem dX3_readGoals_69 : decode cX3_readGoals 69 = .ok (.iconst 0, 1) := by decide +kernel
theorem dX3_readGoals_70 : decode cX3_readGoals 70 = .ok (.ireturn, 1) := by decide +kernel
theorem dX3_readGoals_71 : decode cX3_readGoals 71 = .ok (.iinc 1 1, 3) := by decide +kernel
theorem dX3_readGoals_74 : decode cX3_readGoals 74 = .ok (.goto (-72), 3) := by decide +kernel
theorem dX3_readGoals_77 : decode cX3_readGoals 77 = .ok (.iconst 1, 1) := by decide +kernel
theorem dX3_readGoals_78 : decode cX3_readGoals 78 = .ok (.ireturn, 1) := by decide +kernel
theorem dX3_readMode_0 : decode cX3_readMode 0 = .ok (.aload_n 0, 1) := by decide +kernel
theorem dX3_readMode_1 : decode cX3_readMode 1 = .ok (.invokevirtual 40, 3) := by decide +kernel
theorem dX3_readMode_4 : decode cX3_readMode 4 = .ok (.istore_n 1, 1) := by decide +kernel
theorem dX3_readMode_5 : decode cX3_readMode 5 = .ok (.iload_n 1, 1) := by decide +kernel
theorem dX3_readMode_6 : decode cX3_readMode 6 = .ok (.bipush 48, 2) := by decide +kernel
theorem dX3_readMode_8 : decode cX3_readMode 8 = .ok (.if_icmp .lt 9, 3) := by decide +kernel
theorem dX3_readMode_11 : decode cX3_readMode 11 = .ok (.iload_n 1, 1) := by decide +kernel
theorem dX3_readMode_12 : decode cX3_readMode 12 = .ok (.bipush 50, 2) := by decide +kernel
theorem dX3_readMode_14 : decode cX3_readMode 14 = .ok (.if_icmp .le 5, 3) := by decide +kernel
theorem dX3_readMode_17 : decode cX3_readMode 17 = .ok (.iconst 0, 1) := by decide +kernel
theorem dX3_readMode_18 : decode cX3_readMode 18 = .ok (.ireturn, 1) := by decide +kernel
theorem dX3_readMode_19 : decode cX3_readMode 19 = .ok (.aload_n 0, 1) := by decide +kernel
theorem dX3_readMode_20 : decode cX3_readMode 20 = .ok (.iload_n 1, 1) := by decide +kernel
theorem dX3_readMode_21 : decode cX3_readMode 21 = .ok (.bipush 48, 2) := by decide +kernel
theorem dX3_readMode_23 : decode cX3_readMode 23 = .ok (.isub, 1) := by decide +kernel
theorem dX3_readMode_24 : decode cX3_readMode 24 = .ok (.invokevirtual 56, 3) := by decide +kernel
theorem dX3_readMode_27 : decode cX3_readMode 27 = .ok (.aload_n 0, 1) := by decide +kernel
theorem dX3_readMode_28 : decode cX3_readMode 28 = .ok (.dup, 1) := by decide +kernel
theorem dX3_readMode_29 : decode cX3_readMode 29 = .ok (.getfield 23, 3) := by decide +kernel
theorem dX3_readMode_32 : decode cX3_readMode 32 = .ok (.iconst 1, 1) := by decide +kernel
theorem dX3_readMode_33 : decode cX3_readMode 33 = .ok (.iadd, 1) := by decide +kernel
theorem dX3_readMode_34 : decode cX3_readMode 34 = .ok (.putfield 23, 3) := by decide +kernel
theorem dX3_readMode_37 : decode cX3_readMode 37 = .ok (.iconst 1, 1) := by decide +kernel
theorem dX3_readMode_38 : decode cX3_readMode 38 = .ok (.ireturn, 1) := by decide +kernel
theorem dX3_readNumber_0 : decode cX3_readNumber 0 = .ok (.aload_n 0, 1) := by decide +kernel
theorem dX3_readNumber_1 : decode cX3_readNumber 1 = .ok (.invokevirtual 40, 3) := by decide +kernel
theorem dX3_readNumber_4 : decode cX3_readNumber 4 = .ok (.invokestatic 60, 3) := by decide +kernel
theorem dX3_readNumber_7 : decode cX3_readNumber 7 = .ok (.ifCond .ne 5, 3) := by decide +kernel
theorem dX3_readNumber_10 : decode cX3_readNumber 10 = .ok (.iconst 0, 1) := by decide +kernel
theorem dX3_readNumber_11 : decode cX3_readNumber 11 = .ok (.ireturn, 1) := by decide +kernel
theorem dX3_readNumber_12 : decode cX3_readNumber 12 = .ok (.aload_n 0, 1) := by decide +kernel
theorem dX3_readNumber_13 : decode cX3_readNumber 13 = .ok (.invokevirtual 40, 3) := by decide +kernel
theorem dX3_readNumber_16 : decode cX3_readNumber 16 = .ok (.bipush 48, 2) := by decide +kernel
theorem dX3_readNumber_18 : decode cX3_readNumber 18 = .ok (.if_icmp .ne 7, 3) := by decide +kernel
theorem dX3_readNumber_21 : decode cX3_readNumber 21 = .ok (.iconst 1, 1) := by decide +kernel
theorem dX3_readNumber_22 : decode cX3_readNumber 22 = .ok (.goto 4, 3) := by decide +kernel
theorem dX3_readNumber_25 : decode cX3_readNumber 25 = .ok (.iconst 3, 1) := by decide +kernel
theorem dX3_readNumber_26 : decode cX3_readNumber 26 = .ok (.istore_n 1, 1) := by decide +kernel
theorem dX3_readNumber_27 : decode cX3_readNumber 27 = .ok (.iconst 0, 1) := by decide +kernel
theorem dX3_readNumber_28 : decode cX3_readNumber 28 = .ok (.istore_n 2, 1) := by decide +kernel
theorem dX3_readNumber_29 : decode cX3_readNumber 29 = .ok (.iconst 0, 1) := by decide +kernel
theorem dX3_readNumber_30 : decode cX3_readNumber 30 = .ok (.istore_n 3, 1) := by decide +kernel
theorem dX3_readNumber_31 : decode cX3_readNumber 31 = .ok (.iload_n 3, 1) := by decide +kernel
theorem dX3_readNumber_32 : decode cX3_readNumber 32 = .ok (.iload_n 1, 1) := by decide +kernel
theorem dX3_readNumber_33 : decode cX3_readNumber 33 = .ok (.if_icmp .ge 42, 3) := by decide +kernel
theorem dX3_readNumber_36 : decode cX3_readNumber 36 = .ok (.aload_n 0, 1) := by decide +kernel
theorem dX3_readNumber_37 : decode cX3_readNumber 37 = .ok (.invokevirtual 40, 3) := by decide +kernel
theorem dX3_readNumber_40 : decode cX3_readNumber 40 = .ok (.invokestatic 60, 3) := by decide +kernel
theorem dX3_readNumber_43 : decode cX3_readNumber 43 = .ok (.ifCond .eq 32, 3) := by decide +kernel
theorem dX3_readNumber_46 : decode cX3_readNumber 46 = .ok (.bipush 10, 2) := by decide +kernel
theorem dX3_readNumber_48 : decode cX3_readNumber 48 = .ok (.iload_n 2, 1) := by decide +kernel
theorem dX3_readNumber_49 : decode cX3_readNumber 49 = .ok (.imul, 1) := by decide +kernel
theorem dX3_readNumber_50 : decode cX3_readNumber 50 = .ok (.aload_n 0, 1) := by decide +kernel
theorem dX3_readNumber_51 : decode cX3_readNumber 51 = .ok (.invokevirtual 40, 3) := by decide +kernel
theorem dX3_readNumber_54 : decode cX3_readNumber 54 = .ok (.bipush 48, 2) := by decide +kernel
theorem dX3_readNumber_56 : decode cX3_readNumber 56 = .ok (.isub, 1) := by decide +kernel
theorem dX3_readNumber_57 : decode cX3_readNumber 57 = .ok (.iadd, 1) := by decide +kernel
theorem dX3_readNumber_58 : decode cX3_readNumber 58 = .ok (.istore_n 2, 1) := by decide +kernel
theorem dX3_readNumber_59 : decode cX3_readNumber 59 = .ok (.aload_n 0, 1) := by decide +kernel
theorem dX3_readNumber_60 : decode cX3_readNumber 60 = .ok (.dup, 1) := by decide +kernel
theorem dX3_readNumber_61 : decode cX3_readNumber 61 = .ok (.getfield 23, 3) := by decide +kernel
theorem dX3_readNumber_64 : decode cX3_readNumber 64 = .ok (.iconst 1, 1) := by decide +kernel
theorem dX3_readNumber_65 : decode cX3_readNumber 65 = .ok (.iadd, 1) := by decide +kernel
theorem dX3_readNumber_66 : decode cX3_readNumber 66 = .ok (.putfield 23, 3) := by decide +kernel
theorem dX3_readNumber_69 : decode cX3_readNumber 69 = .ok (.iinc 3 1, 3) := by decide +kernel
theorem dX3_readNumber_72 : decode cX3_readNumber 72 = .ok (.goto (-41), 3) := by decide +kernel
theorem dX3_readNumber_75 : decode cX3_readNumber 75 = .ok (.aload_n 0, 1) := by decide +kernel
theorem dX3_readNumber_76 : decode cX3_readNumber 76 = .ok (.iload_n 2, 1) := by decide +kernel
theorem dX3_readNumber_77 : decode cX3_readNumber 77 = .ok (.invokevirtual 56, 3) := by decide +kernel
theorem dX3_readNumber_80 : decode cX3_readNumber 80 = .ok (.iconst 1, 1) := by decide +kernel
theorem dX3_readNumber_81 : decode cX3_readNumber 81 = .ok (.ireturn, 1) := by decide +kernel
theorem dX3_readSign_0 : decode cX3_readSign 0 = .ok (.aload_n 0, 1) := by decide +kernel
theorem dX3_readSign_1 : decode cX3_readSign 1 = .ok (.invokevirtual 40, 3) := by decide +kernel
theorem dX3_readSign_4 : decode cX3_readSign 4 = .ok (.iload_n 1, 1) := by decide +kernel
theorem dX3_readSign_5 : decode cX3_readSign 5 = .ok (.if_icmp .eq 5, 3) := by decide +kernel
theorem dX3_readSign_8 : decode cX3_readSign 8 = .ok (.iconst 0, 1) := by decide +kernel
theorem dX3_readSign_9 : decode cX3_readSign 9 = .ok (.ireturn, 1) := by decide +kernel
theorem dX3_readSign_10 : decode cX3_readSign 10 = .ok (.aload_n 0, 1) := by decide +kernel
theorem dX3_readSign_11 : decode cX3_readSign 11 = .ok (.dup, 1) := by decide +kernel
theorem dX3_readSign_12 : decode cX3_readSign 12 = .ok (.getfield 23, 3) := by decide +kernel
theorem dX3_readSign_15 : decode cX3_readSign 15 = .ok (.iconst 1, 1) := by decide +kernel
theorem dX3_readSign_16 : decode cX3_readSign 16 = .ok (.iadd, 1) := by decide +kernel
theorem dX3_readSign_17 : decode cX3_readSign 17 = .ok (.putfield 23, 3) := by decide +kernel
theorem dX3_readSign_20 : decode cX3_readSign 20 = .ok (.iconst 1, 1) := by decide +kernel
theorem dX3_readSign_21 : decode cX3_readSign 21 = .ok (.ireturn, 1) := by decide +kernel
theorem dX3_keepNumber_0 : decode cX3_keepNumber 0 = .ok (.aload_n 0, 1) := by decide +kernel
theorem dX3_keepNumber_1 : decode cX3_keepNumber 1 = .ok (.getfield 37, 3) := by decide +kernel
theorem dX3_keepNumber_4 : decode cX3_keepNumber 4 = .ok (.bipush 80, 2) := by decide +kernel
theorem dX3_keepNumber_6 : decode cX3_keepNumber 6 = .ok (.if_icmp .ge 23, 3) := by decide +kernel
theorem dX3_keepNumber_9 : decode cX3_keepNumber 9 = .ok (.aload_n 0, 1) := by decide +kernel
theorem dX3_keepNumber_10 : decode cX3_keepNumber 10 = .ok (.getfield 15, 3) := by decide +kernel
theorem dX3_keepNumber_13 : decode cX3_keepNumber 13 = .ok (.aload_n 0, 1) := by decide +kernel
theorem dX3_keepNumber_14 : decode cX3_keepNumber 14 = .ok (.getfield 37, 3) := by decide +kernel
theorem dX3_keepNumber_17 : decode cX3_keepNumber 17 = .ok (.iload_n 1, 1) := by decide +kernel
theorem dX3_keepNumber_18 : decode cX3_keepNumber 18 = .ok (.iastore, 1) := by decide +kernel
theorem dX3_keepNumber_19 : decode cX3_keepNumber 19 = .ok (.aload_n 0, 1) := by decide +kernel
theorem dX3_keepNumber_20 : decode cX3_keepNumber 20 = .ok (.dup, 1) := by decide +kernel
theorem dX3_keepNumber_21 : decode cX3_keepNumber 21 = .ok (.getfield 37, 3) := by decide +kernel
theorem dX3_keepNumber_24 : decode cX3_keepNumber 24 = .ok (.iconst 1, 1) := by decide +kernel
theorem dX3_keepNumber_25 : decode cX3_keepNumber 25 = .ok (.iadd, 1) := by decide +kernel
theorem dX3_keepNumber_26 : decode cX3_keepNumber 26 = .ok (.putfield 37, 3) := by decide +kernel
theorem dX3_keepNumber_29 : decode cX3_keepNumber 29 = .ok (.return_, 1) := by decide +kernel
theorem dX3_sign_0 : decode cX3_sign 0 = .ok (.aload_n 0, 1) := by decide +kernel
theorem dX3_sign_1 : decode cX3_sign 1 = .ok (.getfield 23, 3) := by decide +kernel
theorem dX3_sign_4 : decode cX3_sign 4 = .ok (.aload_n 0, 1) := by decide +kernel
theorem dX3_sign_5 : decode cX3_sign 5 = .ok (.getfield 19, 3) := by decide +kernel
theorem dX3_sign_8 : decode cX3_sign 8 = .ok (.if_icmp .ge 24, 3) := by decide +kernel
theorem dX3_sign_11 : decode cX3_sign 11 = .ok (.aload_n 0, 1) := by decide +kernel
theorem dX3_sign_12 : decode cX3_sign 12 = .ok (.getfield 23, 3) := by decide +kernel
theorem dX3_sign_15 : decode cX3_sign 15 = .ok (.bipush 80, 2) := by decide +kernel
theorem dX3_sign_17 : decode cX3_sign 17 = .ok (.if_icmp .ge 15, 3) := by decide +kernel
theorem dX3_sign_20 : decode cX3_sign 20 = .ok (.aload_n 0, 1) := by decide +kernel
theorem dX3_sign_21 : decode cX3_sign 21 = .ok (.getfield 9, 3) := by decide +kernel
theorem dX3_sign_24 : decode cX3_sign 24 = .ok (.aload_n 0, 1) := by decide +kernel
theorem dX3_sign_25 : decode cX3_sign 25 = .ok (.getfield 23, 3) := by decide +kernel
theorem dX3_sign_28 : decode cX3_sign 28 = .ok (.caload, 1) := by decide +kernel
theorem dX3_sign_29 : decode cX3_sign 29 = .ok (.goto 4, 3) := by decide +kernel
theorem dX3_sign_32 : decode cX3_sign 32 = .ok (.iconst 0, 1) := by decide +kernel
theorem dX3_sign_33 : decode cX3_sign 33 = .ok (.ireturn, 1) := by decide +kernel
theorem dX3_isDigit_0 : decode cX3_isDigit 0 = .ok (.iload_n 0, 1) := by decide +kernel
theorem dX3_isDigit_1 : decode cX3_isDigit 1 = .ok (.bipush 48, 2) := by decide +kernel
theorem dX3_isDigit_3 : decode cX3_isDigit 3 = .ok (.if_icmp .lt 13, 3) := by decide +kernel
theorem dX3_isDigit_6 : decode cX3_isDigit 6 = .ok (.iload_n 0, 1) := by decide +kernel
theorem dX3_isDigit_7 : decode cX3_isDigit 7 = .ok (.bipush 57, 2) := by decide +kernel
theorem dX3_isDigit_9 : decode cX3_isDigit 9 = .ok (.if_icmp .gt 7, 3) := by decide +kernel
theorem dX3_isDigit_12 : decode cX3_isDigit 12 = .ok (.iconst 1, 1) := by decide +kernel
theorem dX3_isDigit_13 : decode cX3_isDigit 13 = .ok (.goto 4, 3) := by decide +kernel
theorem dX3_isDigit_16 : decode cX3_isDigit 16 = .ok (.iconst 0, 1) := by decide +kernel
theorem dX3_isDigit_17 : decode cX3_isDigit 17 = .ok (.ireturn, 1) := by decide +kernel
theorem dX4_init_0 : decode cX4_init 0 = .ok (.aload_n 0, 1) := by decide +kernel
theorem dX4_init_1 : decode cX4_init 1 = .ok (.invokespecial 3, 3) := by decide +kernel
theorem dX4_init_4 : decode cX4_init 4 = .ok (.aload_n 0, 1) := by decide +kernel
theorem dX4_init_5 : decode cX4_init 5 = .ok (.bipush 6, 2) := by decide +kernel
theorem dX4_init_7 : decode cX4_init 7 = .ok (.newarray .int, 2) := by decide +kernel
theorem dX4_init_9 : decode cX4_init 9 = .ok (.putfield 9, 3) := by decide +kernel
theorem dX4_init_12 : decode cX4_init 12 = .ok (.aload_n 0, 1) := by decide +kernel
theorem dX4_init_13 : decode cX4_init 13 = .ok (.bipush 16, 2) := by decide +kernel
theorem dX4_init_15 : decode cX4_init 15 = .ok (.anewarray 15, 3) := by decide +kernel
theorem dX4_init_18 : decode cX4_init 18 = .ok (.putfield 17, 3) := by decide +kernel
theorem dX4_init_21 : decode cX4_init 21 = .ok (.aload_n 0, 1) := by decide +kernel
theorem dX4_init_22 : decode cX4_init 22 = .ok (.bipush 8, 2) := by decide +kernel
theorem dX4_init_24 : decode cX4_init 24 = .ok (.anewarray 21, 3) := by decide +kernel
theorem dX4_init_27 : decode cX4_init 27 = .ok (.putfield 23, 3) := by decide +kernel
theorem dX4_init_30 : decode cX4_init 30 = .ok (.aload_n 0, 1) := by decide +kernel
theorem dX4_init_31 : decode cX4_init 31 = .ok (.bipush 8, 2) := by decide +kernel
theorem dX4_init_33 : decode cX4_init 33 = .ok (.anewarray 27, 3) := by decide +kernel
theorem dX4_init_36 : decode cX4_init 36 = .ok (.putfield 29, 3) := by decide +kernel
theorem dX4_init_39 : decode cX4_init 39 = .ok (.getstatic 33, 3) := by decide +kernel
theorem dX4_init_42 : decode cX4_init 42 = .ok (.iconst 0, 1) := by decide +kernel
theorem dX4_init_43 : decode cX4_init 43 = .ok (.aload_n 0, 1) := by decide +kernel
theorem dX4_init_44 : decode cX4_init 44 = .ok (.getfield 9, 3) := by decide +kernel
theorem dX4_init_47 : decode cX4_init 47 = .ok (.iconst 0, 1) := by decide +kernel
theorem dX4_init_48 : decode cX4_init 48 = .ok (.bipush 6, 2) := by decide +kernel
theorem dX4_init_50 : decode cX4_init 50 = .ok (.invokestatic 36, 3) := by decide +kernel
theorem dX4_init_53 : decode cX4_init 53 = .ok (.iconst 0, 1) := by decide +kernel
theorem dX4_init_54 : decode cX4_init 54 = .ok (.istore_n 1, 1) := by decide +kernel
theorem dX4_init_55 : decode cX4_init 55 = .ok (.iload_n 1, 1) := by decide +kernel
theorem dX4_init_56 : decode cX4_init 56 = .ok (.bipush 16, 2) := by decide +kernel
theorem dX4_init_58 : decode cX4_init 58 = .ok (.if_icmp .ge 22, 3) := by decide +kernel
theorem dX4_init_61 : decode cX4_init 61 = .ok (.aload_n 0, 1) := by decide +kernel
theorem dX4_init_62 : decode cX4_init 62 = .ok (.getfield 17, 3) := by decide +kernel
theorem dX4_init_65 : decode cX4_init 65 = .ok (.iload_n 1, 1) := by decide +kernel
theorem dX4_init_66 : decode cX4_init 66 = .ok (.new 15, 3) := by decide +kernel
theorem dX4_init_69 : decode cX4_init 69 = .ok (.dup, 1) := by decide +kernel
theorem dX4_init_70 : decode cX4_init 70 = .ok (.invokespecial 42, 3) := by decide +kernel
theorem dX4_init_73 : decode cX4_init 73 = .ok (.aastore, 1) := by decide +kernel
theorem dX4_init_74 : decode cX4_init 74 = .ok (.iinc 1 1, 3) := by decide +kernel
theorem dX4_init_77 : decode cX4_init 77 = .ok (.goto (-22), 3) := by decide +kernel
theorem dX4_init_80 : decode cX4_init 80 = .ok (.iconst 0, 1) := by decide +kernel
theorem dX4_init_81 : decode cX4_init 81 = .ok (.istore_n 1, 1) := by decide +kernel
theorem dX4_init_82 : decode cX4_init 82 = .ok (.iload_n 1, 1) := by decide +kernel
theorem dX4_init_83 : decode cX4_init 83 = .ok (.bipush 8, 2) := by decide +kernel
theorem dX4_init_85 : decode cX4_init 85 = .ok (.if_icmp .ge 22, 3) := by decide +kernel
theorem dX4_init_88 : decode cX4_init 88 = .ok (.aload_n 0, 1) := by decide +kernel
theorem dX4_init_89 : decode cX4_init 89 = .ok (.getfield 23, 3) := by decide +kernel
theorem dX4_init_92 : decode cX4_init 92 = .ok (.iload_n 1, 1) := by decide +kernel
theorem dX4_init_93 : decode cX4_init 93 = .ok (.new 21, 3) := by decide +kernel
theorem dX4_init_96 : decode cX4_init 96 = .ok (.dup, 1) := by decide +kernel
theorem dX4_init_97 : decode cX4_init 97 = .ok (.invokespecial 43, 3) := by decide +kernel
theorem dX4_init_100 : decode cX4_init 100 = .ok (.aastore, 1) := by decide +kernel
theorem dX4_init_101 : decode cX4_init 101 = .ok (.iinc 1 1, 3) := by decide +kernel
theorem dX4_init_104 : decode cX4_init 104 = .ok (.goto (-22), 3) := by decide +kernel
theorem dX4_init_107 : decode cX4_init 107 = .ok (.iconst 0, 1) := by decide +kernel
theorem dX4_init_108 : decode cX4_init 108 = .ok (.istore_n 1, 1) := by decide +kernel
theorem dX4_init_109 : decode cX4_init 109 = .ok (.iload_n 1, 1) := by decide +kernel
theorem dX4_init_110 : decode cX4_init 110 = .ok (.bipush 8, 2) := by decide +kernel
theorem dX4_init_112 : decode cX4_init 112 = .ok (.if_icmp .ge 22, 3) := by decide +kernel
theorem dX4_init_115 : decode cX4_init 115 = .ok (.aload_n 0, 1) := by decide +kernel
theorem dX4_init_116 : decode cX4_init 116 = .ok (.getfield 29, 3) := by decide +kernel
theorem dX4_init_119 : decode cX4_init 119 = .ok (.iload_n 1, 1) := by decide +kernel
theorem dX4_init_120 : decode cX4_init 120 = .ok (.new 27, 3) := by decide +kernel
theorem dX4_init_123 : decode cX4_init 123 = .ok (.dup, 1) := by decide +kernel
theorem dX4_init_124 : decode cX4_init 124 = .ok (.invokespecial 44, 3) := by decide +kernel
theorem dX4_init_127 : decode cX4_init 127 = .ok (.aastore, 1) := by decide +kernel
theorem dX4_init_128 : decode cX4_init 128 = .ok (.iinc 1 1, 3) := by decide +kernel
theorem dX4_init_131 : decode cX4_init 131 = .ok (.goto (-22), 3) := by decide +kernel
theorem dX4_init_134 : decode cX4_init 134 = .ok (.return_, 1) := by decide +kernel
theorem dX4_become_0 : decode cX4_become 0 = .ok (.aload_n 1, 1) := by decide +kernel
theorem dX4_become_1 : decode cX4_become 1 = .ok (.getfield 9, 3) := by decide +kernel
theorem dX4_become_4 : decode cX4_become 4 = .ok (.iconst 0, 1) := by decide +kernel
theorem dX4_become_5 : decode cX4_become 5 = .ok (.aload_n 0, 1) := by decide +kernel
theorem dX4_become_6 : decode cX4_become 6 = .ok (.getfield 9, 3) := by decide +kernel
theorem dX4_become_9 : decode cX4_become 9 = .ok (.iconst 0, 1) := by decide +kernel
theorem dX4_become_10 : decode cX4_become 10 = .ok (.bipush 6, 2) := by decide +kernel
theorem dX4_become_12 : decode cX4_become 12 = .ok (.invokestatic 36, 3) := by decide +kernel
theorem dX4_become_15 : decode cX4_become 15 = .ok (.aload_n 0, 1) := by decide +kernel
theorem dX4_become_16 : decode cX4_become 16 = .ok (.aload_n 1, 1) := by decide +kernel
theorem dX4_become_17 : decode cX4_become 17 = .ok (.getfield 45, 3) := by decide +kernel
theorem dX4_become_20 : decode cX4_become 20 = .ok (.putfield 45, 3) := by decide +kernel
theorem dX4_become_23 : decode cX4_become 23 = .ok (.iconst 0, 1) := by decide +kernel
theorem dX4_become_24 : decode cX4_become 24 = .ok (.istore_n 2, 1) := by decide +kernel
theorem dX4_become_25 : decode cX4_become 25 = .ok (.iload_n 2, 1) := by decide +kernel
theorem dX4_become_26 : decode cX4_become 26 = .ok (.aload_n 0, 1) := by decide +kernel
theorem dX4_become_27 : decode cX4_become 27 = .ok (.getfield 45, 3) := by decide +kernel
theorem dX4_become_30 : decode cX4_become 30 = .ok (.if_icmp .ge 24, 3) := by decide +kernel
theorem dX4_become_33 : decode cX4_become 33 = .ok (.aload_n 0, 1) := by decide +kernel
theorem dX4_become_34 : decode cX4_become 34 = .ok (.getfield 17, 3) := by decide +kernel
theorem dX4_become_37 : decode cX4_become 37 = .ok (.iload_n 2, 1) := by decide +kernel
theorem dX4_become_38 : decode cX4_become 38 = .ok (.aaload, 1) := by decide +kernel
theorem dX4_become_39 : decode cX4_become 39 = .ok (.aload_n 1, 1) := by decide +kernel
theorem dX4_become_40 : decode cX4_become 40 = .ok (.getfield 17, 3) := by decide +kernel
theorem dX4_become_43 : decode cX4_become 43 = .ok (.iload_n 2, 1) := by decide +kernel
theorem dX4_become_44 : decode cX4_become 44 = .ok (.aaload, 1) := by decide +kernel
theorem dX4_become_45 : decode cX4_become 45 = .ok (.invokevirtual 49, 3) := by decide +kernel
theorem dX4_become_48 : decode cX4_become 48 = .ok (.iinc 2 1, 3) := by decide +kernel
theorem dX4_become_51 : decode cX4_become 51 = .ok (.goto (-26), 3) := by decide +kernel
theorem dX4_become_54 : decode cX4_become 54 = .ok (.aload_n 0, 1) := by decide +kernel
theorem dX4_become_55 : decode cX4_become 55 = .ok (.aload_n 1, 1) := by decide +kernel
theorem dX4_become_56 : decode cX4_become 56 = .ok (.getfield 53, 3) := by decide +kernel
theorem dX4_become_59 : decode cX4_become 59 = .ok (.putfield 53, 3) := by decide +kernel
theorem dX4_become_62 : decode cX4_become 62 = .ok (.iconst 0, 1) := by decide +kernel
theorem dX4_become_63 : decode cX4_become 63 = .ok (.istore_n 2, 1) := by decide +kernel
theorem dX4_become_64 : decode cX4_become 64 = .ok (.iload_n 2, 1) := by decide +kernel
theorem dX4_become_65 : decode cX4_become 65 = .ok (.aload_n 0, 1) := by decide +kernel
theorem dX4_become_66 : decode cX4_become 66 = .ok (.getfield 53, 3) := by decide +kernel
theorem dX4_become_69 : decode cX4_become 69 = .ok (.if_icmp .ge 24, 3) := by decide +kernel
theorem dX4_become_72 : decode cX4_become 72 = .ok (.aload_n 0, 1) := by decide +kernel
theorem dX4_become_73 : decode cX4_become 73 = .ok (.getfield 23, 3) := by decide +kernel
theorem dX4_become_76 : decode cX4_become 76 = .ok (.iload_n 2, 1) := by decide +kernel
theorem dX4_become_77 : decode cX4_become 77 = .ok (.aaload, 1) := by decide +kernel
theorem dX4_become_78 : decode cX4_become 78 = .ok (.aload_n 1, 1) := by decide +kernel
theorem dX4_become_79 : decode cX4_become 79 = .ok (.getfield 23, 3) := by decide +kernel
theorem dX4_become_82 : decode cX4_become 82 = .ok (.iload_n 2, 1) := by decide +kernel
theorem dX4_become_83 : decode cX4_become 83 = .ok (.aaload, 1) := by decide +kernel
theorem dX4_become_84 : decode cX4_become 84 = .ok (.invokevirtual 56, 3) := by decide +kernel
theorem dX4_become_87 : decode cX4_become 87 = .ok (.iinc 2 1, 3) := by decide +kernel
theorem dX4_become_90 : decode cX4_become 90 = .ok (.goto (-26), 3) := by decide +kernel
theorem dX4_become_93 : decode cX4_become 93 = .ok (.aload_n 0, 1) := by decide +kernel
theorem dX4_become_94 : decode cX4_become 94 = .ok (.aload_n 1, 1) := by decide +kernel
theorem dX4_become_95 : decode cX4_become 95 = .ok (.getfield 59, 3) := by decide +kernel
theorem dX4_become_98 : decode cX4_become 98 = .ok (.putfield 59, 3) := by decide +kernel
theorem dX4_become_101 : decode cX4_become 101 = .ok (.iconst 0, 1) := by decide +kernel
theorem dX4_become_102 : decode cX4_become 102 = .ok (.istore_n 2, 1) := by decide +kernel
theorem dX4_become_103 : decode cX4_become 103 = .ok (.iload_n 2, 1) := by decide +kernel
theorem dX4_become_104 : decode cX4_become 104 = .ok (.aload_n 0, 1) := by decide +kernel
theorem dX4_become_105 : decode cX4_become 105 = .ok (.getfield 59, 3) := by decide +kernel
theorem dX4_become_108 : decode cX4_become 108 = .ok (.if_icmp .ge 24, 3) := by decide +kernel
theorem dX4_become_111 : decode cX4_become 111 = .ok (.aload_n 0, 1) := by decide +kernel
theorem dX4_become_112 : decode cX4_become 112 = .ok (.getfield 29, 3) := by decide +kernel
theorem dX4_become_115 : decode cX4_become 115 = .ok (.iload_n 2, 1) := by decide +kernel
theorem dX4_become_116 : decode cX4_become 116 = .ok (.aaload, 1) := by decide +kernel
theorem dX4_become_117 : decode cX4_become 117 = .ok (.aload_n 1, 1) := by decide +kernel
theorem dX4_become_118 : decode cX4_become 118 = .ok (.getfield 29, 3) := by decide +kernel
theorem dX4_become_121 : decode cX4_become 121 = .ok (.iload_n 2, 1) := by decide +kernel
theorem dX4_become_122 : decode cX4_become 122 = .ok (.aaload, 1) := by decide +kernel
theorem dX4_become_123 : decode cX4_become 123 = .ok (.invokevirtual 62, 3) := by decide +kernel
theorem dX4_become_126 : decode cX4_become 126 = .ok (.iinc 2 1, 3) := by decide +kernel
theorem dX4_become_129 : decode cX4_become 129 = .ok (.goto (-26), 3) := by decide +kernel
theorem dX4_become_132 : decode cX4_become 132 = .ok (.aload_n 0, 1) := by decide +kernel
theorem dX4_become_133 : decode cX4_become 133 = .ok (.aload_n 1, 1) := by decide +kernel
theorem dX4_become_134 : decode cX4_become 134 = .ok (.getfield 65, 3) := by decide +kernel
theorem dX4_become_137 : decode cX4_become 137 = .ok (.putfield 65, 3) := by decide +kernel
theorem dX4_become_140 : decode cX4_become 140 = .ok (.return_, 1) := by decide +kernel
theorem dX4_hasLamp_0 : decode cX4_hasLamp 0 = .ok (.iload_n 1, 1) := by decide +kernel
theorem dX4_hasLamp_1 : decode cX4_hasLamp 1 = .ok (.ifCond .lt 15, 3) := by decide +kernel
theorem dX4_hasLamp_4 : decode cX4_hasLamp 4 = .ok (.iload_n 1, 1) := by decide +kernel
theorem dX4_hasLamp_5 : decode cX4_hasLamp 5 = .ok (.aload_n 0, 1) := by decide +kernel
theorem dX4_hasLamp_6 : decode cX4_hasLamp 6 = .ok (.getfield 45, 3) := by decide +kernel
theorem dX4_hasLamp_9 : decode cX4_hasLamp 9 = .ok (.if_icmp .ge 7, 3) := by decide +kernel
theorem dX4_hasLamp_12 : decode cX4_hasLamp 12 = .ok (.iconst 1, 1) := by decide +kernel
theorem dX4_hasLamp_13 : decode cX4_hasLamp 13 = .ok (.goto 4, 3) := by decide +kernel
theorem dX4_hasLamp_16 : decode cX4_hasLamp 16 = .ok (.iconst 0, 1) := by decide +kernel
theorem dX4_hasLamp_17 : decode cX4_hasLamp 17 = .ok (.ireturn, 1) := by decide +kernel
theorem dX4_hasHouse_0 : decode cX4_hasHouse 0 = .ok (.iload_n 1, 1) := by decide +kernel
theorem dX4_hasHouse_1 : decode cX4_hasHouse 1 = .ok (.ifCond .lt 15, 3) := by decide +kernel
theorem dX4_hasHouse_4 : decode cX4_hasHouse 4 = .ok (.iload_n 1, 1) := by decide +kernel
theorem dX4_hasHouse_5 : decode cX4_hasHouse 5 = .ok (.aload_n 0, 1) := by decide +kernel
theorem dX4_hasHouse_6 : decode cX4_hasHouse 6 = .ok (.getfield 53, 3) := by decide +kernel
theorem dX4_hasHouse_9 : decode cX4_hasHouse 9 = .ok (.if_icmp .ge 7, 3) := by decide +kernel
theorem dX4_hasHouse_12 : decode cX4_hasHouse 12 = .ok (.iconst 1, 1) := by decide +kernel
theorem dX4_hasHouse_13 : decode cX4_hasHouse 13 = .ok (.goto 4, 3) := by decide +kernel
theorem dX4_hasHouse_16 : decode cX4_hasHouse 16 = .ok (.iconst 0, 1) := by decide +kernel
theorem dX4_hasHouse_17 : decode cX4_hasHouse 17 = .ok (.ireturn, 1) := by decide +kernel
theorem dX4_hasWalker_0 : decode cX4_hasWalker 0 = .ok (.iload_n 1, 1) := by decide +kernel
theorem dX4_hasWalker_1 : decode cX4_hasWalker 1 = .ok (.ifCond .lt 15, 3) := by decide +kernel
theorem dX4_hasWalker_4 : decode cX4_hasWalker 4 = .ok (.iload_n 1, 1) := by decide +kernel
theorem dX4_hasWalker_5 : decode cX4_hasWalker 5 = .ok (.aload_n 0, 1) := by decide +kernel
theorem dX4_hasWalker_6 : decode cX4_hasWalker 6 = .ok (.getfield 59, 3) := by decide +kernel
theorem dX4_hasWalker_9 : decode cX4_hasWalker 9 = .ok (.if_icmp .ge 7, 3) := by decide +kernel
theorem dX4_hasWalker_12 : decode cX4_hasWalker 12 = .ok (.iconst 1, 1) := by decide +kernel
theorem dX4_hasWalker_13 : decode cX4_hasWalker 13 = .ok (.goto 4, 3) := by decide +kernel
theorem dX4_hasWalker_16 : decode cX4_hasWalker 16 = .ok (.iconst 0, 1) := by decide +kernel
theorem dX4_hasWalker_17 : decode cX4_hasWalker 17 = .ok (.ireturn, 1) := by decide +kernel
theorem dX4_changeSetting_0 : decode cX4_changeSetting 0 = .ok (.iload_n 1, 1) := by decide +kernel
theorem dX4_changeSetting_1 : decode cX4_changeSetting 1 = .ok (.iconst 0, 1) := by decide +kernel
theorem dX4_changeSetting_2 : decode cX4_changeSetting 2 = .ok (.iconst 5, 1) := by decide +kernel
theorem dX4_changeSetting_3 : decode cX4_changeSetting 3 = .ok (.invokestatic 68, 3) := by decide +kernel
theorem dX4_changeSetting_6 : decode cX4_changeSetting 6 = .ok (.ifCond .eq 20, 3) := by decide +kernel
theorem dX4_changeSetting_9 : decode cX4_changeSetting 9 = .ok (.iload_n 2, 1) := by decide +kernel
theorem dX4_changeSetting_10 : decode cX4_changeSetting 10 = .ok (.getstatic 72, 3) := by decide +kernel
theorem dX4_changeSetting_13 : decode cX4_changeSetting 13 = .ok (.iload_n 1, 1) := by decide +kernel
theorem dX4_changeSetting_14 : decode cX4_changeSetting 14 = .ok (.iaload, 1) := by decide +kernel
theorem dX4_changeSetting_15 : decode cX4_changeSetting 15 = .ok (.getstatic 75, 3) := by decide +kernel
theorem dX4_changeSetting_18 : decode cX4_changeSetting 18 = .ok (.iload_n 1, 1) := by decide +kernel
theorem dX4_changeSetting_19 : decode cX4_changeSetting 19 = .ok (.iaload, 1) := by decide +kernel
theorem dX4_changeSetting_20 : decode cX4_changeSetting 20 = .ok (.invokestatic 68, 3) := by decide +kernel
theorem dX4_changeSetting_23 : decode cX4_changeSetting 23 = .ok (.ifCond .ne 6, 3) := by decide +kernel
theorem dX4_changeSetting_26 : decode cX4_changeSetting 26 = .ok (.bipush (-2), 2) := by decide +kernel
theorem dX4_changeSetting_28 : decode cX4_changeSetting 28 = .ok (.ireturn, 1) := by decide +kernel
theorem dX4_changeSetting_29 : decode cX4_changeSetting 29 = .ok (.aload_n 0, 1) := by decide +kernel
theorem dX4_changeSetting_30 : decode cX4_changeSetting 30 = .ok (.getfield 9, 3) := by decide +kernel
theorem dX4_changeSetting_33 : decode cX4_changeSetting 33 = .ok (.iload_n 1, 1) := by decide +kernel
theorem dX4_changeSetting_34 : decode cX4_changeSetting 34 = .ok (.iaload, 1) := by decide +kernel
theorem dX4_changeSetting_35 : decode cX4_changeSetting 35 = .ok (.istore_n 3, 1) := by decide +kernel
theorem dX4_changeSetting_36 : decode cX4_changeSetting 36 = .ok (.aload_n 0, 1) := by decide +kernel
theorem dX4_changeSetting_37 : decode cX4_changeSetting 37 = .ok (.getfield 9, 3) := by decide +kernel
theorem dX4_changeSetting_40 : decode cX4_changeSetting 40 = .ok (.iload_n 1, 1) := by decide +kernel
theorem dX4_changeSetting_41 : decode cX4_changeSetting 41 = .ok (.iload_n 2, 1) := by decide +kernel
theorem dX4_changeSetting_42 : decode cX4_changeSetting 42 = .ok (.iastore, 1) := by decide +kernel
theorem dX4_changeSetting_43 : decode cX4_changeSetting 43 = .ok (.iload_n 3, 1) := by decide +kernel
theorem dX4_changeSetting_44 : decode cX4_changeSetting 44 = .ok (.ireturn, 1) := by decide +kernel
theorem dX4_addLamp_0 : decode cX4_addLamp 0 = .ok (.iload_n 1, 1) := by decide +kernel
theorem dX4_addLamp_1 : decode cX4_addLamp 1 = .ok (.invokestatic 78, 3) := by decide +kernel
theorem dX4_addLamp_4 : decode cX4_addLamp 4 = .ok (.ifCond .eq 13, 3) := by decide +kernel
theorem dX4_addLamp_7 : decode cX4_addLamp 7 = .ok (.iload_n 2, 1) := by decide +kernel
theorem dX4_addLamp_8 : decode cX4_addLamp 8 = .ok (.iconst 1, 1) := by decide +kernel
theorem dX4_addLamp_9 : decode cX4_addLamp 9 = .ok (.bipush 30, 2) := by decide +kernel
theorem dX4_addLamp_11 : decode cX4_addLamp 11 = .ok (.invokestatic 68, 3) := by decide +kernel
theorem dX4_addLamp_14 : decode cX4_addLamp 14 = .ok (.ifCond .ne 6, 3) := by decide +kernel
theorem dX4_addLamp_17 : decode cX4_addLamp 17 = .ok (.bipush (-2), 2) := by decide +kernel
theorem dX4_addLamp_19 : decode cX4_addLamp 19 = .ok (.ireturn, 1) := by decide +kernel
theorem dX4_addLamp_20 : decode cX4_addLamp 20 = .ok (.aload_n 0, 1) := by decide +kernel
theorem dX4_addLamp_21 : decode cX4_addLamp 21 = .ok (.getfield 45, 3) := by decide +kernel
theorem dX4_addLamp_24 : decode cX4_addLamp 24 = .ok (.bipush 16, 2) := by decide +kernel
theorem dX4_addLamp_26 : decode cX4_addLamp 26 = .ok (.if_icmp .lt 6, 3) := by decide +kernel
theorem dX4_addLamp_29 : decode cX4_addLamp 29 = .ok (.bipush (-4), 2) := by decide +kernel
theorem dX4_addLamp_31 : decode cX4_addLamp 31 = .ok (.ireturn, 1) := by decide +kernel
theorem dX4_addLamp_32 : decode cX4_addLamp 32 = .ok (.iconst 0, 1) := by decide +kernel
theorem dX4_addLamp_33 : decode cX4_addLamp 33 = .ok (.istore_n 3, 1) := by decide +kernel
theorem dX4_addLamp_34 : decode cX4_addLamp 34 = .ok (.iload_n 3, 1) := by decide +kernel
theorem dX4_addLamp_35 : decode cX4_addLamp 35 = .ok (.aload_n 0, 1) := by decide +kernel
theorem dX4_addLamp_36 : decode cX4_addLamp 36 = .ok (.getfield 45, 3) := by decide +kernel
theorem dX4_addLamp_39 : decode cX4_addLamp 39 = .ok (.if_icmp .ge 25, 3) := by decide +kernel
theorem dX4_addLamp_42 : decode cX4_addLamp 42 = .ok (.aload_n 0, 1) := by decide +kernel
theorem dX4_addLamp_43 : decode cX4_addLamp 43 = .ok (.getfield 17, 3) := by decide +kernel
theorem dX4_addLamp_46 : decode cX4_addLamp 46 = .ok (.iload_n 3, 1) := by decide +kernel
theorem dX4_addLamp_47 : decode cX4_addLamp 47 = .ok (.aaload, 1) := by decide +kernel
theorem dX4_addLamp_48 : decode cX4_addLamp 48 = .ok (.getfield 82, 3) := by decide +kernel
theorem dX4_addLamp_51 : decode cX4_addLamp 51 = .ok (.iload_n 1, 1) := by decide +kernel
theorem dX4_addLamp_52 : decode cX4_addLamp 52 = .ok (.if_icmp .ne 6, 3) := by decide +kernel
theorem dX4_addLamp_55 : decode cX4_addLamp 55 = .ok (.bipush (-5), 2) := by decide +kernel
theorem dX4_addLamp_57 : decode cX4_addLamp 57 = .ok (.ireturn, 1) := by decide +kernel
theorem dX4_addLamp_58 : decode cX4_addLamp 58 = .ok (.iinc 3 1, 3) := by decide +kernel
theorem dX4_addLamp_61 : decode cX4_addLamp 61 = .ok (.goto (-27), 3) := by decide +kernel
theorem dX4_addLamp_64 : decode cX4_addLamp 64 = .ok (.aload_n 0, 1) := by decide +kernel
theorem dX4_addLamp_65 : decode cX4_addLamp 65 = .ok (.getfield 17, 3) := by decide +kernel
theorem dX4_addLamp_68 : decode cX4_addLamp 68 = .ok (.aload_n 0, 1) := by decide +kernel
theorem dX4_addLamp_69 : decode cX4_addLamp 69 = .ok (.getfield 45, 3) := by decide +kernel
theorem dX4_addLamp_72 : decode cX4_addLamp 72 = .ok (.aaload, 1) := by decide +kernel
theorem dX4_addLamp_73 : decode cX4_addLamp 73 = .ok (.iload_n 1, 1) := by decide +kernel
theorem dX4_addLamp_74 : decode cX4_addLamp 74 = .ok (.iload_n 2, 1) := by decide +kernel
theorem dX4_addLamp_75 : decode cX4_addLamp 75 = .ok (.invokevirtual 85, 3) := by decide +kernel
theorem dX4_addLamp_78 : decode cX4_addLamp 78 = .ok (.aload_n 0, 1) := by decide +kernel
theorem dX4_addLamp_79 : decode cX4_addLamp 79 = .ok (.dup, 1) := by decide +kernel
theorem dX4_addLamp_80 : decode cX4_addLamp 80 = .ok (.getfield 45, 3) := by decide +kernel
theorem dX4_addLamp_83 : decode cX4_addLamp 83 = .ok (.iconst 1, 1) := by decide +kernel
theorem dX4_addLamp_84 : decode cX4_addLamp 84 = .ok (.iadd, 1) := by decide +kernel
theorem dX4_addLamp_85 : decode cX4_addLamp 85 = .ok (.putfield 45, 3) := by decide +kernel
theorem dX4_addLamp_88 : decode cX4_addLamp 88 = .ok (.aload_n 0, 1) := by decide +kernel
theorem dX4_addLamp_89 : decode cX4_addLamp 89 = .ok (.getfield 45, 3) := by decide +kernel
theorem dX4_addLamp_92 : decode cX4_addLamp 92 = .ok (.iconst 1, 1) := by decide +kernel
theorem dX4_addLamp_93 : decode cX4_addLamp 93 = .ok (.isub, 1) := by decide +kernel
theorem dX4_addLamp_94 : decode cX4_addLamp 94 = .ok (.ireturn, 1) := by decide +kernel
theorem dX4_addHouse_0 : decode cX4_addHouse 0 = .ok (.iload_n 1, 1) := by decide +kernel
theorem dX4_addHouse_1 : decode cX4_addHouse 1 = .ok (.invokestatic 78, 3) := by decide +kernel
theorem dX4_addHouse_4 : decode cX4_addHouse 4 = .ok (.ifCond .ne 6, 3) := by decide +kernel
theorem dX4_addHouse_7 : decode cX4_addHouse 7 = .ok (.bipush (-2), 2) := by decide +kernel
theorem dX4_addHouse_9 : decode cX4_addHouse 9 = .ok (.ireturn, 1) := by decide +kernel
theorem dX4_addHouse_10 : decode cX4_addHouse 10 = .ok (.aload_n 0, 1) := by decide +kernel
theorem dX4_addHouse_11 : decode cX4_addHouse 11 = .ok (.getfield 53, 3) := by decide +kernel
theorem dX4_addHouse_14 : decode cX4_addHouse 14 = .ok (.bipush 8, 2) := by decide +kernel
theorem dX4_addHouse_16 : decode cX4_addHouse 16 = .ok (.if_icmp .lt 6, 3) := by decide +kernel
theorem dX4_addHouse_19 : decode cX4_addHouse 19 = .ok (.bipush (-4), 2) := by decide +kernel
theorem dX4_addHouse_21 : decode cX4_addHouse 21 = .ok (.ireturn, 1) := by decide +kernel
theorem dX4_addHouse_22 : decode cX4_addHouse 22 = .ok (.aload_n 0, 1) := by decide +kernel
theorem dX4_addHouse_23 : decode cX4_addHouse 23 = .ok (.getfield 23, 3) := by decide +kernel
theorem dX4_addHouse_26 : decode cX4_addHouse 26 = .ok (.aload_n 0, 1) := by decide +kernel
theorem dX4_addHouse_27 : decode cX4_addHouse 27 = .ok (.getfield 53, 3) := by decide +kernel
theorem dX4_addHouse_30 : decode cX4_addHouse 30 = .ok (.aaload, 1) := by decide +kernel
theorem dX4_addHouse_31 : decode cX4_addHouse 31 = .ok (.iload_n 1, 1) := by decide +kernel
theorem dX4_addHouse_32 : decode cX4_addHouse 32 = .ok (.invokevirtual 89, 3) := by decide +kernel
theorem dX4_addHouse_35 : decode cX4_addHouse 35 = .ok (.aload_n 0, 1) := by decide +kernel
theorem dX4_addHouse_36 : decode cX4_addHouse 36 = .ok (.dup, 1) := by decide +kernel
theorem dX4_addHouse_37 : decode cX4_addHouse 37 = .ok (.getfield 53, 3) := by decide +kernel
theorem dX4_addHouse_40 : decode cX4_addHouse 40 = .ok (.iconst 1, 1) := by decide +kernel
theorem dX4_addHouse_41 : decode cX4_addHouse 41 = .ok (.iadd, 1) := by decide +kernel
theorem dX4_addHouse_42 : decode cX4_addHouse 42 = .ok (.putfield 53, 3) := by decide +kernel
theorem dX4_addHouse_45 : decode cX4_addHouse 45 = .ok (.aload_n 0, 1) := by decide +kernel
theorem dX4_addHouse_46 : decode cX4_addHouse 46 = .ok (.getfield 53, 3) := by decide +kernel
theorem dX4_addHouse_49 : decode cX4_addHouse 49 = .ok (.iconst 1, 1) := by decide +kernel
theorem dX4_addHouse_50 : decode cX4_addHouse 50 = .ok (.isub, 1) := by decide +kernel
theorem dX4_addHouse_51 : decode cX4_addHouse 51 = .ok (.ireturn, 1) := by decide +kernel
theorem dX4_addWalker_0 : decode cX4_addWalker 0 = .ok (.iload_n 1, 1) := by decide +kernel
theorem dX4_addWalker_1 : decode cX4_addWalker 1 = .ok (.invokestatic 78, 3) := by decide +kernel
theorem dX4_addWalker_4 : decode cX4_addWalker 4 = .ok (.ifCond .eq 12, 3) := by decide +kernel
theorem dX4_addWalker_7 : decode cX4_addWalker 7 = .ok (.iload_n 2, 1) := by decide +kernel
theorem dX4_addWalker_8 : decode cX4_addWalker 8 = .ok (.iconst 1, 1) := by decide +kernel
theorem dX4_addWalker_9 : decode cX4_addWalker 9 = .ok (.iconst 4, 1) := by decide +kernel
theorem dX4_addWalker_10 : decode cX4_addWalker 10 = .ok (.invokestatic 68, 3) := by decide +kernel
theorem dX4_addWalker_13 : decode cX4_addWalker 13 = .ok (.ifCond .ne 6, 3) := by decide +kernel
theorem dX4_addWalker_16 : decode cX4_addWalker 16 = .ok (.bipush (-2), 2) := by decide +kernel
theorem dX4_addWalker_18 : decode cX4_addWalker 18 = .ok (.ireturn, 1) := by decide +kernel
theorem dX4_addWalker_19 : decode cX4_addWalker 19 = .ok (.aload_n 0, 1) := by decide +kernel
theorem dX4_addWalker_20 : decode cX4_addWalker 20 = .ok (.getfield 59, 3) := by decide +kernel
theorem dX4_addWalker_23 : decode cX4_addWalker 23 = .ok (.bipush 8, 2) := by decide +kernel
theorem dX4_addWalker_25 : decode cX4_addWalker 25 = .ok (.if_icmp .lt 6, 3) := by decide +kernel
theorem dX4_addWalker_28 : decode cX4_addWalker 28 = .ok (.bipush (-4), 2) := by decide +kernel
theorem dX4_addWalker_30 : decode cX4_addWalker 30 = .ok (.ireturn, 1) := by decide +kernel
theorem dX4_addWalker_31 : decode cX4_addWalker 31 = .ok (.aload_n 0, 1) := by decide +kernel
theorem dX4_addWalker_32 : decode cX4_addWalker 32 = .ok (.getfield 29, 3) := by decide +kernel
theorem dX4_addWalker_35 : decode cX4_addWalker 35 = .ok (.aload_n 0, 1) := by decide +kernel
theorem dX4_addWalker_36 : decode cX4_addWalker 36 = .ok (.getfield 59, 3) := by decide +kernel
theorem dX4_addWalker_39 : decode cX4_addWalker 39 = .ok (.aaload, 1) := by decide +kernel
theorem dX4_addWalker_40 : decode cX4_addWalker 40 = .ok (.iload_n 1, 1) := by decide +kernel
theorem dX4_addWalker_41 : decode cX4_addWalker 41 = .ok (.iload_n 2, 1) := by decide +kernel
theorem dX4_addWalker_42 : decode cX4_addWalker 42 = .ok (.invokevirtual 92, 3) := by decide +kernel
theorem dX4_addWalker_45 : decode cX4_addWalker 45 = .ok (.aload_n 0, 1) := by decide +kernel
theorem dX4_addWalker_46 : decode cX4_addWalker 46 = .ok (.dup, 1) := by decide +kernel
theorem dX4_addWalker_47 : decode cX4_addWalker 47 = .ok (.getfield 59, 3) := by decide +kernel
theorem dX4_addWalker_50 : decode cX4_addWalker 50 = .ok (.iconst 1, 1) := by decide +kernel
theorem dX4_addWalker_51 : decode cX4_addWalker 51 = .ok (.iadd, 1) := by decide +kernel
theorem dX4_addWalker_52 : decode cX4_addWalker 52 = .ok (.putfield 59, 3) := by decide +kernel
theorem dX4_addWalker_55 : decode cX4_addWalker 55 = .ok (.aload_n 0, 1) := by decide +kernel
theorem dX4_addWalker_56 : decode cX4_addWalker 56 = .ok (.getfield 59, 3) := by decide +kernel
theorem dX4_addWalker_59 : decode cX4_addWalker 59 = .ok (.iconst 1, 1) := by decide +kernel
theorem dX4_addWalker_60 : decode cX4_addWalker 60 = .ok (.isub, 1) := by decide +kernel
theorem dX4_addWalker_61 : decode cX4_addWalker 61 = .ok (.ireturn, 1) := by decide +kernel
theorem dX4_giveGoal_0 : decode cX4_giveGoal 0 = .ok (.aload_n 0, 1) := by decide +kernel
theorem dX4_giveGoal_1 : decode cX4_giveGoal 1 = .ok (.iload_n 1, 1) := by decide +kernel
theorem dX4_giveGoal_2 : decode cX4_giveGoal 2 = .ok (.invokevirtual 93, 3) := by decide +kernel
theorem dX4_giveGoal_5 : decode cX4_giveGoal 5 = .ok (.ifCond .ne 5, 3) := by decide +kernel
theorem dX4_giveGoal_8 : decode cX4_giveGoal 8 = .ok (.iconst (-1), 1) := by decide +kernel
theorem dX4_giveGoal_9 : decode cX4_giveGoal 9 = .ok (.ireturn, 1) := by decide +kernel
theorem dX4_giveGoal_10 : decode cX4_giveGoal 10 = .ok (.iload_n 2, 1) := by decide +kernel
theorem dX4_giveGoal_11 : decode cX4_giveGoal 11 = .ok (.invokestatic 78, 3) := by decide +kernel
theorem dX4_giveGoal_14 : decode cX4_giveGoal 14 = .ok (.ifCond .eq 13, 3) := by decide +kernel
theorem dX4_giveGoal_17 : decode cX4_giveGoal 17 = .ok (.iload_n 3, 1) := by decide +kernel
theorem dX4_giveGoal_18 : decode cX4_giveGoal 18 = .ok (.iconst 0, 1) := by decide +kernel
theorem dX4_giveGoal_19 : decode cX4_giveGoal 19 = .ok (.bipush 20, 2) := by decide +kernel
theorem dX4_giveGoal_21 : decode cX4_giveGoal 21 = .ok (.invokestatic 68, 3) := by decide +kernel
theorem dX4_giveGoal_24 : decode cX4_giveGoal 24 = .ok (.ifCond .ne 6, 3) := by decide +kernel
theorem dX4_giveGoal_27 : decode cX4_giveGoal 27 = .ok (.bipush (-2), 2) := by decide +kernel
theorem dX4_giveGoal_29 : decode cX4_giveGoal 29 = .ok (.ireturn, 1) := by decide +kernel
theorem dX4_giveGoal_30 : decode cX4_giveGoal 30 = .ok (.aload_n 0, 1) := by decide +kernel
theorem dX4_giveGoal_31 : decode cX4_giveGoal 31 = .ok (.getfield 29, 3) := by decide +kernel
theorem dX4_giveGoal_34 : decode cX4_giveGoal 34 = .ok (.iload_n 1, 1) := by decide +kernel
theorem dX4_giveGoal_35 : decode cX4_giveGoal 35 = .ok (.aaload, 1) := by decide +kernel
theorem dX4_giveGoal_36 : decode cX4_giveGoal 36 = .ok (.iload_n 2, 1) := by decide +kernel
theorem dX4_giveGoal_37 : decode cX4_giveGoal 37 = .ok (.iload_n 3, 1) := by decide +kernel
theorem dX4_giveGoal_38 : decode cX4_giveGoal 38 = .ok (.invokevirtual 96, 3) := by decide +kernel
theorem dX4_giveGoal_41 : decode cX4_giveGoal 41 = .ok (.ireturn, 1) := by decide +kernel
theorem dX4_mendLamp_0 : decode cX4_mendLamp 0 = .ok (.aload_n 0, 1) := by decide +kernel
theorem dX4_mendLamp_1 : decode cX4_mendLamp 1 = .ok (.iload_n 1, 1) := by decide +kernel
theorem dX4_mendLamp_2 : decode cX4_mendLamp 2 = .ok (.invokevirtual 100, 3) := by decide +kernel
theorem dX4_mendLamp_5 : decode cX4_mendLamp 5 = .ok (.ifCond .ne 5, 3) := by decide +kernel
theorem dX4_mendLamp_8 : decode cX4_mendLamp 8 = .ok (.iconst (-1), 1) := by decide +kernel
theorem dX4_mendLamp_9 : decode cX4_mendLamp 9 = .ok (.ireturn, 1) := by decide +kernel
theorem dX4_mendLamp_10 : decode cX4_mendLamp 10 = .ok (.iload_n 2, 1) := by decide +kernel
theorem dX4_mendLamp_11 : decode cX4_mendLamp 11 = .ok (.iconst 0, 1) := by decide +kernel
theorem dX4_mendLamp_12 : decode cX4_mendLamp 12 = .ok (.iconst 2, 1) := by decide +kernel
theorem dX4_mendLamp_13 : decode cX4_mendLamp 13 = .ok (.invokestatic 68, 3) := by decide +kernel
theorem dX4_mendLamp_16 : decode cX4_mendLamp 16 = .ok (.ifCond .ne 6, 3) := by decide +kernel
theorem dX4_mendLamp_19 : decode cX4_mendLamp 19 = .ok (.bipush (-2), 2) := by decide +kernel
theorem dX4_mendLamp_21 : decode cX4_mendLamp 21 = .ok (.ireturn, 1) := by decide +kernel
theorem dX4_mendLamp_22 : decode cX4_mendLamp 22 = .ok (.aload_n 0, 1) := by decide +kernel
theorem dX4_mendLamp_23 : decode cX4_mendLamp 23 = .ok (.getfield 17, 3) := by decide +kernel
theorem dX4_mendLamp_26 : decode cX4_mendLamp 26 = .ok (.iload_n 1, 1) := by decide +kernel
theorem dX4_mendLamp_27 : decode cX4_mendLamp 27 = .ok (.aaload, 1) := by decide +kernel
theorem dX4_mendLamp_28 : decode cX4_mendLamp 28 = .ok (.getfield 103, 3) := by decide +kernel
theorem dX4_mendLamp_31 : decode cX4_mendLamp 31 = .ok (.istore_n 3, 1) := by decide +kernel
theorem dX4_mendLamp_32 : decode cX4_mendLamp 32 = .ok (.aload_n 0, 1) := by decide +kernel
theorem dX4_mendLamp_33 : decode cX4_mendLamp 33 = .ok (.getfield 17, 3) := by decide +kernel
theorem dX4_mendLamp_36 : decode cX4_mendLamp 36 = .ok (.iload_n 1, 1) := by decide +kernel
theorem dX4_mendLamp_37 : decode cX4_mendLamp 37 = .ok (.aaload, 1) := by decide +kernel
theorem dX4_mendLamp_38 : decode cX4_mendLamp 38 = .ok (.iload_n 2, 1) := by decide +kernel
theorem dX4_mendLamp_39 : decode cX4_mendLamp 39 = .ok (.invokevirtual 106, 3) := by decide +kernel
theorem dX4_mendLamp_42 : decode cX4_mendLamp 42 = .ok (.iload_n 3, 1) := by decide +kernel
theorem dX4_mendLamp_43 : decode cX4_mendLamp 43 = .ok (.ireturn, 1) := by decide +kernel
theorem dX4_coughByOrder_0 : decode cX4_coughByOrder 0 = .ok (.aload_n 0, 1) := by decide +kernel
theorem dX4_coughByOrder_1 : decode cX4_coughByOrder 1 = .ok (.iload_n 1, 1) := by decide +kernel
theorem dX4_coughByOrder_2 : decode cX4_coughByOrder 2 = .ok (.invokevirtual 100, 3) := by decide +kernel
theorem dX4_coughByOrder_5 : decode cX4_coughByOrder 5 = .ok (.ifCond .ne 5, 3) := by decide +kernel
theorem dX4_coughByOrder_8 : decode cX4_coughByOrder 8 = .ok (.iconst (-1), 1) := by decide +kernel
theorem dX4_coughByOrder_9 : decode cX4_coughByOrder 9 = .ok (.ireturn, 1) := by decide +kernel
theorem dX4_coughByOrder_10 : decode cX4_coughByOrder 10 = .ok (.aload_n 0, 1) := by decide +kernel
theorem dX4_coughByOrder_11 : decode cX4_coughByOrder 11 = .ok (.getfield 17, 3) := by decide +kernel
theorem dX4_coughByOrder_14 : decode cX4_coughByOrder 14 = .ok (.iload_n 1, 1) := by decide +kernel
theorem dX4_coughByOrder_15 : decode cX4_coughByOrder 15 = .ok (.aaload, 1) := by decide +kernel
theorem dX4_coughByOrder_16 : decode cX4_coughByOrder 16 = .ok (.getfield 103, 3) := by decide +kernel
theorem dX4_coughByOrder_19 : decode cX4_coughByOrder 19 = .ok (.iconst 2, 1) := by decide +kernel
theorem dX4_coughByOrder_20 : decode cX4_coughByOrder 20 = .ok (.if_icmp .ne 6, 3) := by decide +kernel
theorem dX4_coughByOrder_23 : decode cX4_coughByOrder 23 = .ok (.bipush (-5), 2) := by decide +kernel
theorem dX4_coughByOrder_25 : decode cX4_coughByOrder 25 = .ok (.ireturn, 1) := by decide +kernel
theorem dX4_coughByOrder_26 : decode cX4_coughByOrder 26 = .ok (.aload_n 0, 1) := by decide +kernel
theorem dX4_coughByOrder_27 : decode cX4_coughByOrder 27 = .ok (.invokevirtual 109, 3) := by decide +kernel
theorem dX4_coughByOrder_30 : decode cX4_coughByOrder 30 = .ok (.aload_n 0, 1) := by decide +kernel
theorem dX4_coughByOrder_31 : decode cX4_coughByOrder 31 = .ok (.iload_n 1, 1) := by decide +kernel
theorem dX4_coughByOrder_32 : decode cX4_coughByOrder 32 = .ok (.iconst 0, 1) := by decide +kernel
theorem dX4_coughByOrder_33 : decode cX4_coughByOrder 33 = .ok (.invokevirtual 112, 3) := by decide +kernel
theorem dX4_coughByOrder_36 : decode cX4_coughByOrder 36 = .ok (.ireturn, 1) := by decide +kernel
theorem dX4_letPass_0 : decode cX4_letPass 0 = .ok (.iload_n 1, 1) := by decide +kernel
theorem dX4_letPass_1 : decode cX4_letPass 1 = .ok (.invokestatic 115, 3) := by decide +kernel
theorem dX4_letPass_4 : decode cX4_letPass 4 = .ok (.ifCond .ne 6, 3) := by decide +kernel
theorem dX4_letPass_7 : decode cX4_letPass 7 = .ok (.bipush (-2), 2) := by decide +kernel
theorem dX4_letPass_9 : decode cX4_letPass 9 = .ok (.ireturn, 1) := by decide +kernel
theorem dX4_letPass_10 : decode cX4_letPass 10 = .ok (.iconst 0, 1) := by decide +kernel
theorem dX4_letPass_11 : decode cX4_letPass 11 = .ok (.istore_n 2, 1) := by decide +kernel
theorem dX4_letPass_12 : decode cX4_letPass 12 = .ok (.iload_n 2, 1) := by decide +kernel
theorem dX4_letPass_13 : decode cX4_letPass 13 = .ok (.iload_n 1, 1) := by decide +kernel
theorem dX4_letPass_14 : decode cX4_letPass 14 = .ok (.if_icmp .ge 43, 3) := by decide +kernel
theorem dX4_letPass_17 : decode cX4_letPass 17 = .ok (.aload_n 0, 1) := by decide +kernel
theorem dX4_letPass_18 : decode cX4_letPass 18 = .ok (.invokevirtual 109, 3) := by decide +kernel
theorem dX4_letPass_21 : decode cX4_letPass 21 = .ok (.aload_n 0, 1) := by decide +kernel
theorem dX4_letPass_22 : decode cX4_letPass 22 = .ok (.invokevirtual 118, 3) := by decide +kernel
theorem dX4_letPass_25 : decode cX4_letPass 25 = .ok (.aload_n 0, 1) := by decide +kernel
theorem dX4_letPass_26 : decode cX4_letPass 26 = .ok (.invokevirtual 121, 3) := by decide +kernel
theorem dX4_letPass_29 : decode cX4_letPass 29 = .ok (.aload_n 0, 1) := by decide +kernel
theorem dX4_letPass_30 : decode cX4_letPass 30 = .ok (.invokevirtual 124, 3) := by decide +kernel
theorem dX4_letPass_33 : decode cX4_letPass 33 = .ok (.aload_n 0, 1) := by decide +kernel
theorem dX4_letPass_34 : decode cX4_letPass 34 = .ok (.invokevirtual 127, 3) := by decide +kernel
theorem dX4_letPass_37 : decode cX4_letPass 37 = .ok (.aload_n 0, 1) := by decide +kernel
theorem dX4_letPass_38 : decode cX4_letPass 38 = .ok (.invokevirtual 130, 3) := by decide +kernel
theorem dX4_letPass_41 : decode cX4_letPass 41 = .ok (.aload_n 0, 1) := by decide +kernel
theorem dX4_letPass_42 : decode cX4_letPass 42 = .ok (.dup, 1) := by decide +kernel
theorem dX4_letPass_43 : decode cX4_letPass 43 = .ok (.getfield 65, 3) := by decide +kernel
theorem dX4_letPass_46 : decode cX4_letPass 46 = .ok (.iconst 1, 1) := by decide +kernel
theorem dX4_letPass_47 : decode cX4_letPass 47 = .ok (.iadd, 1) := by decide +kernel
theorem dX4_letPass_48 : decode cX4_letPass 48 = .ok (.putfield 65, 3) := by decide +kernel
theorem dX4_letPass_51 : decode cX4_letPass 51 = .ok (.iinc 2 1, 3) := by decide +kernel
theorem dX4_letPass_54 : decode cX4_letPass 54 = .ok (.goto (-42), 3) := by decide +kernel
theorem dX4_letPass_57 : decode cX4_letPass 57 = .ok (.aload_n 0, 1) := by decide +kernel
theorem dX4_letPass_58 : decode cX4_letPass 58 = .ok (.getfield 65, 3) := by decide +kernel
theorem dX4_letPass_61 : decode cX4_letPass 61 = .ok (.ireturn, 1) := by decide +kernel
theorem dX4_forgetLastTick_0 : decode cX4_forgetLastTick 0 = .ok (.iconst 0, 1) := by decide +kernel
theorem dX4_forgetLastTick_1 : decode cX4_forgetLastTick 1 = .ok (.istore_n 1, 1) := by decide +kernel
theorem dX4_forgetLastTick_2 : decode cX4_forgetLastTick 2 = .ok (.iload_n 1, 1) := by decide +kernel
theorem dX4_forgetLastTick_3 : decode cX4_forgetLastTick 3 = .ok (.aload_n 0, 1) := by decide +kernel
theorem dX4_forgetLastTick_4 : decode cX4_forgetLastTick 4 = .ok (.getfield 45, 3) := by decide +kernel
theorem dX4_forgetLastTick_7 : decode cX4_forgetLastTick 7 = .ok (.if_icmp .ge 18, 3) := by decide +kernel
theorem dX4_forgetLastTick_10 : decode cX4_forgetLastTick 10 = .ok (.aload_n 0, 1) := by decide +kernel
theorem dX4_forgetLastTick_11 : decode cX4_forgetLastTick 11 = .ok (.getfield 17, 3) := by decide +kernel
theorem dX4_forgetLastTick_14 : decode cX4_forgetLastTick 14 = .ok (.iload_n 1, 1) := by decide +kernel
theorem dX4_forgetLastTick_15 : decode cX4_forgetLastTick 15 = .ok (.aaload, 1) := by decide +kernel
theorem dX4_forgetLastTick_16 : decode cX4_forgetLastTick 16 = .ok (.invokevirtual 133, 3) := by decide +kernel
theorem dX4_forgetLastTick_19 : decode cX4_forgetLastTick 19 = .ok (.iinc 1 1, 3) := by decide +kernel
theorem dX4_forgetLastTick_22 : decode cX4_forgetLastTick 22 = .ok (.goto (-20), 3) := by decide +kernel
theorem dX4_forgetLastTick_25 : decode cX4_forgetLastTick 25 = .ok (.return_, 1) := by decide +kernel
theorem dX4_moveWalkers_0 : decode cX4_moveWalkers 0 = .ok (.iconst 0, 1) := by decide +kernel
theorem dX4_moveWalkers_1 : decode cX4_moveWalkers 1 = .ok (.istore_n 1, 1) := by decide +kernel
theorem dX4_moveWalkers_2 : decode cX4_moveWalkers 2 = .ok (.iload_n 1, 1) := by decide +kernel
theorem dX4_moveWalkers_3 : decode cX4_moveWalkers 3 = .ok (.aload_n 0, 1) := by decide +kernel
theorem dX4_moveWalkers_4 : decode cX4_moveWalkers 4 = .ok (.getfield 59, 3) := by decide +kernel
theorem dX4_moveWalkers_7 : decode cX4_moveWalkers 7 = .ok (.if_icmp .ge 18, 3) := by decide +kernel
theorem dX4_moveWalkers_10 : decode cX4_moveWalkers 10 = .ok (.aload_n 0, 1) := by decide +kernel
theorem dX4_moveWalkers_11 : decode cX4_moveWalkers 11 = .ok (.getfield 29, 3) := by decide +kernel
theorem dX4_moveWalkers_14 : decode cX4_moveWalkers 14 = .ok (.iload_n 1, 1) := by decide +kernel
theorem dX4_moveWalkers_15 : decode cX4_moveWalkers 15 = .ok (.aaload, 1) := by decide +kernel
theorem dX4_moveWalkers_16 : decode cX4_moveWalkers 16 = .ok (.invokevirtual 136, 3) := by decide +kernel
theorem dX4_moveWalkers_19 : decode cX4_moveWalkers 19 = .ok (.iinc 1 1, 3) := by decide +kernel
theorem dX4_moveWalkers_22 : decode cX4_moveWalkers 22 = .ok (.goto (-20), 3) := by decide +kernel
theorem dX4_moveWalkers_25 : decode cX4_moveWalkers 25 = .ok (.return_, 1) := by decide +kernel
theorem dX4_coughThoseWhoWaited_0 : decode cX4_coughThoseWhoWaited 0 = .ok (.iconst 0, 1) := by decide +kernel
theorem dX4_coughThoseWhoWaited_1 : decode cX4_coughThoseWhoWaited 1 = .ok (.istore_n 1, 1) := by decide +kernel
theorem dX4_coughThoseWhoWaited_2 : decode cX4_coughThoseWhoWaited 2 = .ok (.iconst 0, 1) := by decide +kernel
theorem dX4_coughThoseWhoWaited_3 : decode cX4_coughThoseWhoWaited 3 = .ok (.istore_n 2, 1) := by decide +kernel
theorem dX4_coughThoseWhoWaited_4 : decode cX4_coughThoseWhoWaited 4 = .ok (.iload_n 2, 1) := by decide +kernel
theorem dX4_coughThoseWhoWaited_5 : decode cX4_coughThoseWhoWaited 5 = .ok (.aload_n 0, 1) := by decide +kernel
theorem dX4_coughThoseWhoWaited_6 : decode cX4_coughThoseWhoWaited 6 = .ok (.getfield 45, 3) := by decide +kernel
theorem dX4_coughThoseWhoWaited_9 : decode cX4_coughThoseWhoWaited 9 = .ok (.if_icmp .ge 55, 3) := by decide +kernel
theorem dX4_coughThoseWhoWaited_12 : decode cX4_coughThoseWhoWaited 12 = .ok (.aload_n 0, 1) := by decide +kernel
theorem dX4_coughThoseWhoWaited_13 : decode cX4_coughThoseWhoWaited 13 = .ok (.getfield 17, 3) := by decide +kernel
theorem dX4_coughThoseWhoWaited_16 : decode cX4_coughThoseWhoWaited 16 = .ok (.iload_n 2, 1) := by decide +kernel
theorem dX4_coughThoseWhoWaited_17 : decode cX4_coughThoseWhoWaited 17 = .ok (.aaload, 1) := by decide +kernel
theorem dX4_coughThoseWhoWaited_18 : decode cX4_coughThoseWhoWaited 18 = .ok (.astore_n 3, 1) := by decide +kernel
theorem dX4_coughThoseWhoWaited_19 : decode cX4_coughThoseWhoWaited 19 = .ok (.aload_n 3, 1) := by decide +kernel
theorem dX4_coughThoseWhoWaited_20 : decode cX4_coughThoseWhoWaited 20 = .ok (.getfield 139, 3) := by decide +kernel
theorem dX4_coughThoseWhoWaited_23 : decode cX4_coughThoseWhoWaited 23 = .ok (.bipush (-6), 2) := by decide +kernel
theorem dX4_coughThoseWhoWaited_25 : decode cX4_coughThoseWhoWaited 25 = .ok (.if_icmp .ne 6, 3) := by decide +kernel
theorem dX4_coughThoseWhoWaited_28 : decode cX4_coughThoseWhoWaited 28 = .ok (.goto 30, 3) := by decide +kernel
theorem dX4_coughThoseWhoWaited_31 : decode cX4_coughThoseWhoWaited 31 = .ok (.aload_n 3, 1) := by decide +kernel
theorem dX4_coughThoseWhoWaited_32 : decode cX4_coughThoseWhoWaited 32 = .ok (.dup, 1) := by decide +kernel
theorem dX4_coughThoseWhoWaited_33 : decode cX4_coughThoseWhoWaited 33 = .ok (.getfield 139, 3) := by decide +kernel
theorem dX4_coughThoseWhoWaited_36 : decode cX4_coughThoseWhoWaited 36 = .ok (.iconst 1, 1) := by decide +kernel
theorem dX4_coughThoseWhoWaited_37 : decode cX4_coughThoseWhoWaited 37 = .ok (.isub, 1) := by decide +kernel
theorem dX4_coughThoseWhoWaited_38 : decode cX4_coughThoseWhoWaited 38 = .ok (.putfield 139, 3) := by decide +kernel
theorem dX4_coughThoseWhoWaited_41 : decode cX4_coughThoseWhoWaited 41 = .ok (.aload_n 3, 1) := by decide +kernel
theorem dX4_coughThoseWhoWaited_42 : decode cX4_coughThoseWhoWaited 42 = .ok (.getfield 139, 3) := by decide +kernel
theorem dX4_coughThoseWhoWaited_45 : decode cX4_coughThoseWhoWaited 45 = .ok (.ifCond .gt 13, 3) := by decide +kernel
theorem dX4_coughThoseWhoWaited_48 : decode cX4_coughThoseWhoWaited 48 = .ok (.aload_n 3, 1) := by decide +kernel
theorem dX4_coughThoseWhoWaited_49 : decode cX4_coughThoseWhoWaited 49 = .ok (.invokevirtual 142, 3) := by decide +kernel
theorem dX4_coughThoseWhoWaited_52 : decode cX4_coughThoseWhoWaited 52 = .ok (.iload_n 1, 1) := by decide +kernel
theorem dX4_coughThoseWhoWaited_53 : decode cX4_coughThoseWhoWaited 53 = .ok (.iconst 1, 1) := by decide +kernel
theorem dX4_coughThoseWhoWaited_54 : decode cX4_coughThoseWhoWaited 54 = .ok (.iload_n 2, 1) := by decide +kernel
theorem dX4_coughThoseWhoWaited_55 : decode cX4_coughThoseWhoWaited 55 = .ok (.ishl, 1) := by decide +kernel
theorem dX4_coughThoseWhoWaited_56 : decode cX4_coughThoseWhoWaited 56 = .ok (.ior, 1) := by decide +kernel
theorem dX4_coughThoseWhoWaited_57 : decode cX4_coughThoseWhoWaited 57 = .ok (.istore_n 1, 1) := by decide +kernel
theorem dX4_coughThoseWhoWaited_58 : decode cX4_coughThoseWhoWaited 58 = .ok (.iinc 2 1, 3) := by decide +kernel
theorem dX4_coughThoseWhoWaited_61 : decode cX4_coughThoseWhoWaited 61 = .ok (.goto (-57), 3) := by decide +kernel
theorem dX4_coughThoseWhoWaited_64 : decode cX4_coughThoseWhoWaited 64 = .ok (.iconst 0, 1) := by decide +kernel
theorem dX4_coughThoseWhoWaited_65 : decode cX4_coughThoseWhoWaited 65 = .ok (.istore_n 2, 1) := by decide +kernel
theorem dX4_coughThoseWhoWaited_66 : decode cX4_coughThoseWhoWaited 66 = .ok (.iload_n 2, 1) := by decide +kernel
theorem dX4_coughThoseWhoWaited_67 : decode cX4_coughThoseWhoWaited 67 = .ok (.aload_n 0, 1) := by decide +kernel
theorem dX4_coughThoseWhoWaited_68 : decode cX4_coughThoseWhoWaited 68 = .ok (.getfield 45, 3) := by decide +kernel
theorem dX4_coughThoseWhoWaited_71 : decode cX4_coughThoseWhoWaited 71 = .ok (.if_icmp .ge 33, 3) := by decide +kernel
theorem dX4_coughThoseWhoWaited_74 : decode cX4_coughThoseWhoWaited 74 = .ok (.iload_n 1, 1) := by decide +kernel
theorem dX4_coughThoseWhoWaited_75 : decode cX4_coughThoseWhoWaited 75 = .ok (.iload_n 2, 1) := by decide +kernel
theorem dX4_coughThoseWhoWaited_76 : decode cX4_coughThoseWhoWaited 76 = .ok (.ishr, 1) := by decide +kernel
theorem dX4_coughThoseWhoWaited_77 : decode cX4_coughThoseWhoWaited 77 = .ok (.iconst 1, 1) := by decide +kernel
theorem dX4_coughThoseWhoWaited_78 : decode cX4_coughThoseWhoWaited 78 = .ok (.iand, 1) := by decide +kernel
theorem dX4_coughThoseWhoWaited_79 : decode cX4_coughThoseWhoWaited 79 = .ok (.iconst 1, 1) := by decide +kernel
theorem dX4_coughThoseWhoWaited_80 : decode cX4_coughThoseWhoWaited 80 = .ok (.if_icmp .ne 18, 3) := by decide +kernel
theorem dX4_coughThoseWhoWaited_83 : decode cX4_coughThoseWhoWaited 83 = .ok (.aload_n 0, 1) := by decide +kernel
theorem dX4_coughThoseWhoWaited_84 : decode cX4_coughThoseWhoWaited 84 = .ok (.iload_n 2, 1) := by decide +kernel
theorem dX4_coughThoseWhoWaited_85 : decode cX4_coughThoseWhoWaited 85 = .ok (.aload_n 0, 1) := by decide +kernel
theorem dX4_coughThoseWhoWaited_86 : decode cX4_coughThoseWhoWaited 86 = .ok (.getfield 17, 3) := by decide +kernel
theorem dX4_coughThoseWhoWaited_89 : decode cX4_coughThoseWhoWaited 89 = .ok (.iload_n 2, 1) := by decide +kernel
theorem dX4_coughThoseWhoWaited_90 : decode cX4_coughThoseWhoWaited 90 = .ok (.aaload, 1) := by decide +kernel
theorem dX4_coughThoseWhoWaited_91 : decode cX4_coughThoseWhoWaited 91 = .ok (.getfield 145, 3) := by decide +kernel
theorem dX4_coughThoseWhoWaited_94 : decode cX4_coughThoseWhoWaited 94 = .ok (.invokevirtual 112, 3) := by decide +kernel
theorem dX4_coughThoseWhoWaited_97 : decode cX4_coughThoseWhoWaited 97 = .ok (.pop, 1) := by decide +kernel
theorem dX4_coughThoseWhoWaited_98 : decode cX4_coughThoseWhoWaited 98 = .ok (.iinc 2 1, 3) := by decide +kernel
theorem dX4_coughThoseWhoWaited_101 : decode cX4_coughThoseWhoWaited 101 = .ok (.goto (-35), 3) := by decide +kernel
theorem dX4_coughThoseWhoWaited_104 : decode cX4_coughThoseWhoWaited 104 = .ok (.return_, 1) := by decide +kernel
theorem dX4_wakeThoseWhoSee_0 : decode cX4_wakeThoseWhoSee 0 = .ok (.aload_n 0, 1) := by decide +kernel
theorem dX4_wakeThoseWhoSee_1 : decode cX4_wakeThoseWhoSee 1 = .ok (.iconst 2, 1) := by decide +kernel
theorem dX4_wakeThoseWhoSee_2 : decode cX4_wakeThoseWhoSee 2 = .ok (.invokevirtual 148, 3) := by decide +kernel
theorem dX4_wakeThoseWhoSee_5 : decode cX4_wakeThoseWhoSee 5 = .ok (.istore_n 1, 1) := by decide +kernel
theorem dX4_wakeThoseWhoSee_6 : decode cX4_wakeThoseWhoSee 6 = .ok (.iconst 0, 1) := by decide +kernel
theorem dX4_wakeThoseWhoSee_7 : decode cX4_wakeThoseWhoSee 7 = .ok (.istore_n 2, 1) := by decide +kernel
theorem dX4_wakeThoseWhoSee_8 : decode cX4_wakeThoseWhoSee 8 = .ok (.iload_n 2, 1) := by decide +kernel
theorem dX4_wakeThoseWhoSee_9 : decode cX4_wakeThoseWhoSee 9 = .ok (.aload_n 0, 1) := by decide +kernel
theorem dX4_wakeThoseWhoSee_10 : decode cX4_wakeThoseWhoSee 10 = .ok (.getfield 45, 3) := by decide +kernel
theorem dX4_wakeThoseWhoSee_13 : decode cX4_wakeThoseWhoSee 13 = .ok (.if_icmp .ge 64, 3) := by decide +kernel
theorem dX4_wakeThoseWhoSee_16 : decode cX4_wakeThoseWhoSee 16 = .ok (.aload_n 0, 1) := by decide +kernel
theorem dX4_wakeThoseWhoSee_17 : decode cX4_wakeThoseWhoSee 17 = .ok (.aload_n 0, 1) := by decide +kernel
theorem dX4_wakeThoseWhoSee_18 : decode cX4_wakeThoseWhoSee 18 = .ok (.getfield 17, 3) := by decide +kernel
theorem dX4_wakeThoseWhoSee_21 : decode cX4_wakeThoseWhoSee 21 = .ok (.iload_n 2, 1) := by decide +kernel
theorem dX4_wakeThoseWhoSee_22 : decode cX4_wakeThoseWhoSee 22 = .ok (.aaload, 1) := by decide +kernel
theorem dX4_wakeThoseWhoSee_23 : decode cX4_wakeThoseWhoSee 23 = .ok (.invokevirtual 152, 3) := by decide +kernel
theorem dX4_wakeThoseWhoSee_26 : decode cX4_wakeThoseWhoSee 26 = .ok (.ifCond .ne 6, 3) := by decide +kernel
theorem dX4_wakeThoseWhoSee_29 : decode cX4_wakeThoseWhoSee 29 = .ok (.goto 42, 3) := by decide +kernel
theorem dX4_wakeThoseWhoSee_32 : decode cX4_wakeThoseWhoSee 32 = .ok (.aload_n 0, 1) := by decide +kernel
theorem dX4_wakeThoseWhoSee_33 : decode cX4_wakeThoseWhoSee 33 = .ok (.getfield 17, 3) := by decide +kernel
theorem dX4_wakeThoseWhoSee_36 : decode cX4_wakeThoseWhoSee 36 = .ok (.iload_n 2, 1) := by decide +kernel
theorem dX4_wakeThoseWhoSee_37 : decode cX4_wakeThoseWhoSee 37 = .ok (.aaload, 1) := by decide +kernel
theorem dX4_wakeThoseWhoSee_38 : decode cX4_wakeThoseWhoSee 38 = .ok (.aload_n 0, 1) := by decide +kernel
theorem dX4_wakeThoseWhoSee_39 : decode cX4_wakeThoseWhoSee 39 = .ok (.getfield 9, 3) := by decide +kernel
theorem dX4_wakeThoseWhoSee_42 : decode cX4_wakeThoseWhoSee 42 = .ok (.iconst 2, 1) := by decide +kernel
theorem dX4_wakeThoseWhoSee_43 : decode cX4_wakeThoseWhoSee 43 = .ok (.iaload, 1) := by decide +kernel
theorem dX4_wakeThoseWhoSee_44 : decode cX4_wakeThoseWhoSee 44 = .ok (.invokevirtual 156, 3) := by decide +kernel
theorem dX4_wakeThoseWhoSee_47 : decode cX4_wakeThoseWhoSee 47 = .ok (.iload_n 1, 1) := by decide +kernel
theorem dX4_wakeThoseWhoSee_48 : decode cX4_wakeThoseWhoSee 48 = .ok (.iload_n 2, 1) := by decide +kernel
theorem dX4_wakeThoseWhoSee_49 : decode cX4_wakeThoseWhoSee 49 = .ok (.ishr, 1) := by decide +kernel
theorem dX4_wakeThoseWhoSee_50 : decode cX4_wakeThoseWhoSee 50 = .ok (.iconst 1, 1) := by decide +kernel
theorem dX4_wakeThoseWhoSee_51 : decode cX4_wakeThoseWhoSee 51 = .ok (.iand, 1) := by decide +kernel
theorem dX4_wakeThoseWhoSee_52 : decode cX4_wakeThoseWhoSee 52 = .ok (.ifCond .ne 19, 3) := by decide +kernel
theorem dX4_wakeThoseWhoSee_55 : decode cX4_wakeThoseWhoSee 55 = .ok (.aload_n 0, 1) := by decide +kernel
theorem dX4_wakeThoseWhoSee_56 : decode cX4_wakeThoseWhoSee 56 = .ok (.getfield 17, 3) := by decide +kernel
theorem dX4_wakeThoseWhoSee_59 : decode cX4_wakeThoseWhoSee 59 = .ok (.iload_n 2, 1) := by decide +kernel
theorem dX4_wakeThoseWhoSee_60 : decode cX4_wakeThoseWhoSee 60 = .ok (.aaload, 1) := by decide +kernel
theorem dX4_wakeThoseWhoSee_61 : decode cX4_wakeThoseWhoSee 61 = .ok (.invokevirtual 142, 3) := by decide +kernel
theorem dX4_wakeThoseWhoSee_64 : decode cX4_wakeThoseWhoSee 64 = .ok (.aload_n 0, 1) := by decide +kernel
theorem dX4_wakeThoseWhoSee_65 : decode cX4_wakeThoseWhoSee 65 = .ok (.iload_n 2, 1) := by decide +kernel
theorem dX4_wakeThoseWhoSee_66 : decode cX4_wakeThoseWhoSee 66 = .ok (.iconst 0, 1) := by decide +kernel
theorem dX4_wakeThoseWhoSee_67 : decode cX4_wakeThoseWhoSee 67 = .ok (.invokevirtual 112, 3) := by decide +kernel
theorem dX4_wakeThoseWhoSee_70 : decode cX4_wakeThoseWhoSee 70 = .ok (.pop, 1) := by decide +kernel
theorem dX4_wakeThoseWhoSee_71 : decode cX4_wakeThoseWhoSee 71 = .ok (.iinc 2 1, 3) := by decide +kernel
theorem dX4_wakeThoseWhoSee_74 : decode cX4_wakeThoseWhoSee 74 = .ok (.goto (-66), 3) := by decide +kernel
theorem dX4_wakeThoseWhoSee_77 : decode cX4_wakeThoseWhoSee 77 = .ok (.return_, 1) := by decide +kernel
theorem dX4_seesWalker_0 : decode cX4_seesWalker 0 = .ok (.aload_n 1, 1) := by decide +kernel
theorem dX4_seesWalker_1 : decode cX4_seesWalker 1 = .ok (.getfield 103, 3) := by decide +kernel
theorem dX4_seesWalker_4 : decode cX4_seesWalker 4 = .ok (.ifCond .eq 5, 3) := by decide +kernel
theorem dX4_seesWalker_7 : decode cX4_seesWalker 7 = .ok (.iconst 0, 1) := by decide +kernel
theorem dX4_seesWalker_8 : decode cX4_seesWalker 8 = .ok (.ireturn, 1) := by decide +kernel
theorem dX4_seesWalker_9 : decode cX4_seesWalker 9 = .ok (.iconst 0, 1) := by decide +kernel
theorem dX4_seesWalker_10 : decode cX4_seesWalker 10 = .ok (.istore_n 2, 1) := by decide +kernel
theorem dX4_seesWalker_11 : decode cX4_seesWalker 11 = .ok (.iload_n 2, 1) := by decide +kernel
theorem dX4_seesWalker_12 : decode cX4_seesWalker 12 = .ok (.aload_n 0, 1) := by decide +kernel
theorem dX4_seesWalker_13 : decode cX4_seesWalker 13 = .ok (.getfield 59, 3) := by decide +kernel
theorem dX4_seesWalker_16 : decode cX4_seesWalker 16 = .ok (.if_icmp .ge 45, 3) := by decide +kernel
theorem dX4_seesWalker_19 : decode cX4_seesWalker 19 = .ok (.aload_n 0, 1) := by decide +kernel
theorem dX4_seesWalker_20 : decode cX4_seesWalker 20 = .ok (.getfield 29, 3) := by decide +kernel
theorem dX4_seesWalker_23 : decode cX4_seesWalker 23 = .ok (.iload_n 2, 1) := by decide +kernel
theorem dX4_seesWalker_24 : decode cX4_seesWalker 24 = .ok (.aaload, 1) := by decide +kernel
theorem dX4_seesWalker_25 : decode cX4_seesWalker 25 = .ok (.getfield 159, 3) := by decide +kernel
theorem dX4_seesWalker_28 : decode cX4_seesWalker 28 = .ok (.ifCond .ne 27, 3) := by decide +kernel
theorem dX4_seesWalker_31 : decode cX4_seesWalker 31 = .ok (.aload_n 1, 1) := by decide +kernel
theorem dX4_seesWalker_32 : decode cX4_seesWalker 32 = .ok (.aload_n 0, 1) := by decide +kernel
theorem dX4_seesWalker_33 : decode cX4_seesWalker 33 = .ok (.getfield 29, 3) := by decide +kernel
theorem dX4_seesWalker_36 : decode cX4_seesWalker 36 = .ok (.iload_n 2, 1) := by decide +kernel
theorem dX4_seesWalker_37 : decode cX4_seesWalker 37 = .ok (.aaload, 1) := by decide +kernel
theorem dX4_seesWalker_38 : decode cX4_seesWalker 38 = .ok (.getfield 163, 3) := by decide +kernel
theorem dX4_seesWalker_41 : decode cX4_seesWalker 41 = .ok (.invokevirtual 164, 3) := by decide +kernel
theorem dX4_seesWalker_44 : decode cX4_seesWalker 44 = .ok (.aload_n 0, 1) := by decide +kernel
theorem dX4_seesWalker_45 : decode cX4_seesWalker 45 = .ok (.getfield 9, 3) := by decide +kernel
theorem dX4_seesWalker_48 : decode cX4_seesWalker 48 = .ok (.iconst 0, 1) := by decide +kernel
theorem dX4_seesWalker_49 : decode cX4_seesWalker 49 = .ok (.iaload, 1) := by decide +kernel
theorem dX4_seesWalker_50 : decode cX4_seesWalker 50 = .ok (.if_icmp .gt 5, 3) := by decide +kernel
theorem dX4_seesWalker_53 : decode cX4_seesWalker 53 = .ok (.iconst 1, 1) := by decide +kernel
theorem dX4_seesWalker_54 : decode cX4_seesWalker 54 = .ok (.ireturn, 1) := by decide +kernel
theorem dX4_seesWalker_55 : decode cX4_seesWalker 55 = .ok (.iinc 2 1, 3) := by decide +kernel
theorem dX4_seesWalker_58 : decode cX4_seesWalker 58 = .ok (.goto (-47), 3) := by decide +kernel
theorem dX4_seesWalker_61 : decode cX4_seesWalker 61 = .ok (.iconst 0, 1) := by decide +kernel
theorem dX4_seesWalker_62 : decode cX4_seesWalker 62 = .ok (.ireturn, 1) := by decide +kernel
theorem dX4_fadeLamps_0 : decode cX4_fadeLamps 0 = .ok (.iconst 0, 1) := by decide +kernel
theorem dX4_fadeLamps_1 : decode cX4_fadeLamps 1 = .ok (.istore_n 1, 1) := by decide +kernel
theorem dX4_fadeLamps_2 : decode cX4_fadeLamps 2 = .ok (.iload_n 1, 1) := by decide +kernel
theorem dX4_fadeLamps_3 : decode cX4_fadeLamps 3 = .ok (.aload_n 0, 1) := by decide +kernel
theorem dX4_fadeLamps_4 : decode cX4_fadeLamps 4 = .ok (.getfield 45, 3) := by decide +kernel
theorem dX4_fadeLamps_7 : decode cX4_fadeLamps 7 = .ok (.if_icmp .ge 24, 3) := by decide +kernel
theorem dX4_fadeLamps_10 : decode cX4_fadeLamps 10 = .ok (.aload_n 0, 1) := by decide +kernel
theorem dX4_fadeLamps_11 : decode cX4_fadeLamps 11 = .ok (.getfield 17, 3) := by decide +kernel
theorem dX4_fadeLamps_14 : decode cX4_fadeLamps 14 = .ok (.iload_n 1, 1) := by decide +kernel
theorem dX4_fadeLamps_15 : decode cX4_fadeLamps 15 = .ok (.aaload, 1) := by decide +kernel
theorem dX4_fadeLamps_16 : decode cX4_fadeLamps 16 = .ok (.aload_n 0, 1) := by decide +kernel
theorem dX4_fadeLamps_17 : decode cX4_fadeLamps 17 = .ok (.getfield 9, 3) := by decide +kernel
theorem dX4_fadeLamps_20 : decode cX4_fadeLamps 20 = .ok (.iconst 3, 1) := by decide +kernel
theorem dX4_fadeLamps_21 : decode cX4_fadeLamps 21 = .ok (.iaload, 1) := by decide +kernel
theorem dX4_fadeLamps_22 : decode cX4_fadeLamps 22 = .ok (.invokevirtual 167, 3) := by decide +kernel
theorem dX4_fadeLamps_25 : decode cX4_fadeLamps 25 = .ok (.iinc 1 1, 3) := by decide +kernel
theorem dX4_fadeLamps_28 : decode cX4_fadeLamps 28 = .ok (.goto (-26), 3) := by decide +kernel
theorem dX4_fadeLamps_31 : decode cX4_fadeLamps 31 = .ok (.return_, 1) := by decide +kernel
theorem dX4_tally_0 : decode cX4_tally 0 = .ok (.iconst 0, 1) := by decide +kernel
theorem dX4_tally_1 : decode cX4_tally 1 = .ok (.istore_n 1, 1) := by decide +kernel
theorem dX4_tally_2 : decode cX4_tally 2 = .ok (.iload_n 1, 1) := by decide +kernel
theorem dX4_tally_3 : decode cX4_tally 3 = .ok (.aload_n 0, 1) := by decide +kernel
theorem dX4_tally_4 : decode cX4_tally 4 = .ok (.getfield 45, 3) := by decide +kernel
theorem dX4_tally_7 : decode cX4_tally 7 = .ok (.if_icmp .ge 18, 3) := by decide +kernel
theorem dX4_tally_10 : decode cX4_tally 10 = .ok (.aload_n 0, 1) := by decide +kernel
theorem dX4_tally_11 : decode cX4_tally 11 = .ok (.getfield 17, 3) := by decide +kernel
theorem dX4_tally_14 : decode cX4_tally 14 = .ok (.iload_n 1, 1) := by decide +kernel
theorem dX4_tally_15 : decode cX4_tally 15 = .ok (.aaload, 1) := by decide +kernel
theorem dX4_tally_16 : decode cX4_tally 16 = .ok (.invokevirtual 170, 3) := by decide +kernel
theorem dX4_tally_19 : decode cX4_tally 19 = .ok (.iinc 1 1, 3) := by decide +kernel
theorem dX4_tally_22 : decode cX4_tally 22 = .ok (.goto (-20), 3) := by decide +kernel
theorem dX4_tally_25 : decode cX4_tally 25 = .ok (.iconst 0, 1) := by decide +kernel
theorem dX4_tally_26 : decode cX4_tally 26 = .ok (.istore_n 1, 1) := by decide +kernel
theorem dX4_tally_27 : decode cX4_tally 27 = .ok (.iload_n 1, 1) := by decide +kernel
theorem dX4_tally_28 : decode cX4_tally 28 = .ok (.aload_n 0, 1) := by decide +kernel
theorem dX4_tally_29 : decode cX4_tally 29 = .ok (.getfield 59, 3) := by decide +kernel
theorem dX4_tally_32 : decode cX4_tally 32 = .ok (.if_icmp .ge 52, 3) := by decide +kernel
theorem dX4_tally_35 : decode cX4_tally 35 = .ok (.aload_n 0, 1) := by decide +kernel
theorem dX4_tally_36 : decode cX4_tally 36 = .ok (.getfield 29, 3) := by decide +kernel
theorem dX4_tally_39 : decode cX4_tally 39 = .ok (.iload_n 1, 1) := by decide +kernel
theorem dX4_tally_40 : decode cX4_tally 40 = .ok (.aaload, 1) := by decide +kernel
theorem dX4_tally_41 : decode cX4_tally 41 = .ok (.astore_n 2, 1) := by decide +kernel
theorem dX4_tally_42 : decode cX4_tally 42 = .ok (.aload_n 2, 1) := by decide +kernel
theorem dX4_tally_43 : decode cX4_tally 43 = .ok (.getfield 159, 3) := by decide +kernel
theorem dX4_tally_46 : decode cX4_tally 46 = .ok (.ifCond .ne 32, 3) := by decide +kernel
theorem dX4_tally_49 : decode cX4_tally 49 = .ok (.aload_n 0, 1) := by decide +kernel
theorem dX4_tally_50 : decode cX4_tally 50 = .ok (.aload_n 2, 1) := by decide +kernel
theorem dX4_tally_51 : decode cX4_tally 51 = .ok (.getfield 163, 3) := by decide +kernel
theorem dX4_tally_54 : decode cX4_tally 54 = .ok (.invokevirtual 173, 3) := by decide +kernel
theorem dX4_tally_57 : decode cX4_tally 57 = .ok (.ifCond .ne 21, 3) := by decide +kernel
theorem dX4_tally_60 : decode cX4_tally 60 = .ok (.aload_n 2, 1) := by decide +kernel
theorem dX4_tally_61 : decode cX4_tally 61 = .ok (.dup, 1) := by decide +kernel
theorem dX4_tally_62 : decode cX4_tally 62 = .ok (.getfield 176, 3) := by decide +kernel
theorem dX4_tally_65 : decode cX4_tally 65 = .ok (.iconst 1, 1) := by decide +kernel
theorem dX4_tally_66 : decode cX4_tally 66 = .ok (.iadd, 1) := by decide +kernel
theorem dX4_tally_67 : decode cX4_tally 67 = .ok (.putfield 176, 3) := by decide +kernel
theorem dX4_tally_70 : decode cX4_tally 70 = .ok (.aload_n 0, 1) := by decide +kernel
theorem dX4_tally_71 : decode cX4_tally 71 = .ok (.aload_n 2, 1) := by decide +kernel
theorem dX4_tally_72 : decode cX4_tally 72 = .ok (.getfield 163, 3) := by decide +kernel
theorem dX4_tally_75 : decode cX4_tally 75 = .ok (.invokevirtual 179, 3) := by decide +kernel
theorem dX4_tally_78 : decode cX4_tally 78 = .ok (.iinc 1 1, 3) := by decide +kernel
theorem dX4_tally_81 : decode cX4_tally 81 = .ok (.goto (-54), 3) := by decide +kernel
theorem dX4_tally_84 : decode cX4_tally 84 = .ok (.iconst 0, 1) := by decide +kernel
theorem dX4_tally_85 : decode cX4_tally 85 = .ok (.istore_n 1, 1) := by decide +kernel
theorem dX4_tally_86 : decode cX4_tally 86 = .ok (.iload_n 1, 1) := by decide +kernel
theorem dX4_tally_87 : decode cX4_tally 87 = .ok (.aload_n 0, 1) := by decide +kernel
theorem dX4_tally_88 : decode cX4_tally 88 = .ok (.getfield 53, 3) := by decide +kernel
theorem dX4_tally_91 : decode cX4_tally 91 = .ok (.if_icmp .ge 37, 3) := by decide +kernel
theorem dX4_tally_94 : decode cX4_tally 94 = .ok (.aload_n 0, 1) := by decide +kernel
theorem dX4_tally_95 : decode cX4_tally 95 = .ok (.aload_n 0, 1) := by decide +kernel
theorem dX4_tally_96 : decode cX4_tally 96 = .ok (.getfield 23, 3) := by decide +kernel
theorem dX4_tally_99 : decode cX4_tally 99 = .ok (.iload_n 1, 1) := by decide +kernel
theorem dX4_tally_100 : decode cX4_tally 100 = .ok (.aaload, 1) := by decide +kernel
theorem dX4_tally_101 : decode cX4_tally 101 = .ok (.invokevirtual 182, 3) := by decide +kernel
theorem dX4_tally_104 : decode cX4_tally 104 = .ok (.ifCond .eq 18, 3) := by decide +kernel
theorem dX4_tally_107 : decode cX4_tally 107 = .ok (.aload_n 0, 1) := by decide +kernel
theorem dX4_tally_108 : decode cX4_tally 108 = .ok (.getfield 23, 3) := by decide +kernel
theorem dX4_tally_111 : decode cX4_tally 111 = .ok (.iload_n 1, 1) := by decide +kernel
theorem dX4_tally_112 : decode cX4_tally 112 = .ok (.aaload, 1) := by decide +kernel
theorem dX4_tally_113 : decode cX4_tally 113 = .ok (.dup, 1) := by decide +kernel
theorem dX4_tally_114 : decode cX4_tally 114 = .ok (.getfield 186, 3) := by decide +kernel
theorem dX4_tally_117 : decode cX4_tally 117 = .ok (.iconst 1, 1) := by decide +kernel
theorem dX4_tally_118 : decode cX4_tally 118 = .ok (.iadd, 1) := by decide +kernel
theorem dX4_tally_119 : decode cX4_tally 119 = .ok (.putfield 186, 3) := by decide +kernel
theorem dX4_tally_122 : decode cX4_tally 122 = .ok (.iinc 1 1, 3) := by decide +kernel
theorem dX4_tally_125 : decode cX4_tally 125 = .ok (.goto (-39), 3) := by decide +kernel
theorem dX4_tally_128 : decode cX4_tally 128 = .ok (.return_, 1) := by decide +kernel
theorem dX4_blameNearest_0 : decode cX4_blameNearest 0 = .ok (.aload_n 0, 1) := by decide +kernel
theorem dX4_blameNearest_1 : decode cX4_blameNearest 1 = .ok (.getfield 45, 3) := by decide +kernel
theorem dX4_blameNearest_4 : decode cX4_blameNearest 4 = .ok (.ifCond .ne 4, 3) := by decide +kernel
theorem dX4_blameNearest_7 : decode cX4_blameNearest 7 = .ok (.return_, 1) := by decide +kernel
theorem dX4_blameNearest_8 : decode cX4_blameNearest 8 = .ok (.aload_n 0, 1) := by decide +kernel
theorem dX4_blameNearest_9 : decode cX4_blameNearest 9 = .ok (.getfield 17, 3) := by decide +kernel
theorem dX4_blameNearest_12 : decode cX4_blameNearest 12 = .ok (.iconst 0, 1) := by decide +kernel
theorem dX4_blameNearest_13 : decode cX4_blameNearest 13 = .ok (.aaload, 1) := by decide +kernel
theorem dX4_blameNearest_14 : decode cX4_blameNearest 14 = .ok (.astore_n 2, 1) := by decide +kernel
theorem dX4_blameNearest_15 : decode cX4_blameNearest 15 = .ok (.iconst 1, 1) := by decide +kernel
theorem dX4_blameNearest_16 : decode cX4_blameNearest 16 = .ok (.istore_n 3, 1) := by decide +kernel
theorem dX4_blameNearest_17 : decode cX4_blameNearest 17 = .ok (.iload_n 3, 1) := by decide +kernel
theorem dX4_blameNearest_18 : decode cX4_blameNearest 18 = .ok (.aload_n 0, 1) := by decide +kernel
theorem dX4_blameNearest_19 : decode cX4_blameNearest 19 = .ok (.getfield 45, 3) := by decide +kernel
theorem dX4_blameNearest_22 : decode cX4_blameNearest 22 = .ok (.if_icmp .ge 34, 3) := by decide +kernel
theorem dX4_blameNearest_25 : decode cX4_blameNearest 25 = .ok (.aload_n 0, 1) := by decide +kernel
theorem dX4_blameNearest_26 : decode cX4_blameNearest 26 = .ok (.getfield 17, 3) := by decide +kernel
theorem dX4_blameNearest_29 : decode cX4_blameNearest 29 = .ok (.iload_n 3, 1) := by decide +kernel
theorem dX4_blameNearest_30 : decode cX4_blameNearest 30 = .ok (.aaload, 1) := by decide +kernel
theorem dX4_blameNearest_31 : decode cX4_blameNearest 31 = .ok (.iload_n 1, 1) := by decide +kernel
theorem dX4_blameNearest_32 : decode cX4_blameNearest 32 = .ok (.invokevirtual 164, 3) := by decide +kernel
theorem dX4_blameNearest_35 : decode cX4_blameNearest 35 = .ok (.aload_n 2, 1) := by decide +kernel
theorem dX4_blameNearest_36 : decode cX4_blameNearest 36 = .ok (.iload_n 1, 1) := by decide +kernel
theorem dX4_blameNearest_37 : decode cX4_blameNearest 37 = .ok (.invokevirtual 164, 3) := by decide +kernel
theorem dX4_blameNearest_40 : decode cX4_blameNearest 40 = .ok (.if_icmp .ge 10, 3) := by decide +kernel
theorem dX4_blameNearest_43 : decode cX4_blameNearest 43 = .ok (.aload_n 0, 1) := by decide +kernel
theorem dX4_blameNearest_44 : decode cX4_blameNearest 44 = .ok (.getfield 17, 3) := by decide +kernel
theorem dX4_blameNearest_47 : decode cX4_blameNearest 47 = .ok (.iload_n 3, 1) := by decide +kernel
theorem dX4_blameNearest_48 : decode cX4_blameNearest 48 = .ok (.aaload, 1) := by decide +kernel
theorem dX4_blameNearest_49 : decode cX4_blameNearest 49 = .ok (.astore_n 2, 1) := by decide +kernel
theorem dX4_blameNearest_50 : decode cX4_blameNearest 50 = .ok (.iinc 3 1, 3) := by decide +kernel
theorem dX4_blameNearest_53 : decode cX4_blameNearest 53 = .ok (.goto (-36), 3) := by decide +kernel
theorem dX4_blameNearest_56 : decode cX4_blameNearest 56 = .ok (.aload_n 2, 1) := by decide +kernel
theorem dX4_blameNearest_57 : decode cX4_blameNearest 57 = .ok (.dup, 1) := by decide +kernel
theorem dX4_blameNearest_58 : decode cX4_blameNearest 58 = .ok (.getfield 189, 3) := by decide +kernel
theorem dX4_blameNearest_61 : decode cX4_blameNearest 61 = .ok (.iconst 1, 1) := by decide +kernel
theorem dX4_blameNearest_62 : decode cX4_blameNearest 62 = .ok (.iadd, 1) := by decide +kernel
theorem dX4_blameNearest_63 : decode cX4_blameNearest 63 = .ok (.putfield 189, 3) := by decide +kernel
theorem dX4_blameNearest_66 : decode cX4_blameNearest 66 = .ok (.return_, 1) := by decide +kernel
theorem dX4_spreadCough_0 : decode cX4_spreadCough 0 = .ok (.aload_n 0, 1) := by decide +kernel
theorem dX4_spreadCough_1 : decode cX4_spreadCough 1 = .ok (.getfield 17, 3) := by decide +kernel
theorem dX4_spreadCough_4 : decode cX4_spreadCough 4 = .ok (.iload_n 1, 1) := by decide +kernel
theorem dX4_spreadCough_5 : decode cX4_spreadCough 5 = .ok (.aaload, 1) := by decide +kernel
theorem dX4_spreadCough_6 : decode cX4_spreadCough 6 = .ok (.dup, 1) := by decide +kernel
theorem dX4_spreadCough_7 : decode cX4_spreadCough 7 = .ok (.getfield 192, 3) := by decide +kernel
theorem dX4_spreadCough_10 : decode cX4_spreadCough 10 = .ok (.iconst 1, 1) := by decide +kernel
theorem dX4_spreadCough_11 : decode cX4_spreadCough 11 = .ok (.iadd, 1) := by decide +kernel
theorem dX4_spreadCough_12 : decode cX4_spreadCough 12 = .ok (.putfield 192, 3) := by decide +kernel
theorem dX4_spreadCough_15 : decode cX4_spreadCough 15 = .ok (.iconst 0, 1) := by decide +kernel
theorem dX4_spreadCough_16 : decode cX4_spreadCough 16 = .ok (.istore_n 3, 1) := by decide +kernel
theorem dX4_spreadCough_17 : decode cX4_spreadCough 17 = .ok (.iconst 0, 1) := by decide +kernel
theorem dX4_spreadCough_18 : decode cX4_spreadCough 18 = .ok (.istore 4, 2) := by decide +kernel
theorem dX4_spreadCough_20 : decode cX4_spreadCough 20 = .ok (.iload 4, 2) := by decide +kernel
theorem dX4_spreadCough_22 : decode cX4_spreadCough 22 = .ok (.aload_n 0, 1) := by decide +kernel
theorem dX4_spreadCough_23 : decode cX4_spreadCough 23 = .ok (.getfield 45, 3) := by decide +kernel
theorem dX4_spreadCough_26 : decode cX4_spreadCough 26 = .ok (.if_icmp .ge 37, 3) := by decide +kernel
theorem dX4_spreadCough_29 : decode cX4_spreadCough 29 = .ok (.aload_n 0, 1) := by decide +kernel
theorem dX4_spreadCough_30 : decode cX4_spreadCough 30 = .ok (.iload 4, 2) := by decide +kernel
theorem dX4_spreadCough_32 : decode cX4_spreadCough 32 = .ok (.iload_n 1, 1) := by decide +kernel
theorem dX4_spreadCough_33 : decode cX4_spreadCough 33 = .ok (.invokevirtual 195, 3) := by decide +kernel
theorem dX4_spreadCough_36 : decode cX4_spreadCough 36 = .ok (.ifCond .eq 21, 3) := by decide +kernel
theorem dX4_spreadCough_39 : decode cX4_spreadCough 39 = .ok (.aload_n 0, 1) := by decide +kernel
theorem dX4_spreadCough_40 : decode cX4_spreadCough 40 = .ok (.getfield 17, 3) := by decide +kernel
theorem dX4_spreadCough_43 : decode cX4_spreadCough 43 = .ok (.iload 4, 2) := by decide +kernel
theorem dX4_spreadCough_45 : decode cX4_spreadCough 45 = .ok (.aaload, 1) := by decide +kernel
theorem dX4_spreadCough_46 : decode cX4_spreadCough 46 = .ok (.iload_n 2, 1) := by decide +kernel
theorem dX4_spreadCough_47 : decode cX4_spreadCough 47 = .ok (.aload_n 0, 1) := by decide +kernel
theorem dX4_spreadCough_48 : decode cX4_spreadCough 48 = .ok (.getfield 9, 3) := by decide +kernel
theorem dX4_spreadCough_51 : decode cX4_spreadCough 51 = .ok (.invokevirtual 199, 3) := by decide +kernel
theorem dX4_spreadCough_54 : decode cX4_spreadCough 54 = .ok (.iinc 3 1, 3) := by decide +kernel
theorem dX4_spreadCough_57 : decode cX4_spreadCough 57 = .ok (.iinc 4 1, 3) := by decide +kernel
theorem dX4_spreadCough_60 : decode cX4_spreadCough 60 = .ok (.goto (-40), 3) := by decide +kernel
theorem dX4_spreadCough_63 : decode cX4_spreadCough 63 = .ok (.iload_n 3, 1) := by decide +kernel
theorem dX4_spreadCough_64 : decode cX4_spreadCough 64 = .ok (.ireturn, 1) := by decide +kernel
theorem dX4_hears_0 : decode cX4_hears 0 = .ok (.iload_n 1, 1) := by decide +kernel
theorem dX4_hears_1 : decode cX4_hears 1 = .ok (.iload_n 2, 1) := by decide +kernel
theorem dX4_hears_2 : decode cX4_hears 2 = .ok (.if_icmp .eq 47, 3) := by decide +kernel
theorem dX4_hears_5 : decode cX4_hears 5 = .ok (.aload_n 0, 1) := by decide +kernel
theorem dX4_hears_6 : decode cX4_hears 6 = .ok (.getfield 17, 3) := by decide +kernel
theorem dX4_hears_9 : decode cX4_hears 9 = .ok (.iload_n 1, 1) := by decide +kernel
theorem dX4_hears_10 : decode cX4_hears 10 = .ok (.aaload, 1) := by decide +kernel
theorem dX4_hears_11 : decode cX4_hears 11 = .ok (.getfield 103, 3) := by decide +kernel
theorem dX4_hears_14 : decode cX4_hears 14 = .ok (.iconst 2, 1) := by decide +kernel
theorem dX4_hears_15 : decode cX4_hears 15 = .ok (.if_icmp .eq 34, 3) := by decide +kernel
theorem dX4_hears_18 : decode cX4_hears 18 = .ok (.aload_n 0, 1) := by decide +kernel
theorem dX4_hears_19 : decode cX4_hears 19 = .ok (.getfield 17, 3) := by decide +kernel
theorem dX4_hears_22 : decode cX4_hears 22 = .ok (.iload_n 1, 1) := by decide +kernel
theorem dX4_hears_23 : decode cX4_hears 23 = .ok (.aaload, 1) := by decide +kernel
theorem dX4_hears_24 : decode cX4_hears 24 = .ok (.aload_n 0, 1) := by decide +kernel
theorem dX4_hears_25 : decode cX4_hears 25 = .ok (.getfield 17, 3) := by decide +kernel
theorem dX4_hears_28 : decode cX4_hears 28 = .ok (.iload_n 2, 1) := by decide +kernel
theorem dX4_hears_29 : decode cX4_hears 29 = .ok (.aaload, 1) := by decide +kernel
theorem dX4_hears_30 : decode cX4_hears 30 = .ok (.getfield 82, 3) := by decide +kernel
theorem dX4_hears_33 : decode cX4_hears 33 = .ok (.invokevirtual 164, 3) := by decide +kernel
theorem dX4_hears_36 : decode cX4_hears 36 = .ok (.aload_n 0, 1) := by decide +kernel
theorem dX4_hears_37 : decode cX4_hears 37 = .ok (.getfield 9, 3) := by decide +kernel
theorem dX4_hears_40 : decode cX4_hears 40 = .ok (.iconst 1, 1) := by decide +kernel
theorem dX4_hears_41 : decode cX4_hears 41 = .ok (.iaload, 1) := by decide +kernel
theorem dX4_hears_42 : decode cX4_hears 42 = .ok (.if_icmp .gt 7, 3) := by decide +kernel
theorem dX4_hears_45 : decode cX4_hears 45 = .ok (.iconst 1, 1) := by decide +kernel
theorem dX4_hears_46 : decode cX4_hears 46 = .ok (.goto 4, 3) := by decide +kernel
theorem dX4_hears_49 : decode cX4_hears 49 = .ok (.iconst 0, 1) := by decide +kernel
theorem dX4_hears_50 : decode cX4_hears 50 = .ok (.ireturn, 1) := by decide +kernel
theorem dX4_lampsThatHear_0 : decode cX4_lampsThatHear 0 = .ok (.iconst 0, 1) := by decide +kernel
theorem dX4_lampsThatHear_1 : decode cX4_lampsThatHear 1 = .ok (.istore_n 2, 1) := by decide +kernel
theorem dX4_lampsThatHear_2 : decode cX4_lampsThatHear 2 = .ok (.iconst 0, 1) := by decide +kernel
theorem dX4_lampsThatHear_3 : decode cX4_lampsThatHear 3 = .ok (.istore_n 3, 1) := by decide +kernel
theorem dX4_lampsThatHear_4 : decode cX4_lampsThatHear 4 = .ok (.iload_n 3, 1) := by decide +kernel
theorem dX4_lampsThatHear_5 : decode cX4_lampsThatHear 5 = .ok (.aload_n 0, 1) := by decide +kernel
theorem dX4_lampsThatHear_6 : decode cX4_lampsThatHear 6 = .ok (.getfield 45, 3) := by decide +kernel
theorem dX4_lampsThatHear_9 : decode cX4_lampsThatHear 9 = .ok (.if_icmp .ge 37, 3) := by decide +kernel
theorem dX4_lampsThatHear_12 : decode cX4_lampsThatHear 12 = .ok (.aload_n 0, 1) := by decide +kernel
theorem dX4_lampsThatHear_13 : decode cX4_lampsThatHear 13 = .ok (.getfield 17, 3) := by decide +kernel
theorem dX4_lampsThatHear_16 : decode cX4_lampsThatHear 16 = .ok (.iload_n 1, 1) := by decide +kernel
theorem dX4_lampsThatHear_17 : decode cX4_lampsThatHear 17 = .ok (.aaload, 1) := by decide +kernel
theorem dX4_lampsThatHear_18 : decode cX4_lampsThatHear 18 = .ok (.getfield 103, 3) := by decide +kernel
theorem dX4_lampsThatHear_21 : decode cX4_lampsThatHear 21 = .ok (.iconst 2, 1) := by decide +kernel
theorem dX4_lampsThatHear_22 : decode cX4_lampsThatHear 22 = .ok (.if_icmp .eq 18, 3) := by decide +kernel
theorem dX4_lampsThatHear_25 : decode cX4_lampsThatHear 25 = .ok (.aload_n 0, 1) := by decide +kernel
theorem dX4_lampsThatHear_26 : decode cX4_lampsThatHear 26 = .ok (.iload_n 3, 1) := by decide +kernel
theorem dX4_lampsThatHear_27 : decode cX4_lampsThatHear 27 = .ok (.iload_n 1, 1) := by decide +kernel
theorem dX4_lampsThatHear_28 : decode cX4_lampsThatHear 28 = .ok (.invokevirtual 195, 3) := by decide +kernel
theorem dX4_lampsThatHear_31 : decode cX4_lampsThatHear 31 = .ok (.ifCond .eq 9, 3) := by decide +kernel
theorem dX4_lampsThatHear_34 : decode cX4_lampsThatHear 34 = .ok (.iload_n 2, 1) := by decide +kernel
theorem dX4_lampsThatHear_35 : decode cX4_lampsThatHear 35 = .ok (.iconst 1, 1) := by decide +kernel
theorem dX4_lampsThatHear_36 : decode cX4_lampsThatHear 36 = .ok (.iload_n 3, 1) := by decide +kernel
theorem dX4_lampsThatHear_37 : decode cX4_lampsThatHear 37 = .ok (.ishl, 1) := by decide +kernel
theorem dX4_lampsThatHear_38 : decode cX4_lampsThatHear 38 = .ok (.ior, 1) := by decide +kernel
theorem dX4_lampsThatHear_39 : decode cX4_lampsThatHear 39 = .ok (.istore_n 2, 1) := by decide +kernel
theorem dX4_lampsThatHear_40 : decode cX4_lampsThatHear 40 = .ok (.iinc 3 1, 3) := by decide +kernel
theorem dX4_lampsThatHear_43 : decode cX4_lampsThatHear 43 = .ok (.goto (-39), 3) := by decide +kernel
theorem dX4_lampsThatHear_46 : decode cX4_lampsThatHear 46 = .ok (.iload_n 2, 1) := by decide +kernel
theorem dX4_lampsThatHear_47 : decode cX4_lampsThatHear 47 = .ok (.ireturn, 1) := by decide +kernel
theorem dX4_hasLampsApart_0 : decode cX4_hasLampsApart 0 = .ok (.iconst 0, 1) := by decide +kernel
theorem dX4_hasLampsApart_1 : decode cX4_hasLampsApart 1 = .ok (.istore_n 2, 1) := by decide +kernel
theorem dX4_hasLampsApart_2 : decode cX4_hasLampsApart 2 = .ok (.iload_n 2, 1) := by decide +kernel
theorem dX4_hasLampsApart_3 : decode cX4_hasLampsApart 3 = .ok (.aload_n 0, 1) := by decide +kernel
theorem dX4_hasLampsApart_4 : decode cX4_hasLampsApart 4 = .ok (.getfield 45, 3) := by decide +kernel
theorem dX4_hasLampsApart_7 : decode cX4_hasLampsApart 7 = .ok (.if_icmp .ge 46, 3) := by decide +kernel
theorem dX4_hasLampsApart_10 : decode cX4_hasLampsApart 10 = .ok (.iconst 0, 1) := by decide +kernel
theorem dX4_hasLampsApart_11 : decode cX4_hasLampsApart 11 = .ok (.istore_n 3, 1) := by decide +kernel
theorem dX4_hasLampsApart_12 : decode cX4_hasLampsApart 12 = .ok (.iload_n 3, 1) := by decide +kernel
theorem dX4_hasLampsApart_13 : decode cX4_hasLampsApart 13 = .ok (.iload_n 2, 1) := by decide +kernel
theorem dX4_hasLampsApart_14 : decode cX4_hasLampsApart 14 = .ok (.if_icmp .ge 33, 3) := by decide +kernel
theorem dX4_hasLampsApart_17 : decode cX4_hasLampsApart 17 = .ok (.aload_n 0, 1) := by decide +kernel
theorem dX4_hasLampsApart_18 : decode cX4_hasLampsApart 18 = .ok (.getfield 17, 3) := by decide +kernel
theorem dX4_hasLampsApart_21 : decode cX4_hasLampsApart 21 = .ok (.iload_n 2, 1) := by decide +kernel
theorem dX4_hasLampsApart_22 : decode cX4_hasLampsApart 22 = .ok (.aaload, 1) := by decide +kernel
theorem dX4_hasLampsApart_23 : decode cX4_hasLampsApart 23 = .ok (.aload_n 0, 1) := by decide +kernel
theorem dX4_hasLampsApart_24 : decode cX4_hasLampsApart 24 = .ok (.getfield 17, 3) := by decide +kernel
theorem dX4_hasLampsApart_27 : decode cX4_hasLampsApart 27 = .ok (.iload_n 3, 1) := by decide +kernel
theorem dX4_hasLampsApart_28 : decode cX4_hasLampsApart 28 = .ok (.aaload, 1) := by decide +kernel
theorem dX4_hasLampsApart_29 : decode cX4_hasLampsApart 29 = .ok (.getfield 82, 3) := by decide +kernel
theorem dX4_hasLampsApart_32 : decode cX4_hasLampsApart 32 = .ok (.invokevirtual 164, 3) := by decide +kernel
theorem dX4_hasLampsApart_35 : decode cX4_hasLampsApart 35 = .ok (.iload_n 1, 1) := by decide +kernel
theorem dX4_hasLampsApart_36 : decode cX4_hasLampsApart 36 = .ok (.if_icmp .ne 5, 3) := by decide +kernel
theorem dX4_hasLampsApart_39 : decode cX4_hasLampsApart 39 = .ok (.iconst 1, 1) := by decide +kernel
theorem dX4_hasLampsApart_40 : decode cX4_hasLampsApart 40 = .ok (.ireturn, 1) := by decide +kernel
theorem dX4_hasLampsApart_41 : decode cX4_hasLampsApart 41 = .ok (.iinc 3 1, 3) := by decide +kernel
theorem dX4_hasLampsApart_44 : decode cX4_hasLampsApart 44 = .ok (.goto (-32), 3) := by decide +kernel
theorem dX4_hasLampsApart_47 : decode cX4_hasLampsApart 47 = .ok (.iinc 2 1, 3) := by decide +kernel
theorem dX4_hasLampsApart_50 : decode cX4_hasLampsApart 50 = .ok (.goto (-48), 3) := by decide +kernel
theorem dX4_hasLampsApart_53 : decode cX4_hasLampsApart 53 = .ok (.iconst 0, 1) := by decide +kernel
theorem dX4_hasLampsApart_54 : decode cX4_hasLampsApart 54 = .ok (.ireturn, 1) := by decide +kernel
theorem dX4_lampsThatAre_0 : decode cX4_lampsThatAre 0 = .ok (.iconst 0, 1) := by decide +kernel
theorem dX4_lampsThatAre_1 : decode cX4_lampsThatAre 1 = .ok (.istore_n 2, 1) := by decide +kernel
theorem dX4_lampsThatAre_2 : decode cX4_lampsThatAre 2 = .ok (.iconst 0, 1) := by decide +kernel
theorem dX4_lampsThatAre_3 : decode cX4_lampsThatAre 3 = .ok (.istore_n 3, 1) := by decide +kernel
theorem dX4_lampsThatAre_4 : decode cX4_lampsThatAre 4 = .ok (.iload_n 3, 1) := by decide +kernel
theorem dX4_lampsThatAre_5 : decode cX4_lampsThatAre 5 = .ok (.aload_n 0, 1) := by decide +kernel
theorem dX4_lampsThatAre_6 : decode cX4_lampsThatAre 6 = .ok (.getfield 45, 3) := by decide +kernel
theorem dX4_lampsThatAre_9 : decode cX4_lampsThatAre 9 = .ok (.if_icmp .ge 28, 3) := by decide +kernel
theorem dX4_lampsThatAre_12 : decode cX4_lampsThatAre 12 = .ok (.aload_n 0, 1) := by decide +kernel
theorem dX4_lampsThatAre_13 : decode cX4_lampsThatAre 13 = .ok (.getfield 17, 3) := by decide +kernel
theorem dX4_lampsThatAre_16 : decode cX4_lampsThatAre 16 = .ok (.iload_n 3, 1) := by decide +kernel
theorem dX4_lampsThatAre_17 : decode cX4_lampsThatAre 17 = .ok (.aaload, 1) := by decide +kernel
theorem dX4_lampsThatAre_18 : decode cX4_lampsThatAre 18 = .ok (.getfield 203, 3) := by decide +kernel
theorem dX4_lampsThatAre_21 : decode cX4_lampsThatAre 21 = .ok (.iload_n 1, 1) := by decide +kernel
theorem dX4_lampsThatAre_22 : decode cX4_lampsThatAre 22 = .ok (.if_icmp .ne 9, 3) := by decide +kernel
theorem dX4_lampsThatAre_25 : decode cX4_lampsThatAre 25 = .ok (.iload_n 2, 1) := by decide +kernel
theorem dX4_lampsThatAre_26 : decode cX4_lampsThatAre 26 = .ok (.iconst 1, 1) := by decide +kernel
theorem dX4_lampsThatAre_27 : decode cX4_lampsThatAre 27 = .ok (.iload_n 3, 1) := by decide +kernel
theorem dX4_lampsThatAre_28 : decode cX4_lampsThatAre 28 = .ok (.ishl, 1) := by decide +kernel
theorem dX4_lampsThatAre_29 : decode cX4_lampsThatAre 29 = .ok (.ior, 1) := by decide +kernel
theorem dX4_lampsThatAre_30 : decode cX4_lampsThatAre 30 = .ok (.istore_n 2, 1) := by decide +kernel
