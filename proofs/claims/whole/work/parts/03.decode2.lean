theorem dX7_isDisturbed_0 : decode cX7_isDisturbed 0 = .ok (.iconst 0, 1) := by decide +kernel
theorem dX7_isDisturbed_1 : decode cX7_isDisturbed 1 = .ok (.istore_n 2, 1) := by decide +kernel
theorem dX7_isDisturbed_2 : decode cX7_isDisturbed 2 = .ok (.iconst 0, 1) := by decide +kernel
theorem dX7_isDisturbed_3 : decode cX7_isDisturbed 3 = .ok (.istore_n 3, 1) := by decide +kernel
theorem dX7_isDisturbed_4 : decode cX7_isDisturbed 4 = .ok (.iload_n 3, 1) := by decide +kernel
theorem dX7_isDisturbed_5 : decode cX7_isDisturbed 5 = .ok (.aload_n 0, 1) := by decide +kernel
theorem dX7_isDisturbed_6 : decode cX7_isDisturbed 6 = .ok (.getfield 7, 3) := by decide +kernel
theorem dX7_isDisturbed_9 : decode cX7_isDisturbed 9 = .ok (.bipush 7, 2) := by decide +kernel
theorem dX7_isDisturbed_11 : decode cX7_isDisturbed 11 = .ok (.iaload, 1) := by decide +kernel
theorem dX7_isDisturbed_12 : decode cX7_isDisturbed 12 = .ok (.if_icmp .ge 53, 3) := by decide +kernel
theorem dX7_isDisturbed_15 : decode cX7_isDisturbed 15 = .ok (.iload_n 2, 1) := by decide +kernel
theorem dX7_isDisturbed_16 : decode cX7_isDisturbed 16 = .ok (.aload_n 0, 1) := by decide +kernel
theorem dX7_isDisturbed_17 : decode cX7_isDisturbed 17 = .ok (.iload_n 3, 1) := by decide +kernel
theorem dX7_isDisturbed_18 : decode cX7_isDisturbed 18 = .ok (.iconst 2, 1) := by decide +kernel
theorem dX7_isDisturbed_19 : decode cX7_isDisturbed 19 = .ok (.invokevirtual 62, 3) := by decide +kernel
theorem dX7_isDisturbed_22 : decode cX7_isDisturbed 22 = .ok (.iconst 2, 1) := by decide +kernel
theorem dX7_isDisturbed_23 : decode cX7_isDisturbed 23 = .ok (.if_icmp .ne 33, 3) := by decide +kernel
theorem dX7_isDisturbed_26 : decode cX7_isDisturbed 26 = .ok (.aload_n 0, 1) := by decide +kernel
theorem dX7_isDisturbed_27 : decode cX7_isDisturbed 27 = .ok (.iload_n 3, 1) := by decide +kernel
theorem dX7_isDisturbed_28 : decode cX7_isDisturbed 28 = .ok (.iconst 0, 1) := by decide +kernel
theorem dX7_isDisturbed_29 : decode cX7_isDisturbed 29 = .ok (.invokevirtual 62, 3) := by decide +kernel
theorem dX7_isDisturbed_32 : decode cX7_isDisturbed 32 = .ok (.aload_n 0, 1) := by decide +kernel
theorem dX7_isDisturbed_33 : decode cX7_isDisturbed 33 = .ok (.iload_n 1, 1) := by decide +kernel
theorem dX7_isDisturbed_34 : decode cX7_isDisturbed 34 = .ok (.iconst 0, 1) := by decide +kernel
theorem dX7_isDisturbed_35 : decode cX7_isDisturbed 35 = .ok (.invokevirtual 72, 3) := by decide +kernel
theorem dX7_isDisturbed_38 : decode cX7_isDisturbed 38 = .ok (.invokestatic 65, 3) := by decide +kernel
theorem dX7_isDisturbed_41 : decode cX7_isDisturbed 41 = .ok (.aload_n 0, 1) := by decide +kernel
theorem dX7_isDisturbed_42 : decode cX7_isDisturbed 42 = .ok (.iload_n 3, 1) := by decide +kernel
theorem dX7_isDisturbed_43 : decode cX7_isDisturbed 43 = .ok (.iconst 1, 1) := by decide +kernel
theorem dX7_isDisturbed_44 : decode cX7_isDisturbed 44 = .ok (.invokevirtual 62, 3) := by decide +kernel
theorem dX7_isDisturbed_47 : decode cX7_isDisturbed 47 = .ok (.iconst 3, 1) := by decide +kernel
theorem dX7_isDisturbed_48 : decode cX7_isDisturbed 48 = .ok (.idiv, 1) := by decide +kernel
theorem dX7_isDisturbed_49 : decode cX7_isDisturbed 49 = .ok (.if_icmp .gt 7, 3) := by decide +kernel
theorem dX7_isDisturbed_52 : decode cX7_isDisturbed 52 = .ok (.iconst 1, 1) := by decide +kernel
theorem dX7_isDisturbed_53 : decode cX7_isDisturbed 53 = .ok (.goto 4, 3) := by decide +kernel
theorem dX7_isDisturbed_56 : decode cX7_isDisturbed 56 = .ok (.iconst 0, 1) := by decide +kernel
theorem dX7_isDisturbed_57 : decode cX7_isDisturbed 57 = .ok (.ior, 1) := by decide +kernel
theorem dX7_isDisturbed_58 : decode cX7_isDisturbed 58 = .ok (.istore_n 2, 1) := by decide +kernel
theorem dX7_isDisturbed_59 : decode cX7_isDisturbed 59 = .ok (.iinc 3 1, 3) := by decide +kernel
theorem dX7_isDisturbed_62 : decode cX7_isDisturbed 62 = .ok (.goto (-58), 3) := by decide +kernel
theorem dX7_isDisturbed_65 : decode cX7_isDisturbed 65 = .ok (.iload_n 2, 1) := by decide +kernel
theorem dX7_isDisturbed_66 : decode cX7_isDisturbed 66 = .ok (.ireturn, 1) := by decide +kernel
theorem dX7_nearestTo_0 : decode cX7_nearestTo 0 = .ok (.bipush (-6), 2) := by decide +kernel
theorem dX7_nearestTo_2 : decode cX7_nearestTo 2 = .ok (.istore_n 2, 1) := by decide +kernel
theorem dX7_nearestTo_3 : decode cX7_nearestTo 3 = .ok (.iconst 0, 1) := by decide +kernel
theorem dX7_nearestTo_4 : decode cX7_nearestTo 4 = .ok (.istore_n 3, 1) := by decide +kernel
theorem dX7_nearestTo_5 : decode cX7_nearestTo 5 = .ok (.iload_n 3, 1) := by decide +kernel
theorem dX7_nearestTo_6 : decode cX7_nearestTo 6 = .ok (.aload_n 0, 1) := by decide +kernel
theorem dX7_nearestTo_7 : decode cX7_nearestTo 7 = .ok (.getfield 7, 3) := by decide +kernel
theorem dX7_nearestTo_10 : decode cX7_nearestTo 10 = .ok (.bipush 7, 2) := by decide +kernel
theorem dX7_nearestTo_12 : decode cX7_nearestTo 12 = .ok (.iaload, 1) := by decide +kernel
theorem dX7_nearestTo_13 : decode cX7_nearestTo 13 = .ok (.if_icmp .ge 42, 3) := by decide +kernel
theorem dX7_nearestTo_16 : decode cX7_nearestTo 16 = .ok (.iload_n 2, 1) := by decide +kernel
theorem dX7_nearestTo_17 : decode cX7_nearestTo 17 = .ok (.ifCond .lt 26, 3) := by decide +kernel
theorem dX7_nearestTo_20 : decode cX7_nearestTo 20 = .ok (.aload_n 0, 1) := by decide +kernel
theorem dX7_nearestTo_21 : decode cX7_nearestTo 21 = .ok (.iload_n 3, 1) := by decide +kernel
theorem dX7_nearestTo_22 : decode cX7_nearestTo 22 = .ok (.iconst 0, 1) := by decide +kernel
theorem dX7_nearestTo_23 : decode cX7_nearestTo 23 = .ok (.invokevirtual 62, 3) := by decide +kernel
theorem dX7_nearestTo_26 : decode cX7_nearestTo 26 = .ok (.iload_n 1, 1) := by decide +kernel
theorem dX7_nearestTo_27 : decode cX7_nearestTo 27 = .ok (.invokestatic 65, 3) := by decide +kernel
theorem dX7_nearestTo_30 : decode cX7_nearestTo 30 = .ok (.aload_n 0, 1) := by decide +kernel
theorem dX7_nearestTo_31 : decode cX7_nearestTo 31 = .ok (.iload_n 2, 1) := by decide +kernel
theorem dX7_nearestTo_32 : decode cX7_nearestTo 32 = .ok (.iconst 0, 1) := by decide +kernel
theorem dX7_nearestTo_33 : decode cX7_nearestTo 33 = .ok (.invokevirtual 62, 3) := by decide +kernel
theorem dX7_nearestTo_36 : decode cX7_nearestTo 36 = .ok (.iload_n 1, 1) := by decide +kernel
theorem dX7_nearestTo_37 : decode cX7_nearestTo 37 = .ok (.invokestatic 65, 3) := by decide +kernel
theorem dX7_nearestTo_40 : decode cX7_nearestTo 40 = .ok (.if_icmp .ge 7, 3) := by decide +kernel
theorem dX7_nearestTo_43 : decode cX7_nearestTo 43 = .ok (.iload_n 3, 1) := by decide +kernel
theorem dX7_nearestTo_44 : decode cX7_nearestTo 44 = .ok (.goto 4, 3) := by decide +kernel
theorem dX7_nearestTo_47 : decode cX7_nearestTo 47 = .ok (.iload_n 2, 1) := by decide +kernel
theorem dX7_nearestTo_48 : decode cX7_nearestTo 48 = .ok (.istore_n 2, 1) := by decide +kernel
theorem dX7_nearestTo_49 : decode cX7_nearestTo 49 = .ok (.iinc 3 1, 3) := by decide +kernel
theorem dX7_nearestTo_52 : decode cX7_nearestTo 52 = .ok (.goto (-47), 3) := by decide +kernel
theorem dX7_nearestTo_55 : decode cX7_nearestTo 55 = .ok (.iload_n 2, 1) := by decide +kernel
theorem dX7_nearestTo_56 : decode cX7_nearestTo 56 = .ok (.ireturn, 1) := by decide +kernel
theorem dX7_shine_0 : decode cX7_shine 0 = .ok (.aload_n 0, 1) := by decide +kernel
theorem dX7_shine_1 : decode cX7_shine 1 = .ok (.iload_n 1, 1) := by decide +kernel
theorem dX7_shine_2 : decode cX7_shine 2 = .ok (.iconst 2, 1) := by decide +kernel
theorem dX7_shine_3 : decode cX7_shine 3 = .ok (.iconst 2, 1) := by decide +kernel
theorem dX7_shine_4 : decode cX7_shine 4 = .ok (.invokevirtual 75, 3) := by decide +kernel
theorem dX7_shine_7 : decode cX7_shine 7 = .ok (.aload_n 0, 1) := by decide +kernel
theorem dX7_shine_8 : decode cX7_shine 8 = .ok (.iload_n 1, 1) := by decide +kernel
theorem dX7_shine_9 : decode cX7_shine 9 = .ok (.iconst 4, 1) := by decide +kernel
theorem dX7_shine_10 : decode cX7_shine 10 = .ok (.aload_n 0, 1) := by decide +kernel
theorem dX7_shine_11 : decode cX7_shine 11 = .ok (.getfield 7, 3) := by decide +kernel
theorem dX7_shine_14 : decode cX7_shine 14 = .ok (.iconst 2, 1) := by decide +kernel
theorem dX7_shine_15 : decode cX7_shine 15 = .ok (.iaload, 1) := by decide +kernel
theorem dX7_shine_16 : decode cX7_shine 16 = .ok (.invokevirtual 75, 3) := by decide +kernel
theorem dX7_shine_19 : decode cX7_shine 19 = .ok (.aload_n 0, 1) := by decide +kernel
theorem dX7_shine_20 : decode cX7_shine 20 = .ok (.iload_n 1, 1) := by decide +kernel
theorem dX7_shine_21 : decode cX7_shine 21 = .ok (.bipush 12, 2) := by decide +kernel
theorem dX7_shine_23 : decode cX7_shine 23 = .ok (.iconst 1, 1) := by decide +kernel
theorem dX7_shine_24 : decode cX7_shine 24 = .ok (.invokevirtual 75, 3) := by decide +kernel
theorem dX7_shine_27 : decode cX7_shine 27 = .ok (.return_, 1) := by decide +kernel
theorem dX7_hears_0 : decode cX7_hears 0 = .ok (.iload_n 1, 1) := by decide +kernel
theorem dX7_hears_1 : decode cX7_hears 1 = .ok (.iload_n 2, 1) := by decide +kernel
theorem dX7_hears_2 : decode cX7_hears 2 = .ok (.if_icmp .eq 41, 3) := by decide +kernel
theorem dX7_hears_5 : decode cX7_hears 5 = .ok (.aload_n 0, 1) := by decide +kernel
theorem dX7_hears_6 : decode cX7_hears 6 = .ok (.iload_n 1, 1) := by decide +kernel
theorem dX7_hears_7 : decode cX7_hears 7 = .ok (.iconst 3, 1) := by decide +kernel
theorem dX7_hears_8 : decode cX7_hears 8 = .ok (.invokevirtual 62, 3) := by decide +kernel
theorem dX7_hears_11 : decode cX7_hears 11 = .ok (.iconst 2, 1) := by decide +kernel
theorem dX7_hears_12 : decode cX7_hears 12 = .ok (.if_icmp .eq 31, 3) := by decide +kernel
theorem dX7_hears_15 : decode cX7_hears 15 = .ok (.aload_n 0, 1) := by decide +kernel
theorem dX7_hears_16 : decode cX7_hears 16 = .ok (.iload_n 1, 1) := by decide +kernel
theorem dX7_hears_17 : decode cX7_hears 17 = .ok (.iconst 0, 1) := by decide +kernel
theorem dX7_hears_18 : decode cX7_hears 18 = .ok (.invokevirtual 62, 3) := by decide +kernel
theorem dX7_hears_21 : decode cX7_hears 21 = .ok (.aload_n 0, 1) := by decide +kernel
theorem dX7_hears_22 : decode cX7_hears 22 = .ok (.iload_n 2, 1) := by decide +kernel
theorem dX7_hears_23 : decode cX7_hears 23 = .ok (.iconst 0, 1) := by decide +kernel
theorem dX7_hears_24 : decode cX7_hears 24 = .ok (.invokevirtual 62, 3) := by decide +kernel
theorem dX7_hears_27 : decode cX7_hears 27 = .ok (.invokestatic 65, 3) := by decide +kernel
theorem dX7_hears_30 : decode cX7_hears 30 = .ok (.aload_n 0, 1) := by decide +kernel
theorem dX7_hears_31 : decode cX7_hears 31 = .ok (.getfield 7, 3) := by decide +kernel
theorem dX7_hears_34 : decode cX7_hears 34 = .ok (.iconst 1, 1) := by decide +kernel
theorem dX7_hears_35 : decode cX7_hears 35 = .ok (.iaload, 1) := by decide +kernel
theorem dX7_hears_36 : decode cX7_hears 36 = .ok (.if_icmp .gt 7, 3) := by decide +kernel
theorem dX7_hears_39 : decode cX7_hears 39 = .ok (.iconst 1, 1) := by decide +kernel
theorem dX7_hears_40 : decode cX7_hears 40 = .ok (.goto 4, 3) := by decide +kernel
theorem dX7_hears_43 : decode cX7_hears 43 = .ok (.iconst 0, 1) := by decide +kernel
theorem dX7_hears_44 : decode cX7_hears 44 = .ok (.ireturn, 1) := by decide +kernel
theorem dX7_stopWaiting_0 : decode cX7_stopWaiting 0 = .ok (.aload_n 0, 1) := by decide +kernel
theorem dX7_stopWaiting_1 : decode cX7_stopWaiting 1 = .ok (.iload_n 1, 1) := by decide +kernel
theorem dX7_stopWaiting_2 : decode cX7_stopWaiting 2 = .ok (.iconst 5, 1) := by decide +kernel
theorem dX7_stopWaiting_3 : decode cX7_stopWaiting 3 = .ok (.iconst 0, 1) := by decide +kernel
theorem dX7_stopWaiting_4 : decode cX7_stopWaiting 4 = .ok (.invokevirtual 75, 3) := by decide +kernel
theorem dX7_stopWaiting_7 : decode cX7_stopWaiting 7 = .ok (.aload_n 0, 1) := by decide +kernel
theorem dX7_stopWaiting_8 : decode cX7_stopWaiting 8 = .ok (.iload_n 1, 1) := by decide +kernel
theorem dX7_stopWaiting_9 : decode cX7_stopWaiting 9 = .ok (.bipush 6, 2) := by decide +kernel
theorem dX7_stopWaiting_11 : decode cX7_stopWaiting 11 = .ok (.iconst 0, 1) := by decide +kernel
theorem dX7_stopWaiting_12 : decode cX7_stopWaiting 12 = .ok (.invokevirtual 75, 3) := by decide +kernel
theorem dX7_stopWaiting_15 : decode cX7_stopWaiting 15 = .ok (.return_, 1) := by decide +kernel
theorem dX7_coughs_0 : decode cX7_coughs 0 = .ok (.iconst 0, 1) := by decide +kernel
theorem dX7_coughs_1 : decode cX7_coughs 1 = .ok (.istore_n 3, 1) := by decide +kernel
theorem dX7_coughs_2 : decode cX7_coughs 2 = .ok (.aload_n 0, 1) := by decide +kernel
theorem dX7_coughs_3 : decode cX7_coughs 3 = .ok (.iload_n 1, 1) := by decide +kernel
theorem dX7_coughs_4 : decode cX7_coughs 4 = .ok (.bipush 8, 2) := by decide +kernel
theorem dX7_coughs_6 : decode cX7_coughs 6 = .ok (.iconst 1, 1) := by decide +kernel
theorem dX7_coughs_7 : decode cX7_coughs 7 = .ok (.invokevirtual 79, 3) := by decide +kernel
theorem dX7_coughs_10 : decode cX7_coughs 10 = .ok (.iconst 0, 1) := by decide +kernel
theorem dX7_coughs_11 : decode cX7_coughs 11 = .ok (.istore 4, 2) := by decide +kernel
theorem dX7_coughs_13 : decode cX7_coughs 13 = .ok (.iload 4, 2) := by decide +kernel
theorem dX7_coughs_15 : decode cX7_coughs 15 = .ok (.aload_n 0, 1) := by decide +kernel
theorem dX7_coughs_16 : decode cX7_coughs 16 = .ok (.getfield 7, 3) := by decide +kernel
theorem dX7_coughs_19 : decode cX7_coughs 19 = .ok (.bipush 7, 2) := by decide +kernel
theorem dX7_coughs_21 : decode cX7_coughs 21 = .ok (.iaload, 1) := by decide +kernel
theorem dX7_coughs_22 : decode cX7_coughs 22 = .ok (.if_icmp .ge 92, 3) := by decide +kernel
theorem dX7_coughs_25 : decode cX7_coughs 25 = .ok (.aload_n 0, 1) := by decide +kernel
theorem dX7_coughs_26 : decode cX7_coughs 26 = .ok (.iload 4, 2) := by decide +kernel
theorem dX7_coughs_28 : decode cX7_coughs 28 = .ok (.iload_n 1, 1) := by decide +kernel
theorem dX7_coughs_29 : decode cX7_coughs 29 = .ok (.invokevirtual 82, 3) := by decide +kernel
theorem dX7_coughs_32 : decode cX7_coughs 32 = .ok (.ifCond .eq 76, 3) := by decide +kernel
theorem dX7_coughs_35 : decode cX7_coughs 35 = .ok (.iinc 3 1, 3) := by decide +kernel
theorem dX7_coughs_38 : decode cX7_coughs 38 = .ok (.aload_n 0, 1) := by decide +kernel
theorem dX7_coughs_39 : decode cX7_coughs 39 = .ok (.iload 4, 2) := by decide +kernel
theorem dX7_coughs_41 : decode cX7_coughs 41 = .ok (.bipush 9, 2) := by decide +kernel
theorem dX7_coughs_43 : decode cX7_coughs 43 = .ok (.iconst 1, 1) := by decide +kernel
theorem dX7_coughs_44 : decode cX7_coughs 44 = .ok (.invokevirtual 79, 3) := by decide +kernel
theorem dX7_coughs_47 : decode cX7_coughs 47 = .ok (.aload_n 0, 1) := by decide +kernel
theorem dX7_coughs_48 : decode cX7_coughs 48 = .ok (.iload 4, 2) := by decide +kernel
theorem dX7_coughs_50 : decode cX7_coughs 50 = .ok (.invokevirtual 85, 3) := by decide +kernel
theorem dX7_coughs_53 : decode cX7_coughs 53 = .ok (.iload_n 2, 1) := by decide +kernel
theorem dX7_coughs_54 : decode cX7_coughs 54 = .ok (.aload_n 0, 1) := by decide +kernel
theorem dX7_coughs_55 : decode cX7_coughs 55 = .ok (.getfield 7, 3) := by decide +kernel
theorem dX7_coughs_58 : decode cX7_coughs 58 = .ok (.iconst 5, 1) := by decide +kernel
theorem dX7_coughs_59 : decode cX7_coughs 59 = .ok (.iaload, 1) := by decide +kernel
theorem dX7_coughs_60 : decode cX7_coughs 60 = .ok (.if_icmp .ge 48, 3) := by decide +kernel
theorem dX7_coughs_63 : decode cX7_coughs 63 = .ok (.aload_n 0, 1) := by decide +kernel
theorem dX7_coughs_64 : decode cX7_coughs 64 = .ok (.iload 4, 2) := by decide +kernel
theorem dX7_coughs_66 : decode cX7_coughs 66 = .ok (.iconst 5, 1) := by decide +kernel
theorem dX7_coughs_67 : decode cX7_coughs 67 = .ok (.invokevirtual 62, 3) := by decide +kernel
theorem dX7_coughs_70 : decode cX7_coughs 70 = .ok (.ifCond .ne 38, 3) := by decide +kernel
theorem dX7_coughs_73 : decode cX7_coughs 73 = .ok (.aload_n 0, 1) := by decide +kernel
theorem dX7_coughs_74 : decode cX7_coughs 74 = .ok (.iload 4, 2) := by decide +kernel
theorem dX7_coughs_76 : decode cX7_coughs 76 = .ok (.bipush 11, 2) := by decide +kernel
theorem dX7_coughs_78 : decode cX7_coughs 78 = .ok (.invokevirtual 62, 3) := by decide +kernel
theorem dX7_coughs_81 : decode cX7_coughs 81 = .ok (.ifCond .ne 27, 3) := by decide +kernel
theorem dX7_coughs_84 : decode cX7_coughs 84 = .ok (.aload_n 0, 1) := by decide +kernel
theorem dX7_coughs_85 : decode cX7_coughs 85 = .ok (.iload 4, 2) := by decide +kernel
theorem dX7_coughs_87 : decode cX7_coughs 87 = .ok (.iconst 5, 1) := by decide +kernel
theorem dX7_coughs_88 : decode cX7_coughs 88 = .ok (.aload_n 0, 1) := by decide +kernel
theorem dX7_coughs_89 : decode cX7_coughs 89 = .ok (.getfield 7, 3) := by decide +kernel
theorem dX7_coughs_92 : decode cX7_coughs 92 = .ok (.iconst 4, 1) := by decide +kernel
theorem dX7_coughs_93 : decode cX7_coughs 93 = .ok (.iaload, 1) := by decide +kernel
theorem dX7_coughs_94 : decode cX7_coughs 94 = .ok (.invokevirtual 75, 3) := by decide +kernel
theorem dX7_coughs_97 : decode cX7_coughs 97 = .ok (.aload_n 0, 1) := by decide +kernel
theorem dX7_coughs_98 : decode cX7_coughs 98 = .ok (.iload 4, 2) := by decide +kernel
theorem dX7_coughs_100 : decode cX7_coughs 100 = .ok (.bipush 6, 2) := by decide +kernel
theorem dX7_coughs_102 : decode cX7_coughs 102 = .ok (.iload_n 2, 1) := by decide +kernel
theorem dX7_coughs_103 : decode cX7_coughs 103 = .ok (.iconst 1, 1) := by decide +kernel
theorem dX7_coughs_104 : decode cX7_coughs 104 = .ok (.iadd, 1) := by decide +kernel
theorem dX7_coughs_105 : decode cX7_coughs 105 = .ok (.invokevirtual 75, 3) := by decide +kernel
theorem dX7_coughs_108 : decode cX7_coughs 108 = .ok (.iinc 4 1, 3) := by decide +kernel
theorem dX7_coughs_111 : decode cX7_coughs 111 = .ok (.goto (-98), 3) := by decide +kernel
theorem dX7_coughs_114 : decode cX7_coughs 114 = .ok (.iload_n 3, 1) := by decide +kernel
theorem dX7_coughs_115 : decode cX7_coughs 115 = .ok (.ireturn, 1) := by decide +kernel
theorem dX7_endGoal_0 : decode cX7_endGoal 0 = .ok (.aload_n 0, 1) := by decide +kernel
theorem dX7_endGoal_1 : decode cX7_endGoal 1 = .ok (.iload_n 1, 1) := by decide +kernel
theorem dX7_endGoal_2 : decode cX7_endGoal 2 = .ok (.iconst 3, 1) := by decide +kernel
theorem dX7_endGoal_3 : decode cX7_endGoal 3 = .ok (.aload_n 0, 1) := by decide +kernel
theorem dX7_endGoal_4 : decode cX7_endGoal 4 = .ok (.iload_n 1, 1) := by decide +kernel
theorem dX7_endGoal_5 : decode cX7_endGoal 5 = .ok (.iconst 3, 1) := by decide +kernel
theorem dX7_endGoal_6 : decode cX7_endGoal 6 = .ok (.invokevirtual 48, 3) := by decide +kernel
theorem dX7_endGoal_9 : decode cX7_endGoal 9 = .ok (.iconst 1, 1) := by decide +kernel
theorem dX7_endGoal_10 : decode cX7_endGoal 10 = .ok (.isub, 1) := by decide +kernel
theorem dX7_endGoal_11 : decode cX7_endGoal 11 = .ok (.invokevirtual 89, 3) := by decide +kernel
theorem dX7_endGoal_14 : decode cX7_endGoal 14 = .ok (.bipush 8, 2) := by decide +kernel
theorem dX7_endGoal_16 : decode cX7_endGoal 16 = .ok (.istore_n 2, 1) := by decide +kernel
theorem dX7_endGoal_17 : decode cX7_endGoal 17 = .ok (.iload_n 2, 1) := by decide +kernel
theorem dX7_endGoal_18 : decode cX7_endGoal 18 = .ok (.bipush 8, 2) := by decide +kernel
theorem dX7_endGoal_20 : decode cX7_endGoal 20 = .ok (.iconst 2, 1) := by decide +kernel
theorem dX7_endGoal_21 : decode cX7_endGoal 21 = .ok (.aload_n 0, 1) := by decide +kernel
theorem dX7_endGoal_22 : decode cX7_endGoal 22 = .ok (.iload_n 1, 1) := by decide +kernel
theorem dX7_endGoal_23 : decode cX7_endGoal 23 = .ok (.iconst 3, 1) := by decide +kernel
theorem dX7_endGoal_24 : decode cX7_endGoal 24 = .ok (.invokevirtual 48, 3) := by decide +kernel
theorem dX7_endGoal_27 : decode cX7_endGoal 27 = .ok (.imul, 1) := by decide +kernel
theorem dX7_endGoal_28 : decode cX7_endGoal 28 = .ok (.iadd, 1) := by decide +kernel
theorem dX7_endGoal_29 : decode cX7_endGoal 29 = .ok (.if_icmp .ge 23, 3) := by decide +kernel
theorem dX7_endGoal_32 : decode cX7_endGoal 32 = .ok (.aload_n 0, 1) := by decide +kernel
theorem dX7_endGoal_33 : decode cX7_endGoal 33 = .ok (.iload_n 1, 1) := by decide +kernel
theorem dX7_endGoal_34 : decode cX7_endGoal 34 = .ok (.iload_n 2, 1) := by decide +kernel
theorem dX7_endGoal_35 : decode cX7_endGoal 35 = .ok (.aload_n 0, 1) := by decide +kernel
theorem dX7_endGoal_36 : decode cX7_endGoal 36 = .ok (.iload_n 1, 1) := by decide +kernel
theorem dX7_endGoal_37 : decode cX7_endGoal 37 = .ok (.iload_n 2, 1) := by decide +kernel
theorem dX7_endGoal_38 : decode cX7_endGoal 38 = .ok (.iconst 2, 1) := by decide +kernel
theorem dX7_endGoal_39 : decode cX7_endGoal 39 = .ok (.iadd, 1) := by decide +kernel
theorem dX7_endGoal_40 : decode cX7_endGoal 40 = .ok (.invokevirtual 48, 3) := by decide +kernel
theorem dX7_endGoal_43 : decode cX7_endGoal 43 = .ok (.invokevirtual 89, 3) := by decide +kernel
theorem dX7_endGoal_46 : decode cX7_endGoal 46 = .ok (.iinc 2 1, 3) := by decide +kernel
theorem dX7_endGoal_49 : decode cX7_endGoal 49 = .ok (.goto (-32), 3) := by decide +kernel
theorem dX7_endGoal_52 : decode cX7_endGoal 52 = .ok (.aload_n 0, 1) := by decide +kernel
theorem dX7_endGoal_53 : decode cX7_endGoal 53 = .ok (.iload_n 1, 1) := by decide +kernel
theorem dX7_endGoal_54 : decode cX7_endGoal 54 = .ok (.iconst 4, 1) := by decide +kernel
theorem dX7_endGoal_55 : decode cX7_endGoal 55 = .ok (.bipush (-6), 2) := by decide +kernel
theorem dX7_endGoal_57 : decode cX7_endGoal 57 = .ok (.invokevirtual 89, 3) := by decide +kernel
theorem dX7_endGoal_60 : decode cX7_endGoal 60 = .ok (.aload_n 0, 1) := by decide +kernel
theorem dX7_endGoal_61 : decode cX7_endGoal 61 = .ok (.iload_n 1, 1) := by decide +kernel
theorem dX7_endGoal_62 : decode cX7_endGoal 62 = .ok (.iconst 2, 1) := by decide +kernel
theorem dX7_endGoal_63 : decode cX7_endGoal 63 = .ok (.aload_n 0, 1) := by decide +kernel
theorem dX7_endGoal_64 : decode cX7_endGoal 64 = .ok (.iload_n 1, 1) := by decide +kernel
theorem dX7_endGoal_65 : decode cX7_endGoal 65 = .ok (.iconst 3, 1) := by decide +kernel
theorem dX7_endGoal_66 : decode cX7_endGoal 66 = .ok (.invokevirtual 48, 3) := by decide +kernel
theorem dX7_endGoal_69 : decode cX7_endGoal 69 = .ok (.ifCond .ne 7, 3) := by decide +kernel
theorem dX7_endGoal_72 : decode cX7_endGoal 72 = .ok (.iconst 1, 1) := by decide +kernel
theorem dX7_endGoal_73 : decode cX7_endGoal 73 = .ok (.goto 4, 3) := by decide +kernel
theorem dX7_endGoal_76 : decode cX7_endGoal 76 = .ok (.iconst 0, 1) := by decide +kernel
theorem dX7_endGoal_77 : decode cX7_endGoal 77 = .ok (.invokevirtual 89, 3) := by decide +kernel
theorem dX7_endGoal_80 : decode cX7_endGoal 80 = .ok (.return_, 1) := by decide +kernel
theorem dX7_walk_0 : decode cX7_walk 0 = .ok (.aload_n 0, 1) := by decide +kernel
theorem dX7_walk_1 : decode cX7_walk 1 = .ok (.iload_n 1, 1) := by decide +kernel
theorem dX7_walk_2 : decode cX7_walk 2 = .ok (.bipush 8, 2) := by decide +kernel
theorem dX7_walk_4 : decode cX7_walk 4 = .ok (.invokevirtual 48, 3) := by decide +kernel
theorem dX7_walk_7 : decode cX7_walk 7 = .ok (.istore_n 2, 1) := by decide +kernel
theorem dX7_walk_8 : decode cX7_walk 8 = .ok (.aload_n 0, 1) := by decide +kernel
theorem dX7_walk_9 : decode cX7_walk 9 = .ok (.iload_n 1, 1) := by decide +kernel
theorem dX7_walk_10 : decode cX7_walk 10 = .ok (.iconst 0, 1) := by decide +kernel
theorem dX7_walk_11 : decode cX7_walk 11 = .ok (.invokevirtual 48, 3) := by decide +kernel
theorem dX7_walk_14 : decode cX7_walk 14 = .ok (.istore_n 3, 1) := by decide +kernel
theorem dX7_walk_15 : decode cX7_walk 15 = .ok (.iload_n 3, 1) := by decide +kernel
theorem dX7_walk_16 : decode cX7_walk 16 = .ok (.iload_n 2, 1) := by decide +kernel
theorem dX7_walk_17 : decode cX7_walk 17 = .ok (.invokestatic 65, 3) := by decide +kernel
theorem dX7_walk_20 : decode cX7_walk 20 = .ok (.aload_n 0, 1) := by decide +kernel
theorem dX7_walk_21 : decode cX7_walk 21 = .ok (.iload_n 1, 1) := by decide +kernel
theorem dX7_walk_22 : decode cX7_walk 22 = .ok (.iconst 1, 1) := by decide +kernel
theorem dX7_walk_23 : decode cX7_walk 23 = .ok (.invokevirtual 48, 3) := by decide +kernel
theorem dX7_walk_26 : decode cX7_walk 26 = .ok (.if_icmp .ge 11, 3) := by decide +kernel
theorem dX7_walk_29 : decode cX7_walk 29 = .ok (.iload_n 3, 1) := by decide +kernel
theorem dX7_walk_30 : decode cX7_walk 30 = .ok (.iload_n 2, 1) := by decide +kernel
theorem dX7_walk_31 : decode cX7_walk 31 = .ok (.invokestatic 65, 3) := by decide +kernel
theorem dX7_walk_34 : decode cX7_walk 34 = .ok (.goto 9, 3) := by decide +kernel
theorem dX7_walk_37 : decode cX7_walk 37 = .ok (.aload_n 0, 1) := by decide +kernel
theorem dX7_walk_38 : decode cX7_walk 38 = .ok (.iload_n 1, 1) := by decide +kernel
theorem dX7_walk_39 : decode cX7_walk 39 = .ok (.iconst 1, 1) := by decide +kernel
theorem dX7_walk_40 : decode cX7_walk 40 = .ok (.invokevirtual 48, 3) := by decide +kernel
theorem dX7_walk_43 : decode cX7_walk 43 = .ok (.istore 4, 2) := by decide +kernel
theorem dX7_walk_45 : decode cX7_walk 45 = .ok (.aload_n 0, 1) := by decide +kernel
theorem dX7_walk_46 : decode cX7_walk 46 = .ok (.iload_n 1, 1) := by decide +kernel
theorem dX7_walk_47 : decode cX7_walk 47 = .ok (.iconst 0, 1) := by decide +kernel
theorem dX7_walk_48 : decode cX7_walk 48 = .ok (.iload_n 2, 1) := by decide +kernel
theorem dX7_walk_49 : decode cX7_walk 49 = .ok (.iload_n 3, 1) := by decide +kernel
theorem dX7_walk_50 : decode cX7_walk 50 = .ok (.if_icmp .ge 10, 3) := by decide +kernel
theorem dX7_walk_53 : decode cX7_walk 53 = .ok (.iload_n 3, 1) := by decide +kernel
theorem dX7_walk_54 : decode cX7_walk 54 = .ok (.iload 4, 2) := by decide +kernel
theorem dX7_walk_56 : decode cX7_walk 56 = .ok (.isub, 1) := by decide +kernel
theorem dX7_walk_57 : decode cX7_walk 57 = .ok (.goto 7, 3) := by decide +kernel
theorem dX7_walk_60 : decode cX7_walk 60 = .ok (.iload_n 3, 1) := by decide +kernel
theorem dX7_walk_61 : decode cX7_walk 61 = .ok (.iload 4, 2) := by decide +kernel
theorem dX7_walk_63 : decode cX7_walk 63 = .ok (.iadd, 1) := by decide +kernel
theorem dX7_walk_64 : decode cX7_walk 64 = .ok (.invokevirtual 89, 3) := by decide +kernel
theorem dX7_walk_67 : decode cX7_walk 67 = .ok (.aload_n 0, 1) := by decide +kernel
theorem dX7_walk_68 : decode cX7_walk 68 = .ok (.iload_n 1, 1) := by decide +kernel
theorem dX7_walk_69 : decode cX7_walk 69 = .ok (.bipush 6, 2) := by decide +kernel
theorem dX7_walk_71 : decode cX7_walk 71 = .ok (.aload_n 0, 1) := by decide +kernel
theorem dX7_walk_72 : decode cX7_walk 72 = .ok (.iload_n 1, 1) := by decide +kernel
theorem dX7_walk_73 : decode cX7_walk 73 = .ok (.bipush 6, 2) := by decide +kernel
theorem dX7_walk_75 : decode cX7_walk 75 = .ok (.invokevirtual 48, 3) := by decide +kernel
theorem dX7_walk_78 : decode cX7_walk 78 = .ok (.iload 4, 2) := by decide +kernel
theorem dX7_walk_80 : decode cX7_walk 80 = .ok (.iadd, 1) := by decide +kernel
theorem dX7_walk_81 : decode cX7_walk 81 = .ok (.invokevirtual 89, 3) := by decide +kernel
theorem dX7_walk_84 : decode cX7_walk 84 = .ok (.aload_n 0, 1) := by decide +kernel
theorem dX7_walk_85 : decode cX7_walk 85 = .ok (.iload_n 1, 1) := by decide +kernel
theorem dX7_walk_86 : decode cX7_walk 86 = .ok (.iconst 0, 1) := by decide +kernel
theorem dX7_walk_87 : decode cX7_walk 87 = .ok (.invokevirtual 48, 3) := by decide +kernel
theorem dX7_walk_90 : decode cX7_walk 90 = .ok (.iload_n 2, 1) := by decide +kernel
theorem dX7_walk_91 : decode cX7_walk 91 = .ok (.if_icmp .ne 28, 3) := by decide +kernel
theorem dX7_walk_94 : decode cX7_walk 94 = .ok (.aload_n 0, 1) := by decide +kernel
theorem dX7_walk_95 : decode cX7_walk 95 = .ok (.iload_n 1, 1) := by decide +kernel
theorem dX7_walk_96 : decode cX7_walk 96 = .ok (.bipush 9, 2) := by decide +kernel
theorem dX7_walk_98 : decode cX7_walk 98 = .ok (.invokevirtual 48, 3) := by decide +kernel
theorem dX7_walk_101 : decode cX7_walk 101 = .ok (.ifCond .le 13, 3) := by decide +kernel
theorem dX7_walk_104 : decode cX7_walk 104 = .ok (.aload_n 0, 1) := by decide +kernel
theorem dX7_walk_105 : decode cX7_walk 105 = .ok (.iload_n 1, 1) := by decide +kernel
theorem dX7_walk_106 : decode cX7_walk 106 = .ok (.iconst 4, 1) := by decide +kernel
theorem dX7_walk_107 : decode cX7_walk 107 = .ok (.iconst 0, 1) := by decide +kernel
theorem dX7_walk_108 : decode cX7_walk 108 = .ok (.invokevirtual 89, 3) := by decide +kernel
theorem dX7_walk_111 : decode cX7_walk 111 = .ok (.goto 8, 3) := by decide +kernel
theorem dX7_walk_114 : decode cX7_walk 114 = .ok (.aload_n 0, 1) := by decide +kernel
theorem dX7_walk_115 : decode cX7_walk 115 = .ok (.iload_n 1, 1) := by decide +kernel
theorem dX7_walk_116 : decode cX7_walk 116 = .ok (.invokevirtual 92, 3) := by decide +kernel
theorem dX7_walk_119 : decode cX7_walk 119 = .ok (.return_, 1) := by decide +kernel
theorem dX7_go_0 : decode cX7_go 0 = .ok (.aload_n 0, 1) := by decide +kernel
theorem dX7_go_1 : decode cX7_go 1 = .ok (.iload_n 1, 1) := by decide +kernel
theorem dX7_go_2 : decode cX7_go 2 = .ok (.invokevirtual 95, 3) := by decide +kernel
theorem dX7_go_5 : decode cX7_go 5 = .ok (.ifCond .eq 12, 3) := by decide +kernel
theorem dX7_go_8 : decode cX7_go 8 = .ok (.aload_n 0, 1) := by decide +kernel
theorem dX7_go_9 : decode cX7_go 9 = .ok (.iload_n 1, 1) := by decide +kernel
theorem dX7_go_10 : decode cX7_go 10 = .ok (.iconst 3, 1) := by decide +kernel
theorem dX7_go_11 : decode cX7_go 11 = .ok (.invokevirtual 48, 3) := by decide +kernel
theorem dX7_go_14 : decode cX7_go 14 = .ok (.ifCond .ne 4, 3) := by decide +kernel
theorem dX7_go_17 : decode cX7_go 17 = .ok (.return_, 1) := by decide +kernel
theorem dX7_go_18 : decode cX7_go 18 = .ok (.aload_n 0, 1) := by decide +kernel
theorem dX7_go_19 : decode cX7_go 19 = .ok (.iload_n 1, 1) := by decide +kernel
theorem dX7_go_20 : decode cX7_go 20 = .ok (.iconst 4, 1) := by decide +kernel
theorem dX7_go_21 : decode cX7_go 21 = .ok (.invokevirtual 48, 3) := by decide +kernel
theorem dX7_go_24 : decode cX7_go 24 = .ok (.ifCond .ge 9, 3) := by decide +kernel
theorem dX7_go_27 : decode cX7_go 27 = .ok (.aload_n 0, 1) := by decide +kernel
theorem dX7_go_28 : decode cX7_go 28 = .ok (.iload_n 1, 1) := by decide +kernel
theorem dX7_go_29 : decode cX7_go 29 = .ok (.invokevirtual 99, 3) := by decide +kernel
theorem dX7_go_32 : decode cX7_go 32 = .ok (.return_, 1) := by decide +kernel
theorem dX7_go_33 : decode cX7_go 33 = .ok (.aload_n 0, 1) := by decide +kernel
theorem dX7_go_34 : decode cX7_go 34 = .ok (.iload_n 1, 1) := by decide +kernel
theorem dX7_go_35 : decode cX7_go 35 = .ok (.iconst 4, 1) := by decide +kernel
theorem dX7_go_36 : decode cX7_go 36 = .ok (.aload_n 0, 1) := by decide +kernel
theorem dX7_go_37 : decode cX7_go 37 = .ok (.iload_n 1, 1) := by decide +kernel
theorem dX7_go_38 : decode cX7_go 38 = .ok (.iconst 4, 1) := by decide +kernel
theorem dX7_go_39 : decode cX7_go 39 = .ok (.invokevirtual 48, 3) := by decide +kernel
theorem dX7_go_42 : decode cX7_go 42 = .ok (.iconst 1, 1) := by decide +kernel
theorem dX7_go_43 : decode cX7_go 43 = .ok (.iadd, 1) := by decide +kernel
theorem dX7_go_44 : decode cX7_go 44 = .ok (.invokevirtual 89, 3) := by decide +kernel
theorem dX7_go_47 : decode cX7_go 47 = .ok (.aload_n 0, 1) := by decide +kernel
theorem dX7_go_48 : decode cX7_go 48 = .ok (.iload_n 1, 1) := by decide +kernel
theorem dX7_go_49 : decode cX7_go 49 = .ok (.iconst 4, 1) := by decide +kernel
theorem dX7_go_50 : decode cX7_go 50 = .ok (.invokevirtual 48, 3) := by decide +kernel
theorem dX7_go_53 : decode cX7_go 53 = .ok (.aload_n 0, 1) := by decide +kernel
theorem dX7_go_54 : decode cX7_go 54 = .ok (.iload_n 1, 1) := by decide +kernel
theorem dX7_go_55 : decode cX7_go 55 = .ok (.bipush 9, 2) := by decide +kernel
theorem dX7_go_57 : decode cX7_go 57 = .ok (.invokevirtual 48, 3) := by decide +kernel
theorem dX7_go_60 : decode cX7_go 60 = .ok (.if_icmp .ne 8, 3) := by decide +kernel
theorem dX7_go_63 : decode cX7_go 63 = .ok (.aload_n 0, 1) := by decide +kernel
theorem dX7_go_64 : decode cX7_go 64 = .ok (.iload_n 1, 1) := by decide +kernel
theorem dX7_go_65 : decode cX7_go 65 = .ok (.invokevirtual 92, 3) := by decide +kernel
theorem dX7_go_68 : decode cX7_go 68 = .ok (.return_, 1) := by decide +kernel
theorem dX7_coughAgain_0 : decode cX7_coughAgain 0 = .ok (.iconst 0, 1) := by decide +kernel
theorem dX7_coughAgain_1 : decode cX7_coughAgain 1 = .ok (.istore_n 1, 1) := by decide +kernel
theorem dX7_coughAgain_2 : decode cX7_coughAgain 2 = .ok (.iload_n 1, 1) := by decide +kernel
theorem dX7_coughAgain_3 : decode cX7_coughAgain 3 = .ok (.aload_n 0, 1) := by decide +kernel
theorem dX7_coughAgain_4 : decode cX7_coughAgain 4 = .ok (.getfield 7, 3) := by decide +kernel
theorem dX7_coughAgain_7 : decode cX7_coughAgain 7 = .ok (.bipush 7, 2) := by decide +kernel
theorem dX7_coughAgain_9 : decode cX7_coughAgain 9 = .ok (.iaload, 1) := by decide +kernel
theorem dX7_coughAgain_10 : decode cX7_coughAgain 10 = .ok (.if_icmp .ge 68, 3) := by decide +kernel
theorem dX7_coughAgain_13 : decode cX7_coughAgain 13 = .ok (.aload_n 0, 1) := by decide +kernel
theorem dX7_coughAgain_14 : decode cX7_coughAgain 14 = .ok (.getfield 26, 3) := by decide +kernel
theorem dX7_coughAgain_17 : decode cX7_coughAgain 17 = .ok (.iload_n 1, 1) := by decide +kernel
theorem dX7_coughAgain_18 : decode cX7_coughAgain 18 = .ok (.bipush (-6), 2) := by decide +kernel
theorem dX7_coughAgain_20 : decode cX7_coughAgain 20 = .ok (.iastore, 1) := by decide +kernel
theorem dX7_coughAgain_21 : decode cX7_coughAgain 21 = .ok (.aload_n 0, 1) := by decide +kernel
theorem dX7_coughAgain_22 : decode cX7_coughAgain 22 = .ok (.iload_n 1, 1) := by decide +kernel
theorem dX7_coughAgain_23 : decode cX7_coughAgain 23 = .ok (.iconst 5, 1) := by decide +kernel
theorem dX7_coughAgain_24 : decode cX7_coughAgain 24 = .ok (.invokevirtual 62, 3) := by decide +kernel
theorem dX7_coughAgain_27 : decode cX7_coughAgain 27 = .ok (.ifCond .le 45, 3) := by decide +kernel
theorem dX7_coughAgain_30 : decode cX7_coughAgain 30 = .ok (.aload_n 0, 1) := by decide +kernel
theorem dX7_coughAgain_31 : decode cX7_coughAgain 31 = .ok (.iload_n 1, 1) := by decide +kernel
theorem dX7_coughAgain_32 : decode cX7_coughAgain 32 = .ok (.iconst 5, 1) := by decide +kernel
theorem dX7_coughAgain_33 : decode cX7_coughAgain 33 = .ok (.iconst (-1), 1) := by decide +kernel
theorem dX7_coughAgain_34 : decode cX7_coughAgain 34 = .ok (.invokevirtual 79, 3) := by decide +kernel
theorem dX7_coughAgain_37 : decode cX7_coughAgain 37 = .ok (.aload_n 0, 1) := by decide +kernel
theorem dX7_coughAgain_38 : decode cX7_coughAgain 38 = .ok (.iload_n 1, 1) := by decide +kernel
theorem dX7_coughAgain_39 : decode cX7_coughAgain 39 = .ok (.iconst 5, 1) := by decide +kernel
theorem dX7_coughAgain_40 : decode cX7_coughAgain 40 = .ok (.invokevirtual 62, 3) := by decide +kernel
theorem dX7_coughAgain_43 : decode cX7_coughAgain 43 = .ok (.ifCond .ne 29, 3) := by decide +kernel
theorem dX7_coughAgain_46 : decode cX7_coughAgain 46 = .ok (.aload_n 0, 1) := by decide +kernel
theorem dX7_coughAgain_47 : decode cX7_coughAgain 47 = .ok (.getfield 26, 3) := by decide +kernel
theorem dX7_coughAgain_50 : decode cX7_coughAgain 50 = .ok (.iload_n 1, 1) := by decide +kernel
theorem dX7_coughAgain_51 : decode cX7_coughAgain 51 = .ok (.aload_n 0, 1) := by decide +kernel
theorem dX7_coughAgain_52 : decode cX7_coughAgain 52 = .ok (.iload_n 1, 1) := by decide +kernel
theorem dX7_coughAgain_53 : decode cX7_coughAgain 53 = .ok (.bipush 6, 2) := by decide +kernel
theorem dX7_coughAgain_55 : decode cX7_coughAgain 55 = .ok (.invokevirtual 62, 3) := by decide +kernel
theorem dX7_coughAgain_58 : decode cX7_coughAgain 58 = .ok (.iastore, 1) := by decide +kernel
theorem dX7_coughAgain_59 : decode cX7_coughAgain 59 = .ok (.aload_n 0, 1) := by decide +kernel
theorem dX7_coughAgain_60 : decode cX7_coughAgain 60 = .ok (.iload_n 1, 1) := by decide +kernel
theorem dX7_coughAgain_61 : decode cX7_coughAgain 61 = .ok (.invokevirtual 102, 3) := by decide +kernel
theorem dX7_coughAgain_64 : decode cX7_coughAgain 64 = .ok (.aload_n 0, 1) := by decide +kernel
theorem dX7_coughAgain_65 : decode cX7_coughAgain 65 = .ok (.iload_n 1, 1) := by decide +kernel
theorem dX7_coughAgain_66 : decode cX7_coughAgain 66 = .ok (.bipush 11, 2) := by decide +kernel
theorem dX7_coughAgain_68 : decode cX7_coughAgain 68 = .ok (.iconst 1, 1) := by decide +kernel
theorem dX7_coughAgain_69 : decode cX7_coughAgain 69 = .ok (.invokevirtual 75, 3) := by decide +kernel
theorem dX7_coughAgain_72 : decode cX7_coughAgain 72 = .ok (.iinc 1 1, 3) := by decide +kernel
theorem dX7_coughAgain_75 : decode cX7_coughAgain 75 = .ok (.goto (-73), 3) := by decide +kernel
theorem dX7_coughAgain_78 : decode cX7_coughAgain 78 = .ok (.iconst 0, 1) := by decide +kernel
theorem dX7_coughAgain_79 : decode cX7_coughAgain 79 = .ok (.istore_n 1, 1) := by decide +kernel
theorem dX7_coughAgain_80 : decode cX7_coughAgain 80 = .ok (.iload_n 1, 1) := by decide +kernel
theorem dX7_coughAgain_81 : decode cX7_coughAgain 81 = .ok (.aload_n 0, 1) := by decide +kernel
theorem dX7_coughAgain_82 : decode cX7_coughAgain 82 = .ok (.getfield 7, 3) := by decide +kernel
theorem dX7_coughAgain_85 : decode cX7_coughAgain 85 = .ok (.bipush 7, 2) := by decide +kernel
theorem dX7_coughAgain_87 : decode cX7_coughAgain 87 = .ok (.iaload, 1) := by decide +kernel
theorem dX7_coughAgain_88 : decode cX7_coughAgain 88 = .ok (.if_icmp .ge 30, 3) := by decide +kernel
theorem dX7_coughAgain_91 : decode cX7_coughAgain 91 = .ok (.aload_n 0, 1) := by decide +kernel
theorem dX7_coughAgain_92 : decode cX7_coughAgain 92 = .ok (.getfield 26, 3) := by decide +kernel
theorem dX7_coughAgain_95 : decode cX7_coughAgain 95 = .ok (.iload_n 1, 1) := by decide +kernel
theorem dX7_coughAgain_96 : decode cX7_coughAgain 96 = .ok (.iaload, 1) := by decide +kernel
theorem dX7_coughAgain_97 : decode cX7_coughAgain 97 = .ok (.ifCond .lt 15, 3) := by decide +kernel
theorem dX7_coughAgain_100 : decode cX7_coughAgain 100 = .ok (.aload_n 0, 1) := by decide +kernel
theorem dX7_coughAgain_101 : decode cX7_coughAgain 101 = .ok (.iload_n 1, 1) := by decide +kernel
theorem dX7_coughAgain_102 : decode cX7_coughAgain 102 = .ok (.aload_n 0, 1) := by decide +kernel
theorem dX7_coughAgain_103 : decode cX7_coughAgain 103 = .ok (.getfield 26, 3) := by decide +kernel
theorem dX7_coughAgain_106 : decode cX7_coughAgain 106 = .ok (.iload_n 1, 1) := by decide +kernel
theorem dX7_coughAgain_107 : decode cX7_coughAgain 107 = .ok (.iaload, 1) := by decide +kernel
theorem dX7_coughAgain_108 : decode cX7_coughAgain 108 = .ok (.invokevirtual 105, 3) := by decide +kernel
theorem dX7_coughAgain_111 : decode cX7_coughAgain 111 = .ok (.pop, 1) := by decide +kernel
theorem dX7_coughAgain_112 : decode cX7_coughAgain 112 = .ok (.iinc 1 1, 3) := by decide +kernel
theorem dX7_coughAgain_115 : decode cX7_coughAgain 115 = .ok (.goto (-35), 3) := by decide +kernel
theorem dX7_coughAgain_118 : decode cX7_coughAgain 118 = .ok (.return_, 1) := by decide +kernel
theorem dX7_sees_0 : decode cX7_sees 0 = .ok (.iconst 0, 1) := by decide +kernel
theorem dX7_sees_1 : decode cX7_sees 1 = .ok (.istore_n 2, 1) := by decide +kernel
theorem dX7_sees_2 : decode cX7_sees 2 = .ok (.iconst 0, 1) := by decide +kernel
theorem dX7_sees_3 : decode cX7_sees 3 = .ok (.istore_n 3, 1) := by decide +kernel
theorem dX7_sees_4 : decode cX7_sees 4 = .ok (.iload_n 3, 1) := by decide +kernel
theorem dX7_sees_5 : decode cX7_sees 5 = .ok (.aload_n 0, 1) := by decide +kernel
theorem dX7_sees_6 : decode cX7_sees 6 = .ok (.getfield 7, 3) := by decide +kernel
theorem dX7_sees_9 : decode cX7_sees 9 = .ok (.bipush 9, 2) := by decide +kernel
theorem dX7_sees_11 : decode cX7_sees 11 = .ok (.iaload, 1) := by decide +kernel
theorem dX7_sees_12 : decode cX7_sees 12 = .ok (.if_icmp .ge 49, 3) := by decide +kernel
theorem dX7_sees_15 : decode cX7_sees 15 = .ok (.iload_n 2, 1) := by decide +kernel
theorem dX7_sees_16 : decode cX7_sees 16 = .ok (.aload_n 0, 1) := by decide +kernel
theorem dX7_sees_17 : decode cX7_sees 17 = .ok (.iload_n 3, 1) := by decide +kernel
theorem dX7_sees_18 : decode cX7_sees 18 = .ok (.invokevirtual 95, 3) := by decide +kernel
theorem dX7_sees_21 : decode cX7_sees 21 = .ok (.ifCond .eq 31, 3) := by decide +kernel
theorem dX7_sees_24 : decode cX7_sees 24 = .ok (.aload_n 0, 1) := by decide +kernel
theorem dX7_sees_25 : decode cX7_sees 25 = .ok (.iload_n 3, 1) := by decide +kernel
theorem dX7_sees_26 : decode cX7_sees 26 = .ok (.iconst 0, 1) := by decide +kernel
theorem dX7_sees_27 : decode cX7_sees 27 = .ok (.invokevirtual 48, 3) := by decide +kernel
theorem dX7_sees_30 : decode cX7_sees 30 = .ok (.aload_n 0, 1) := by decide +kernel
theorem dX7_sees_31 : decode cX7_sees 31 = .ok (.iload_n 1, 1) := by decide +kernel
theorem dX7_sees_32 : decode cX7_sees 32 = .ok (.iconst 0, 1) := by decide +kernel
theorem dX7_sees_33 : decode cX7_sees 33 = .ok (.invokevirtual 62, 3) := by decide +kernel
theorem dX7_sees_36 : decode cX7_sees 36 = .ok (.invokestatic 65, 3) := by decide +kernel
theorem dX7_sees_39 : decode cX7_sees 39 = .ok (.aload_n 0, 1) := by decide +kernel
theorem dX7_sees_40 : decode cX7_sees 40 = .ok (.getfield 7, 3) := by decide +kernel
theorem dX7_sees_43 : decode cX7_sees 43 = .ok (.iconst 0, 1) := by decide +kernel
theorem dX7_sees_44 : decode cX7_sees 44 = .ok (.iaload, 1) := by decide +kernel
theorem dX7_sees_45 : decode cX7_sees 45 = .ok (.if_icmp .gt 7, 3) := by decide +kernel
theorem dX7_sees_48 : decode cX7_sees 48 = .ok (.iconst 1, 1) := by decide +kernel
theorem dX7_sees_49 : decode cX7_sees 49 = .ok (.goto 4, 3) := by decide +kernel
theorem dX7_sees_52 : decode cX7_sees 52 = .ok (.iconst 0, 1) := by decide +kernel
theorem dX7_sees_53 : decode cX7_sees 53 = .ok (.ior, 1) := by decide +kernel
theorem dX7_sees_54 : decode cX7_sees 54 = .ok (.istore_n 2, 1) := by decide +kernel
theorem dX7_sees_55 : decode cX7_sees 55 = .ok (.iinc 3 1, 3) := by decide +kernel
theorem dX7_sees_58 : decode cX7_sees 58 = .ok (.goto (-54), 3) := by decide +kernel
theorem dX7_sees_61 : decode cX7_sees 61 = .ok (.iload_n 2, 1) := by decide +kernel
theorem dX7_sees_62 : decode cX7_sees 62 = .ok (.ifCond .eq 16, 3) := by decide +kernel
theorem dX7_sees_65 : decode cX7_sees 65 = .ok (.aload_n 0, 1) := by decide +kernel
theorem dX7_sees_66 : decode cX7_sees 66 = .ok (.iload_n 1, 1) := by decide +kernel
theorem dX7_sees_67 : decode cX7_sees 67 = .ok (.iconst 3, 1) := by decide +kernel
theorem dX7_sees_68 : decode cX7_sees 68 = .ok (.invokevirtual 62, 3) := by decide +kernel
theorem dX7_sees_71 : decode cX7_sees 71 = .ok (.ifCond .ne 7, 3) := by decide +kernel
theorem dX7_sees_74 : decode cX7_sees 74 = .ok (.iconst 1, 1) := by decide +kernel
theorem dX7_sees_75 : decode cX7_sees 75 = .ok (.goto 4, 3) := by decide +kernel
theorem dX7_sees_78 : decode cX7_sees 78 = .ok (.iconst 0, 1) := by decide +kernel
theorem dX7_sees_79 : decode cX7_sees 79 = .ok (.ireturn, 1) := by decide +kernel
theorem dX7_look_0 : decode cX7_look 0 = .ok (.iconst 0, 1) := by decide +kernel
theorem dX7_look_1 : decode cX7_look 1 = .ok (.istore_n 1, 1) := by decide +kernel
theorem dX7_look_2 : decode cX7_look 2 = .ok (.iload_n 1, 1) := by decide +kernel
theorem dX7_look_3 : decode cX7_look 3 = .ok (.aload_n 0, 1) := by decide +kernel
theorem dX7_look_4 : decode cX7_look 4 = .ok (.getfield 7, 3) := by decide +kernel
theorem dX7_look_7 : decode cX7_look 7 = .ok (.bipush 7, 2) := by decide +kernel
theorem dX7_look_9 : decode cX7_look 9 = .ok (.iaload, 1) := by decide +kernel
theorem dX7_look_10 : decode cX7_look 10 = .ok (.if_icmp .ge 21, 3) := by decide +kernel
theorem dX7_look_13 : decode cX7_look 13 = .ok (.aload_n 0, 1) := by decide +kernel
theorem dX7_look_14 : decode cX7_look 14 = .ok (.getfield 29, 3) := by decide +kernel
theorem dX7_look_17 : decode cX7_look 17 = .ok (.iload_n 1, 1) := by decide +kernel
theorem dX7_look_18 : decode cX7_look 18 = .ok (.aload_n 0, 1) := by decide +kernel
theorem dX7_look_19 : decode cX7_look 19 = .ok (.iload_n 1, 1) := by decide +kernel
theorem dX7_look_20 : decode cX7_look 20 = .ok (.iconst 2, 1) := by decide +kernel
theorem dX7_look_21 : decode cX7_look 21 = .ok (.invokevirtual 62, 3) := by decide +kernel
theorem dX7_look_24 : decode cX7_look 24 = .ok (.iastore, 1) := by decide +kernel
theorem dX7_look_25 : decode cX7_look 25 = .ok (.iinc 1 1, 3) := by decide +kernel
theorem dX7_look_28 : decode cX7_look 28 = .ok (.goto (-26), 3) := by decide +kernel
theorem dX7_look_31 : decode cX7_look 31 = .ok (.iconst 0, 1) := by decide +kernel
theorem dX7_look_32 : decode cX7_look 32 = .ok (.istore_n 1, 1) := by decide +kernel
theorem dX7_look_33 : decode cX7_look 33 = .ok (.iload_n 1, 1) := by decide +kernel
theorem dX7_look_34 : decode cX7_look 34 = .ok (.aload_n 0, 1) := by decide +kernel
theorem dX7_look_35 : decode cX7_look 35 = .ok (.getfield 7, 3) := by decide +kernel
theorem dX7_look_38 : decode cX7_look 38 = .ok (.bipush 7, 2) := by decide +kernel
theorem dX7_look_40 : decode cX7_look 40 = .ok (.iaload, 1) := by decide +kernel
theorem dX7_look_41 : decode cX7_look 41 = .ok (.if_icmp .ge 52, 3) := by decide +kernel
theorem dX7_look_44 : decode cX7_look 44 = .ok (.aload_n 0, 1) := by decide +kernel
theorem dX7_look_45 : decode cX7_look 45 = .ok (.iload_n 1, 1) := by decide +kernel
theorem dX7_look_46 : decode cX7_look 46 = .ok (.invokevirtual 108, 3) := by decide +kernel
theorem dX7_look_49 : decode cX7_look 49 = .ok (.ifCond .eq 38, 3) := by decide +kernel
theorem dX7_look_52 : decode cX7_look 52 = .ok (.aload_n 0, 1) := by decide +kernel
theorem dX7_look_53 : decode cX7_look 53 = .ok (.iload_n 1, 1) := by decide +kernel
theorem dX7_look_54 : decode cX7_look 54 = .ok (.invokevirtual 85, 3) := by decide +kernel
theorem dX7_look_57 : decode cX7_look 57 = .ok (.aload_n 0, 1) := by decide +kernel
theorem dX7_look_58 : decode cX7_look 58 = .ok (.getfield 29, 3) := by decide +kernel
theorem dX7_look_61 : decode cX7_look 61 = .ok (.iload_n 1, 1) := by decide +kernel
theorem dX7_look_62 : decode cX7_look 62 = .ok (.iaload, 1) := by decide +kernel
theorem dX7_look_63 : decode cX7_look 63 = .ok (.iconst 2, 1) := by decide +kernel
theorem dX7_look_64 : decode cX7_look 64 = .ok (.if_icmp .eq 23, 3) := by decide +kernel
theorem dX7_look_67 : decode cX7_look 67 = .ok (.aload_n 0, 1) := by decide +kernel
theorem dX7_look_68 : decode cX7_look 68 = .ok (.iload_n 1, 1) := by decide +kernel
theorem dX7_look_69 : decode cX7_look 69 = .ok (.invokevirtual 102, 3) := by decide +kernel
theorem dX7_look_72 : decode cX7_look 72 = .ok (.aload_n 0, 1) := by decide +kernel
theorem dX7_look_73 : decode cX7_look 73 = .ok (.iload_n 1, 1) := by decide +kernel
theorem dX7_look_74 : decode cX7_look 74 = .ok (.bipush 11, 2) := by decide +kernel
theorem dX7_look_76 : decode cX7_look 76 = .ok (.iconst 1, 1) := by decide +kernel
theorem dX7_look_77 : decode cX7_look 77 = .ok (.invokevirtual 75, 3) := by decide +kernel
theorem dX7_look_80 : decode cX7_look 80 = .ok (.aload_n 0, 1) := by decide +kernel
theorem dX7_look_81 : decode cX7_look 81 = .ok (.iload_n 1, 1) := by decide +kernel
theorem dX7_look_82 : decode cX7_look 82 = .ok (.iconst 0, 1) := by decide +kernel
theorem dX7_look_83 : decode cX7_look 83 = .ok (.invokevirtual 105, 3) := by decide +kernel
theorem dX7_look_86 : decode cX7_look 86 = .ok (.pop, 1) := by decide +kernel
theorem dX7_look_87 : decode cX7_look 87 = .ok (.iinc 1 1, 3) := by decide +kernel
theorem dX7_look_90 : decode cX7_look 90 = .ok (.goto (-57), 3) := by decide +kernel
theorem dX7_look_93 : decode cX7_look 93 = .ok (.return_, 1) := by decide +kernel
theorem dX7_fade_0 : decode cX7_fade 0 = .ok (.aload_n 0, 1) := by decide +kernel
theorem dX7_fade_1 : decode cX7_fade 1 = .ok (.iload_n 1, 1) := by decide +kernel
theorem dX7_fade_2 : decode cX7_fade 2 = .ok (.iconst 2, 1) := by decide +kernel
theorem dX7_fade_3 : decode cX7_fade 3 = .ok (.invokevirtual 62, 3) := by decide +kernel
theorem dX7_fade_6 : decode cX7_fade 6 = .ok (.istore_n 2, 1) := by decide +kernel
theorem dX7_fade_7 : decode cX7_fade 7 = .ok (.iload_n 2, 1) := by decide +kernel
theorem dX7_fade_8 : decode cX7_fade 8 = .ok (.ifCond .eq 19, 3) := by decide +kernel
theorem dX7_fade_11 : decode cX7_fade 11 = .ok (.iload_n 2, 1) := by decide +kernel
theorem dX7_fade_12 : decode cX7_fade 12 = .ok (.iconst 2, 1) := by decide +kernel
theorem dX7_fade_13 : decode cX7_fade 13 = .ok (.if_icmp .ne 15, 3) := by decide +kernel
theorem dX7_fade_16 : decode cX7_fade 16 = .ok (.aload_n 0, 1) := by decide +kernel
theorem dX7_fade_17 : decode cX7_fade 17 = .ok (.iload_n 1, 1) := by decide +kernel
theorem dX7_fade_18 : decode cX7_fade 18 = .ok (.bipush 12, 2) := by decide +kernel
theorem dX7_fade_20 : decode cX7_fade 20 = .ok (.invokevirtual 62, 3) := by decide +kernel
theorem dX7_fade_23 : decode cX7_fade 23 = .ok (.iconst 1, 1) := by decide +kernel
theorem dX7_fade_24 : decode cX7_fade 24 = .ok (.if_icmp .ne 4, 3) := by decide +kernel
theorem dX7_fade_27 : decode cX7_fade 27 = .ok (.return_, 1) := by decide +kernel
theorem dX7_fade_28 : decode cX7_fade 28 = .ok (.aload_n 0, 1) := by decide +kernel
theorem dX7_fade_29 : decode cX7_fade 29 = .ok (.iload_n 1, 1) := by decide +kernel
theorem dX7_fade_30 : decode cX7_fade 30 = .ok (.iconst 4, 1) := by decide +kernel
theorem dX7_fade_31 : decode cX7_fade 31 = .ok (.iconst (-1), 1) := by decide +kernel
theorem dX7_fade_32 : decode cX7_fade 32 = .ok (.invokevirtual 79, 3) := by decide +kernel
theorem dX7_fade_35 : decode cX7_fade 35 = .ok (.aload_n 0, 1) := by decide +kernel
theorem dX7_fade_36 : decode cX7_fade 36 = .ok (.iload_n 1, 1) := by decide +kernel
theorem dX7_fade_37 : decode cX7_fade 37 = .ok (.iconst 4, 1) := by decide +kernel
theorem dX7_fade_38 : decode cX7_fade 38 = .ok (.invokevirtual 62, 3) := by decide +kernel
theorem dX7_fade_41 : decode cX7_fade 41 = .ok (.ifCond .ne 58, 3) := by decide +kernel
theorem dX7_fade_44 : decode cX7_fade 44 = .ok (.iload_n 2, 1) := by decide +kernel
theorem dX7_fade_45 : decode cX7_fade 45 = .ok (.iconst 2, 1) := by decide +kernel
theorem dX7_fade_46 : decode cX7_fade 46 = .ok (.if_icmp .ne 16, 3) := by decide +kernel
theorem dX7_fade_49 : decode cX7_fade 49 = .ok (.aload_n 0, 1) := by decide +kernel
theorem dX7_fade_50 : decode cX7_fade 50 = .ok (.getfield 7, 3) := by decide +kernel
theorem dX7_fade_53 : decode cX7_fade 53 = .ok (.iconst 3, 1) := by decide +kernel
theorem dX7_fade_54 : decode cX7_fade 54 = .ok (.iaload, 1) := by decide +kernel
theorem dX7_fade_55 : decode cX7_fade 55 = .ok (.ifCond .le 7, 3) := by decide +kernel
theorem dX7_fade_58 : decode cX7_fade 58 = .ok (.iconst 1, 1) := by decide +kernel
theorem dX7_fade_59 : decode cX7_fade 59 = .ok (.goto 4, 3) := by decide +kernel
theorem dX7_fade_62 : decode cX7_fade 62 = .ok (.iconst 0, 1) := by decide +kernel
theorem dX7_fade_63 : decode cX7_fade 63 = .ok (.istore_n 3, 1) := by decide +kernel
theorem dX7_fade_64 : decode cX7_fade 64 = .ok (.aload_n 0, 1) := by decide +kernel
theorem dX7_fade_65 : decode cX7_fade 65 = .ok (.iload_n 1, 1) := by decide +kernel
theorem dX7_fade_66 : decode cX7_fade 66 = .ok (.iconst 2, 1) := by decide +kernel
theorem dX7_fade_67 : decode cX7_fade 67 = .ok (.iload_n 3, 1) := by decide +kernel
theorem dX7_fade_68 : decode cX7_fade 68 = .ok (.ifCond .eq 7, 3) := by decide +kernel
theorem dX7_fade_71 : decode cX7_fade 71 = .ok (.iconst 1, 1) := by decide +kernel
theorem dX7_fade_72 : decode cX7_fade 72 = .ok (.goto 4, 3) := by decide +kernel
theorem dX7_fade_75 : decode cX7_fade 75 = .ok (.iconst 0, 1) := by decide +kernel
theorem dX7_fade_76 : decode cX7_fade 76 = .ok (.invokevirtual 75, 3) := by decide +kernel
theorem dX7_fade_79 : decode cX7_fade 79 = .ok (.aload_n 0, 1) := by decide +kernel
theorem dX7_fade_80 : decode cX7_fade 80 = .ok (.iload_n 1, 1) := by decide +kernel
theorem dX7_fade_81 : decode cX7_fade 81 = .ok (.iconst 4, 1) := by decide +kernel
theorem dX7_fade_82 : decode cX7_fade 82 = .ok (.iload_n 3, 1) := by decide +kernel
theorem dX7_fade_83 : decode cX7_fade 83 = .ok (.ifCond .eq 12, 3) := by decide +kernel
theorem dX7_fade_86 : decode cX7_fade 86 = .ok (.aload_n 0, 1) := by decide +kernel
theorem dX7_fade_87 : decode cX7_fade 87 = .ok (.getfield 7, 3) := by decide +kernel
theorem dX7_fade_90 : decode cX7_fade 90 = .ok (.iconst 3, 1) := by decide +kernel
theorem dX7_fade_91 : decode cX7_fade 91 = .ok (.iaload, 1) := by decide +kernel
theorem dX7_fade_92 : decode cX7_fade 92 = .ok (.goto 4, 3) := by decide +kernel
theorem dX7_fade_95 : decode cX7_fade 95 = .ok (.iconst 0, 1) := by decide +kernel
theorem dX7_fade_96 : decode cX7_fade 96 = .ok (.invokevirtual 75, 3) := by decide +kernel
theorem dX7_fade_99 : decode cX7_fade 99 = .ok (.return_, 1) := by decide +kernel
theorem dX7_account_0 : decode cX7_account 0 = .ok (.iconst 0, 1) := by decide +kernel
theorem dX7_account_1 : decode cX7_account 1 = .ok (.istore_n 1, 1) := by decide +kernel
theorem dX7_account_2 : decode cX7_account 2 = .ok (.iload_n 1, 1) := by decide +kernel
theorem dX7_account_3 : decode cX7_account 3 = .ok (.aload_n 0, 1) := by decide +kernel
theorem dX7_account_4 : decode cX7_account 4 = .ok (.getfield 7, 3) := by decide +kernel
theorem dX7_account_7 : decode cX7_account 7 = .ok (.bipush 7, 2) := by decide +kernel
theorem dX7_account_9 : decode cX7_account 9 = .ok (.iaload, 1) := by decide +kernel
theorem dX7_account_10 : decode cX7_account 10 = .ok (.if_icmp .ge 45, 3) := by decide +kernel
theorem dX7_account_13 : decode cX7_account 13 = .ok (.aload_n 0, 1) := by decide +kernel
theorem dX7_account_14 : decode cX7_account 14 = .ok (.iload_n 1, 1) := by decide +kernel
theorem dX7_account_15 : decode cX7_account 15 = .ok (.bipush 7, 2) := by decide +kernel
theorem dX7_account_17 : decode cX7_account 17 = .ok (.aload_n 0, 1) := by decide +kernel
theorem dX7_account_18 : decode cX7_account 18 = .ok (.iload_n 1, 1) := by decide +kernel
theorem dX7_account_19 : decode cX7_account 19 = .ok (.iconst 2, 1) := by decide +kernel
theorem dX7_account_20 : decode cX7_account 20 = .ok (.invokevirtual 62, 3) := by decide +kernel
theorem dX7_account_23 : decode cX7_account 23 = .ok (.iconst 2, 1) := by decide +kernel
theorem dX7_account_24 : decode cX7_account 24 = .ok (.if_icmp .ne 7, 3) := by decide +kernel
theorem dX7_account_27 : decode cX7_account 27 = .ok (.iconst 4, 1) := by decide +kernel
theorem dX7_account_28 : decode cX7_account 28 = .ok (.goto 18, 3) := by decide +kernel
theorem dX7_account_31 : decode cX7_account 31 = .ok (.aload_n 0, 1) := by decide +kernel
theorem dX7_account_32 : decode cX7_account 32 = .ok (.iload_n 1, 1) := by decide +kernel
theorem dX7_account_33 : decode cX7_account 33 = .ok (.iconst 2, 1) := by decide +kernel
theorem dX7_account_34 : decode cX7_account 34 = .ok (.invokevirtual 62, 3) := by decide +kernel
theorem dX7_account_37 : decode cX7_account 37 = .ok (.iconst 1, 1) := by decide +kernel
theorem dX7_account_38 : decode cX7_account 38 = .ok (.if_icmp .ne 7, 3) := by decide +kernel
theorem dX7_account_41 : decode cX7_account 41 = .ok (.iconst 1, 1) := by decide +kernel
theorem dX7_account_42 : decode cX7_account 42 = .ok (.goto 4, 3) := by decide +kernel
theorem dX7_account_45 : decode cX7_account 45 = .ok (.iconst 0, 1) := by decide +kernel
theorem dX7_account_46 : decode cX7_account 46 = .ok (.invokevirtual 79, 3) := by decide +kernel
theorem dX7_account_49 : decode cX7_account 49 = .ok (.iinc 1 1, 3) := by decide +kernel
theorem dX7_account_52 : decode cX7_account 52 = .ok (.goto (-50), 3) := by decide +kernel
theorem dX7_account_55 : decode cX7_account 55 = .ok (.iconst 0, 1) := by decide +kernel
theorem dX7_account_56 : decode cX7_account 56 = .ok (.istore_n 1, 1) := by decide +kernel
theorem dX7_account_57 : decode cX7_account 57 = .ok (.iload_n 1, 1) := by decide +kernel
theorem dX7_account_58 : decode cX7_account 58 = .ok (.aload_n 0, 1) := by decide +kernel
theorem dX7_account_59 : decode cX7_account 59 = .ok (.getfield 7, 3) := by decide +kernel
theorem dX7_account_62 : decode cX7_account 62 = .ok (.bipush 9, 2) := by decide +kernel
theorem dX7_account_64 : decode cX7_account 64 = .ok (.iaload, 1) := by decide +kernel
theorem dX7_account_65 : decode cX7_account 65 = .ok (.if_icmp .ge 67, 3) := by decide +kernel
theorem dX7_account_68 : decode cX7_account 68 = .ok (.aload_n 0, 1) := by decide +kernel
theorem dX7_account_69 : decode cX7_account 69 = .ok (.iload_n 1, 1) := by decide +kernel
theorem dX7_account_70 : decode cX7_account 70 = .ok (.invokevirtual 95, 3) := by decide +kernel
theorem dX7_account_73 : decode cX7_account 73 = .ok (.ifCond .eq 53, 3) := by decide +kernel
theorem dX7_account_76 : decode cX7_account 76 = .ok (.aload_n 0, 1) := by decide +kernel
theorem dX7_account_77 : decode cX7_account 77 = .ok (.aload_n 0, 1) := by decide +kernel
theorem dX7_account_78 : decode cX7_account 78 = .ok (.iload_n 1, 1) := by decide +kernel
theorem dX7_account_79 : decode cX7_account 79 = .ok (.iconst 0, 1) := by decide +kernel
theorem dX7_account_80 : decode cX7_account 80 = .ok (.invokevirtual 48, 3) := by decide +kernel
theorem dX7_account_83 : decode cX7_account 83 = .ok (.invokevirtual 111, 3) := by decide +kernel
theorem dX7_account_86 : decode cX7_account 86 = .ok (.ifCond .ne 40, 3) := by decide +kernel
theorem dX7_account_89 : decode cX7_account 89 = .ok (.aload_n 0, 1) := by decide +kernel
theorem dX7_account_90 : decode cX7_account 90 = .ok (.iload_n 1, 1) := by decide +kernel
theorem dX7_account_91 : decode cX7_account 91 = .ok (.iconst 5, 1) := by decide +kernel
theorem dX7_account_92 : decode cX7_account 92 = .ok (.aload_n 0, 1) := by decide +kernel
theorem dX7_account_93 : decode cX7_account 93 = .ok (.iload_n 1, 1) := by decide +kernel
theorem dX7_account_94 : decode cX7_account 94 = .ok (.iconst 5, 1) := by decide +kernel
theorem dX7_account_95 : decode cX7_account 95 = .ok (.invokevirtual 48, 3) := by decide +kernel
theorem dX7_account_98 : decode cX7_account 98 = .ok (.iconst 1, 1) := by decide +kernel
theorem dX7_account_99 : decode cX7_account 99 = .ok (.iadd, 1) := by decide +kernel
theorem dX7_account_100 : decode cX7_account 100 = .ok (.invokevirtual 89, 3) := by decide +kernel
theorem dX7_account_103 : decode cX7_account 103 = .ok (.aload_n 0, 1) := by decide +kernel
theorem dX7_account_104 : decode cX7_account 104 = .ok (.aload_n 0, 1) := by decide +kernel
theorem dX7_account_105 : decode cX7_account 105 = .ok (.iload_n 1, 1) := by decide +kernel
theorem dX7_account_106 : decode cX7_account 106 = .ok (.iconst 0, 1) := by decide +kernel
theorem dX7_account_107 : decode cX7_account 107 = .ok (.invokevirtual 48, 3) := by decide +kernel
theorem dX7_account_110 : decode cX7_account 110 = .ok (.invokevirtual 115, 3) := by decide +kernel
theorem dX7_account_113 : decode cX7_account 113 = .ok (.istore_n 2, 1) := by decide +kernel
theorem dX7_account_114 : decode cX7_account 114 = .ok (.iload_n 2, 1) := by decide +kernel
theorem dX7_account_115 : decode cX7_account 115 = .ok (.ifCond .lt 11, 3) := by decide +kernel
theorem dX7_account_118 : decode cX7_account 118 = .ok (.aload_n 0, 1) := by decide +kernel
theorem dX7_account_119 : decode cX7_account 119 = .ok (.iload_n 2, 1) := by decide +kernel
theorem dX7_account_120 : decode cX7_account 120 = .ok (.bipush 10, 2) := by decide +kernel
theorem dX7_account_122 : decode cX7_account 122 = .ok (.iconst 1, 1) := by decide +kernel
theorem dX7_account_123 : decode cX7_account 123 = .ok (.invokevirtual 79, 3) := by decide +kernel
theorem dX7_account_126 : decode cX7_account 126 = .ok (.iinc 1 1, 3) := by decide +kernel
theorem dX7_account_129 : decode cX7_account 129 = .ok (.goto (-72), 3) := by decide +kernel
theorem dX7_account_132 : decode cX7_account 132 = .ok (.iconst 0, 1) := by decide +kernel
theorem dX7_account_133 : decode cX7_account 133 = .ok (.istore_n 1, 1) := by decide +kernel
theorem dX7_account_134 : decode cX7_account 134 = .ok (.iload_n 1, 1) := by decide +kernel
theorem dX7_account_135 : decode cX7_account 135 = .ok (.aload_n 0, 1) := by decide +kernel
theorem dX7_account_136 : decode cX7_account 136 = .ok (.getfield 7, 3) := by decide +kernel
theorem dX7_account_139 : decode cX7_account 139 = .ok (.bipush 8, 2) := by decide +kernel
theorem dX7_account_141 : decode cX7_account 141 = .ok (.iaload, 1) := by decide +kernel
theorem dX7_account_142 : decode cX7_account 142 = .ok (.if_icmp .ge 39, 3) := by decide +kernel
theorem dX7_account_145 : decode cX7_account 145 = .ok (.aload_n 0, 1) := by decide +kernel
theorem dX7_account_146 : decode cX7_account 146 = .ok (.getfield 7, 3) := by decide +kernel
theorem dX7_account_149 : decode cX7_account 149 = .ok (.sipush 218, 3) := by decide +kernel
theorem dX7_account_152 : decode cX7_account 152 = .ok (.iconst 3, 1) := by decide +kernel
theorem dX7_account_153 : decode cX7_account 153 = .ok (.iload_n 1, 1) := by decide +kernel
theorem dX7_account_154 : decode cX7_account 154 = .ok (.imul, 1) := by decide +kernel
theorem dX7_account_155 : decode cX7_account 155 = .ok (.iadd, 1) := by decide +kernel
theorem dX7_account_156 : decode cX7_account 156 = .ok (.iconst 1, 1) := by decide +kernel
theorem dX7_account_157 : decode cX7_account 157 = .ok (.iadd, 1) := by decide +kernel
theorem dX7_account_158 : decode cX7_account 158 = .ok (.dup2, 1) := by decide +kernel
theorem dX7_account_159 : decode cX7_account 159 = .ok (.iaload, 1) := by decide +kernel
theorem dX7_account_160 : decode cX7_account 160 = .ok (.aload_n 0, 1) := by decide +kernel
theorem dX7_account_161 : decode cX7_account 161 = .ok (.iload_n 1, 1) := by decide +kernel
theorem dX7_account_162 : decode cX7_account 162 = .ok (.invokevirtual 118, 3) := by decide +kernel
theorem dX7_account_165 : decode cX7_account 165 = .ok (.ifCond .eq 7, 3) := by decide +kernel
theorem dX7_account_168 : decode cX7_account 168 = .ok (.iconst 1, 1) := by decide +kernel
theorem dX7_account_169 : decode cX7_account 169 = .ok (.goto 4, 3) := by decide +kernel
theorem dX7_account_172 : decode cX7_account 172 = .ok (.iconst 0, 1) := by decide +kernel
theorem dX7_account_173 : decode cX7_account 173 = .ok (.iadd, 1) := by decide +kernel
theorem dX7_account_174 : decode cX7_account 174 = .ok (.iastore, 1) := by decide +kernel
theorem dX7_account_175 : decode cX7_account 175 = .ok (.iinc 1 1, 3) := by decide +kernel
theorem dX7_account_178 : decode cX7_account 178 = .ok (.goto (-44), 3) := by decide +kernel
theorem dX7_account_181 : decode cX7_account 181 = .ok (.return_, 1) := by decide +kernel
theorem dX7_pass_0 : decode cX7_pass 0 = .ok (.iconst 0, 1) := by decide +kernel
theorem dX7_pass_1 : decode cX7_pass 1 = .ok (.istore_n 1, 1) := by decide +kernel
theorem dX7_pass_2 : decode cX7_pass 2 = .ok (.iload_n 1, 1) := by decide +kernel
theorem dX7_pass_3 : decode cX7_pass 3 = .ok (.aload_n 0, 1) := by decide +kernel
theorem dX7_pass_4 : decode cX7_pass 4 = .ok (.getfield 7, 3) := by decide +kernel
theorem dX7_pass_7 : decode cX7_pass 7 = .ok (.bipush 7, 2) := by decide +kernel
theorem dX7_pass_9 : decode cX7_pass 9 = .ok (.iaload, 1) := by decide +kernel
theorem dX7_pass_10 : decode cX7_pass 10 = .ok (.if_icmp .ge 25, 3) := by decide +kernel
theorem dX7_pass_13 : decode cX7_pass 13 = .ok (.aload_n 0, 1) := by decide +kernel
theorem dX7_pass_14 : decode cX7_pass 14 = .ok (.iload_n 1, 1) := by decide +kernel
theorem dX7_pass_15 : decode cX7_pass 15 = .ok (.bipush 11, 2) := by decide +kernel
theorem dX7_pass_17 : decode cX7_pass 17 = .ok (.iconst 0, 1) := by decide +kernel
theorem dX7_pass_18 : decode cX7_pass 18 = .ok (.invokevirtual 75, 3) := by decide +kernel
theorem dX7_pass_21 : decode cX7_pass 21 = .ok (.aload_n 0, 1) := by decide +kernel
theorem dX7_pass_22 : decode cX7_pass 22 = .ok (.iload_n 1, 1) := by decide +kernel
theorem dX7_pass_23 : decode cX7_pass 23 = .ok (.bipush 12, 2) := by decide +kernel
theorem dX7_pass_25 : decode cX7_pass 25 = .ok (.iconst 0, 1) := by decide +kernel
theorem dX7_pass_26 : decode cX7_pass 26 = .ok (.invokevirtual 75, 3) := by decide +kernel
theorem dX7_pass_29 : decode cX7_pass 29 = .ok (.iinc 1 1, 3) := by decide +kernel
theorem dX7_pass_32 : decode cX7_pass 32 = .ok (.goto (-30), 3) := by decide +kernel
theorem dX7_pass_35 : decode cX7_pass 35 = .ok (.iconst 0, 1) := by decide +kernel
theorem dX7_pass_36 : decode cX7_pass 36 = .ok (.istore_n 1, 1) := by decide +kernel
theorem dX7_pass_37 : decode cX7_pass 37 = .ok (.iload_n 1, 1) := by decide +kernel
theorem dX7_pass_38 : decode cX7_pass 38 = .ok (.aload_n 0, 1) := by decide +kernel
theorem dX7_pass_39 : decode cX7_pass 39 = .ok (.getfield 7, 3) := by decide +kernel
theorem dX7_pass_42 : decode cX7_pass 42 = .ok (.bipush 9, 2) := by decide +kernel
theorem dX7_pass_44 : decode cX7_pass 44 = .ok (.iaload, 1) := by decide +kernel
theorem dX7_pass_45 : decode cX7_pass 45 = .ok (.if_icmp .ge 14, 3) := by decide +kernel
theorem dX7_pass_48 : decode cX7_pass 48 = .ok (.aload_n 0, 1) := by decide +kernel
theorem dX7_pass_49 : decode cX7_pass 49 = .ok (.iload_n 1, 1) := by decide +kernel
theorem dX7_pass_50 : decode cX7_pass 50 = .ok (.invokevirtual 121, 3) := by decide +kernel
theorem dX7_pass_53 : decode cX7_pass 53 = .ok (.iinc 1 1, 3) := by decide +kernel
theorem dX7_pass_56 : decode cX7_pass 56 = .ok (.goto (-19), 3) := by decide +kernel
theorem dX7_pass_59 : decode cX7_pass 59 = .ok (.aload_n 0, 1) := by decide +kernel
theorem dX7_pass_60 : decode cX7_pass 60 = .ok (.invokevirtual 124, 3) := by decide +kernel
theorem dX7_pass_63 : decode cX7_pass 63 = .ok (.aload_n 0, 1) := by decide +kernel
theorem dX7_pass_64 : decode cX7_pass 64 = .ok (.invokevirtual 127, 3) := by decide +kernel
theorem dX7_pass_67 : decode cX7_pass 67 = .ok (.iconst 0, 1) := by decide +kernel
theorem dX7_pass_68 : decode cX7_pass 68 = .ok (.istore_n 1, 1) := by decide +kernel
theorem dX7_pass_69 : decode cX7_pass 69 = .ok (.iload_n 1, 1) := by decide +kernel
theorem dX7_pass_70 : decode cX7_pass 70 = .ok (.aload_n 0, 1) := by decide +kernel
theorem dX7_pass_71 : decode cX7_pass 71 = .ok (.getfield 7, 3) := by decide +kernel
theorem dX7_pass_74 : decode cX7_pass 74 = .ok (.bipush 7, 2) := by decide +kernel
theorem dX7_pass_76 : decode cX7_pass 76 = .ok (.iaload, 1) := by decide +kernel
theorem dX7_pass_77 : decode cX7_pass 77 = .ok (.if_icmp .ge 14, 3) := by decide +kernel
theorem dX7_pass_80 : decode cX7_pass 80 = .ok (.aload_n 0, 1) := by decide +kernel
theorem dX7_pass_81 : decode cX7_pass 81 = .ok (.iload_n 1, 1) := by decide +kernel
theorem dX7_pass_82 : decode cX7_pass 82 = .ok (.invokevirtual 130, 3) := by decide +kernel
theorem dX7_pass_85 : decode cX7_pass 85 = .ok (.iinc 1 1, 3) := by decide +kernel
theorem dX7_pass_88 : decode cX7_pass 88 = .ok (.goto (-19), 3) := by decide +kernel
theorem dX7_pass_91 : decode cX7_pass 91 = .ok (.aload_n 0, 1) := by decide +kernel
theorem dX7_pass_92 : decode cX7_pass 92 = .ok (.invokevirtual 133, 3) := by decide +kernel
theorem dX7_pass_95 : decode cX7_pass 95 = .ok (.aload_n 0, 1) := by decide +kernel
theorem dX7_pass_96 : decode cX7_pass 96 = .ok (.getfield 7, 3) := by decide +kernel
theorem dX7_pass_99 : decode cX7_pass 99 = .ok (.bipush 6, 2) := by decide +kernel
theorem dX7_pass_101 : decode cX7_pass 101 = .ok (.dup2, 1) := by decide +kernel
theorem dX7_pass_102 : decode cX7_pass 102 = .ok (.iaload, 1) := by decide +kernel
theorem dX7_pass_103 : decode cX7_pass 103 = .ok (.iconst 1, 1) := by decide +kernel
theorem dX7_pass_104 : decode cX7_pass 104 = .ok (.iadd, 1) := by decide +kernel
theorem dX7_pass_105 : decode cX7_pass 105 = .ok (.iastore, 1) := by decide +kernel
theorem dX7_pass_106 : decode cX7_pass 106 = .ok (.return_, 1) := by decide +kernel
theorem dX7_highest_0 : decode cX7_highest 0 = .ok (.iload_n 0, 1) := by decide +kernel
theorem dX7_highest_1 : decode cX7_highest 1 = .ok (.tableswitch 51 0 5 #[39, 42, 51, 51, 45, 48], 39) := by decide +kernel
theorem dX7_highest_40 : decode cX7_highest 40 = .ok (.bipush 20, 2) := by decide +kernel
theorem dX7_highest_42 : decode cX7_highest 42 = .ok (.ireturn, 1) := by decide +kernel
theorem dX7_highest_43 : decode cX7_highest 43 = .ok (.bipush 60, 2) := by decide +kernel
theorem dX7_highest_45 : decode cX7_highest 45 = .ok (.ireturn, 1) := by decide +kernel
theorem dX7_highest_46 : decode cX7_highest 46 = .ok (.bipush 10, 2) := by decide +kernel
theorem dX7_highest_48 : decode cX7_highest 48 = .ok (.ireturn, 1) := by decide +kernel
theorem dX7_highest_49 : decode cX7_highest 49 = .ok (.bipush 6, 2) := by decide +kernel
theorem dX7_highest_51 : decode cX7_highest 51 = .ok (.ireturn, 1) := by decide +kernel
theorem dX7_highest_52 : decode cX7_highest 52 = .ok (.bipush 50, 2) := by decide +kernel
theorem dX7_highest_54 : decode cX7_highest 54 = .ok (.ireturn, 1) := by decide +kernel
theorem dX7_set_0 : decode cX7_set 0 = .ok (.iload_n 1, 1) := by decide +kernel
theorem dX7_set_1 : decode cX7_set 1 = .ok (.iconst 0, 1) := by decide +kernel
theorem dX7_set_2 : decode cX7_set 2 = .ok (.iconst 5, 1) := by decide +kernel
theorem dX7_set_3 : decode cX7_set 3 = .ok (.invokestatic 44, 3) := by decide +kernel
theorem dX7_set_6 : decode cX7_set 6 = .ok (.ifCond .eq 34, 3) := by decide +kernel
theorem dX7_set_9 : decode cX7_set 9 = .ok (.iload_n 2, 1) := by decide +kernel
theorem dX7_set_10 : decode cX7_set 10 = .ok (.iload_n 1, 1) := by decide +kernel
theorem dX7_set_11 : decode cX7_set 11 = .ok (.iconst 1, 1) := by decide +kernel
theorem dX7_set_12 : decode cX7_set 12 = .ok (.if_icmp .eq 13, 3) := by decide +kernel
theorem dX7_set_15 : decode cX7_set 15 = .ok (.iload_n 1, 1) := by decide +kernel
theorem dX7_set_16 : decode cX7_set 16 = .ok (.iconst 2, 1) := by decide +kernel
theorem dX7_set_17 : decode cX7_set 17 = .ok (.if_icmp .eq 8, 3) := by decide +kernel
theorem dX7_set_20 : decode cX7_set 20 = .ok (.iload_n 1, 1) := by decide +kernel
theorem dX7_set_21 : decode cX7_set 21 = .ok (.iconst 4, 1) := by decide +kernel
theorem dX7_set_22 : decode cX7_set 22 = .ok (.if_icmp .ne 7, 3) := by decide +kernel
theorem dX7_set_25 : decode cX7_set 25 = .ok (.iconst 1, 1) := by decide +kernel
theorem dX7_set_26 : decode cX7_set 26 = .ok (.goto 4, 3) := by decide +kernel
theorem dX7_set_29 : decode cX7_set 29 = .ok (.iconst 0, 1) := by decide +kernel
theorem dX7_set_30 : decode cX7_set 30 = .ok (.iload_n 1, 1) := by decide +kernel
theorem dX7_set_31 : decode cX7_set 31 = .ok (.invokestatic 136, 3) := by decide +kernel
theorem dX7_set_34 : decode cX7_set 34 = .ok (.invokestatic 44, 3) := by decide +kernel
theorem dX7_set_37 : decode cX7_set 37 = .ok (.ifCond .ne 6, 3) := by decide +kernel
theorem dX7_set_40 : decode cX7_set 40 = .ok (.bipush (-2), 2) := by decide +kernel
theorem dX7_set_42 : decode cX7_set 42 = .ok (.ireturn, 1) := by decide +kernel
theorem dX7_set_43 : decode cX7_set 43 = .ok (.aload_n 0, 1) := by decide +kernel
theorem dX7_set_44 : decode cX7_set 44 = .ok (.invokevirtual 59, 3) := by decide +kernel
theorem dX7_set_47 : decode cX7_set 47 = .ok (.aload_n 0, 1) := by decide +kernel
theorem dX7_set_48 : decode cX7_set 48 = .ok (.getfield 7, 3) := by decide +kernel
theorem dX7_set_51 : decode cX7_set 51 = .ok (.iload_n 1, 1) := by decide +kernel
theorem dX7_set_52 : decode cX7_set 52 = .ok (.iaload, 1) := by decide +kernel
theorem dX7_set_53 : decode cX7_set 53 = .ok (.istore_n 3, 1) := by decide +kernel
theorem dX7_set_54 : decode cX7_set 54 = .ok (.aload_n 0, 1) := by decide +kernel
theorem dX7_set_55 : decode cX7_set 55 = .ok (.getfield 7, 3) := by decide +kernel
theorem dX7_set_58 : decode cX7_set 58 = .ok (.iload_n 1, 1) := by decide +kernel
theorem dX7_set_59 : decode cX7_set 59 = .ok (.iload_n 2, 1) := by decide +kernel
theorem dX7_set_60 : decode cX7_set 60 = .ok (.iastore, 1) := by decide +kernel
theorem dX7_set_61 : decode cX7_set 61 = .ok (.iload_n 3, 1) := by decide +kernel
theorem dX7_set_62 : decode cX7_set 62 = .ok (.ireturn, 1) := by decide +kernel
theorem dX7_lampAt_0 : decode cX7_lampAt 0 = .ok (.iconst 0, 1) := by decide +kernel
theorem dX7_lampAt_1 : decode cX7_lampAt 1 = .ok (.istore_n 2, 1) := by decide +kernel
theorem dX7_lampAt_2 : decode cX7_lampAt 2 = .ok (.iload_n 2, 1) := by decide +kernel
theorem dX7_lampAt_3 : decode cX7_lampAt 3 = .ok (.aload_n 0, 1) := by decide +kernel
theorem dX7_lampAt_4 : decode cX7_lampAt 4 = .ok (.getfield 7, 3) := by decide +kernel
theorem dX7_lampAt_7 : decode cX7_lampAt 7 = .ok (.bipush 7, 2) := by decide +kernel
theorem dX7_lampAt_9 : decode cX7_lampAt 9 = .ok (.iaload, 1) := by decide +kernel
theorem dX7_lampAt_10 : decode cX7_lampAt 10 = .ok (.if_icmp .ge 19, 3) := by decide +kernel
theorem dX7_lampAt_13 : decode cX7_lampAt 13 = .ok (.aload_n 0, 1) := by decide +kernel
theorem dX7_lampAt_14 : decode cX7_lampAt 14 = .ok (.iload_n 2, 1) := by decide +kernel
theorem dX7_lampAt_15 : decode cX7_lampAt 15 = .ok (.iconst 0, 1) := by decide +kernel
theorem dX7_lampAt_16 : decode cX7_lampAt 16 = .ok (.invokevirtual 62, 3) := by decide +kernel
theorem dX7_lampAt_19 : decode cX7_lampAt 19 = .ok (.iload_n 1, 1) := by decide +kernel
theorem dX7_lampAt_20 : decode cX7_lampAt 20 = .ok (.if_icmp .eq 9, 3) := by decide +kernel
theorem dX7_lampAt_23 : decode cX7_lampAt 23 = .ok (.iinc 2 1, 3) := by decide +kernel
theorem dX7_lampAt_26 : decode cX7_lampAt 26 = .ok (.goto (-24), 3) := by decide +kernel
theorem dX7_lampAt_29 : decode cX7_lampAt 29 = .ok (.iload_n 2, 1) := by decide +kernel
theorem dX7_lampAt_30 : decode cX7_lampAt 30 = .ok (.aload_n 0, 1) := by decide +kernel
theorem dX7_lampAt_31 : decode cX7_lampAt 31 = .ok (.getfield 7, 3) := by decide +kernel
theorem dX7_lampAt_34 : decode cX7_lampAt 34 = .ok (.bipush 7, 2) := by decide +kernel
theorem dX7_lampAt_36 : decode cX7_lampAt 36 = .ok (.iaload, 1) := by decide +kernel
theorem dX7_lampAt_37 : decode cX7_lampAt 37 = .ok (.if_icmp .ge 7, 3) := by decide +kernel
theorem dX7_lampAt_40 : decode cX7_lampAt 40 = .ok (.iload_n 2, 1) := by decide +kernel
theorem dX7_lampAt_41 : decode cX7_lampAt 41 = .ok (.goto 5, 3) := by decide +kernel
theorem dX7_lampAt_44 : decode cX7_lampAt 44 = .ok (.bipush (-6), 2) := by decide +kernel
theorem dX7_lampAt_46 : decode cX7_lampAt 46 = .ok (.ireturn, 1) := by decide +kernel
theorem dX7_lamp_0 : decode cX7_lamp 0 = .ok (.iload_n 1, 1) := by decide +kernel
theorem dX7_lamp_1 : decode cX7_lamp 1 = .ok (.invokestatic 139, 3) := by decide +kernel
theorem dX7_lamp_4 : decode cX7_lamp 4 = .ok (.ifCond .eq 13, 3) := by decide +kernel
theorem dX7_lamp_7 : decode cX7_lamp 7 = .ok (.iload_n 2, 1) := by decide +kernel
theorem dX7_lamp_8 : decode cX7_lamp 8 = .ok (.iconst 1, 1) := by decide +kernel
theorem dX7_lamp_9 : decode cX7_lamp 9 = .ok (.bipush 30, 2) := by decide +kernel
theorem dX7_lamp_11 : decode cX7_lamp 11 = .ok (.invokestatic 44, 3) := by decide +kernel
theorem dX7_lamp_14 : decode cX7_lamp 14 = .ok (.ifCond .ne 6, 3) := by decide +kernel
theorem dX7_lamp_17 : decode cX7_lamp 17 = .ok (.bipush (-2), 2) := by decide +kernel
theorem dX7_lamp_19 : decode cX7_lamp 19 = .ok (.ireturn, 1) := by decide +kernel
theorem dX7_lamp_20 : decode cX7_lamp 20 = .ok (.aload_n 0, 1) := by decide +kernel
theorem dX7_lamp_21 : decode cX7_lamp 21 = .ok (.getfield 7, 3) := by decide +kernel
theorem dX7_lamp_24 : decode cX7_lamp 24 = .ok (.bipush 7, 2) := by decide +kernel
theorem dX7_lamp_26 : decode cX7_lamp 26 = .ok (.iaload, 1) := by decide +kernel
theorem dX7_lamp_27 : decode cX7_lamp 27 = .ok (.bipush 16, 2) := by decide +kernel
theorem dX7_lamp_29 : decode cX7_lamp 29 = .ok (.if_icmp .ne 6, 3) := by decide +kernel
theorem dX7_lamp_32 : decode cX7_lamp 32 = .ok (.bipush (-4), 2) := by decide +kernel
theorem dX7_lamp_34 : decode cX7_lamp 34 = .ok (.ireturn, 1) := by decide +kernel
theorem dX7_lamp_35 : decode cX7_lamp 35 = .ok (.aload_n 0, 1) := by decide +kernel
theorem dX7_lamp_36 : decode cX7_lamp 36 = .ok (.iload_n 1, 1) := by decide +kernel
theorem dX7_lamp_37 : decode cX7_lamp 37 = .ok (.invokevirtual 142, 3) := by decide +kernel
theorem dX7_lamp_40 : decode cX7_lamp 40 = .ok (.ifCond .lt 6, 3) := by decide +kernel
theorem dX7_lamp_43 : decode cX7_lamp 43 = .ok (.bipush (-5), 2) := by decide +kernel
theorem dX7_lamp_45 : decode cX7_lamp 45 = .ok (.ireturn, 1) := by decide +kernel
theorem dX7_lamp_46 : decode cX7_lamp 46 = .ok (.aload_n 0, 1) := by decide +kernel
theorem dX7_lamp_47 : decode cX7_lamp 47 = .ok (.invokevirtual 59, 3) := by decide +kernel
theorem dX7_lamp_50 : decode cX7_lamp 50 = .ok (.aload_n 0, 1) := by decide +kernel
theorem dX7_lamp_51 : decode cX7_lamp 51 = .ok (.aload_n 0, 1) := by decide +kernel
theorem dX7_lamp_52 : decode cX7_lamp 52 = .ok (.getfield 7, 3) := by decide +kernel
theorem dX7_lamp_55 : decode cX7_lamp 55 = .ok (.bipush 7, 2) := by decide +kernel
theorem dX7_lamp_57 : decode cX7_lamp 57 = .ok (.iaload, 1) := by decide +kernel
theorem dX7_lamp_58 : decode cX7_lamp 58 = .ok (.iconst 0, 1) := by decide +kernel
theorem dX7_lamp_59 : decode cX7_lamp 59 = .ok (.iload_n 1, 1) := by decide +kernel
theorem dX7_lamp_60 : decode cX7_lamp 60 = .ok (.invokevirtual 75, 3) := by decide +kernel
theorem dX7_lamp_63 : decode cX7_lamp 63 = .ok (.aload_n 0, 1) := by decide +kernel
theorem dX7_lamp_64 : decode cX7_lamp 64 = .ok (.aload_n 0, 1) := by decide +kernel
theorem dX7_lamp_65 : decode cX7_lamp 65 = .ok (.getfield 7, 3) := by decide +kernel
theorem dX7_lamp_68 : decode cX7_lamp 68 = .ok (.bipush 7, 2) := by decide +kernel
theorem dX7_lamp_70 : decode cX7_lamp 70 = .ok (.iaload, 1) := by decide +kernel
theorem dX7_lamp_71 : decode cX7_lamp 71 = .ok (.iconst 1, 1) := by decide +kernel
theorem dX7_lamp_72 : decode cX7_lamp 72 = .ok (.iload_n 2, 1) := by decide +kernel
theorem dX7_lamp_73 : decode cX7_lamp 73 = .ok (.invokevirtual 75, 3) := by decide +kernel
theorem dX7_lamp_76 : decode cX7_lamp 76 = .ok (.aload_n 0, 1) := by decide +kernel
theorem dX7_lamp_77 : decode cX7_lamp 77 = .ok (.getfield 7, 3) := by decide +kernel
theorem dX7_lamp_80 : decode cX7_lamp 80 = .ok (.bipush 7, 2) := by decide +kernel
theorem dX7_lamp_82 : decode cX7_lamp 82 = .ok (.dup2, 1) := by decide +kernel
theorem dX7_lamp_83 : decode cX7_lamp 83 = .ok (.iaload, 1) := by decide +kernel
theorem dX7_lamp_84 : decode cX7_lamp 84 = .ok (.iconst 1, 1) := by decide +kernel
theorem dX7_lamp_85 : decode cX7_lamp 85 = .ok (.iadd, 1) := by decide +kernel
theorem dX7_lamp_86 : decode cX7_lamp 86 = .ok (.iastore, 1) := by decide +kernel
theorem dX7_lamp_87 : decode cX7_lamp 87 = .ok (.aload_n 0, 1) := by decide +kernel
theorem dX7_lamp_88 : decode cX7_lamp 88 = .ok (.getfield 7, 3) := by decide +kernel
theorem dX7_lamp_91 : decode cX7_lamp 91 = .ok (.bipush 7, 2) := by decide +kernel
theorem dX7_lamp_93 : decode cX7_lamp 93 = .ok (.iaload, 1) := by decide +kernel
theorem dX7_lamp_94 : decode cX7_lamp 94 = .ok (.iconst 1, 1) := by decide +kernel
theorem dX7_lamp_95 : decode cX7_lamp 95 = .ok (.isub, 1) := by decide +kernel
theorem dX7_lamp_96 : decode cX7_lamp 96 = .ok (.ireturn, 1) := by decide +kernel
theorem dX7_house_0 : decode cX7_house 0 = .ok (.iload_n 1, 1) := by decide +kernel
theorem dX7_house_1 : decode cX7_house 1 = .ok (.invokestatic 139, 3) := by decide +kernel
theorem dX7_house_4 : decode cX7_house 4 = .ok (.ifCond .ne 6, 3) := by decide +kernel
theorem dX7_house_7 : decode cX7_house 7 = .ok (.bipush (-2), 2) := by decide +kernel
theorem dX7_house_9 : decode cX7_house 9 = .ok (.ireturn, 1) := by decide +kernel
theorem dX7_house_10 : decode cX7_house 10 = .ok (.aload_n 0, 1) := by decide +kernel
theorem dX7_house_11 : decode cX7_house 11 = .ok (.getfield 7, 3) := by decide +kernel
theorem dX7_house_14 : decode cX7_house 14 = .ok (.bipush 8, 2) := by decide +kernel
theorem dX7_house_16 : decode cX7_house 16 = .ok (.iaload, 1) := by decide +kernel
theorem dX7_house_17 : decode cX7_house 17 = .ok (.bipush 8, 2) := by decide +kernel
theorem dX7_house_19 : decode cX7_house 19 = .ok (.if_icmp .ne 6, 3) := by decide +kernel
theorem dX7_house_22 : decode cX7_house 22 = .ok (.bipush (-4), 2) := by decide +kernel
theorem dX7_house_24 : decode cX7_house 24 = .ok (.ireturn, 1) := by decide +kernel
theorem dX7_house_25 : decode cX7_house 25 = .ok (.aload_n 0, 1) := by decide +kernel
theorem dX7_house_26 : decode cX7_house 26 = .ok (.invokevirtual 59, 3) := by decide +kernel
theorem dX7_house_29 : decode cX7_house 29 = .ok (.aload_n 0, 1) := by decide +kernel
theorem dX7_house_30 : decode cX7_house 30 = .ok (.getfield 7, 3) := by decide +kernel
theorem dX7_house_33 : decode cX7_house 33 = .ok (.sipush 218, 3) := by decide +kernel
theorem dX7_house_36 : decode cX7_house 36 = .ok (.iconst 3, 1) := by decide +kernel
theorem dX7_house_37 : decode cX7_house 37 = .ok (.aload_n 0, 1) := by decide +kernel
theorem dX7_house_38 : decode cX7_house 38 = .ok (.getfield 7, 3) := by decide +kernel
theorem dX7_house_41 : decode cX7_house 41 = .ok (.bipush 8, 2) := by decide +kernel
theorem dX7_house_43 : decode cX7_house 43 = .ok (.iaload, 1) := by decide +kernel
theorem dX7_house_44 : decode cX7_house 44 = .ok (.imul, 1) := by decide +kernel
theorem dX7_house_45 : decode cX7_house 45 = .ok (.iadd, 1) := by decide +kernel
theorem dX7_house_46 : decode cX7_house 46 = .ok (.iload_n 1, 1) := by decide +kernel
theorem dX7_house_47 : decode cX7_house 47 = .ok (.iastore, 1) := by decide +kernel
theorem dX7_house_48 : decode cX7_house 48 = .ok (.aload_n 0, 1) := by decide +kernel
theorem dX7_house_49 : decode cX7_house 49 = .ok (.getfield 7, 3) := by decide +kernel
theorem dX7_house_52 : decode cX7_house 52 = .ok (.bipush 8, 2) := by decide +kernel
theorem dX7_house_54 : decode cX7_house 54 = .ok (.dup2, 1) := by decide +kernel
theorem dX7_house_55 : decode cX7_house 55 = .ok (.iaload, 1) := by decide +kernel
theorem dX7_house_56 : decode cX7_house 56 = .ok (.iconst 1, 1) := by decide +kernel
theorem dX7_house_57 : decode cX7_house 57 = .ok (.iadd, 1) := by decide +kernel
theorem dX7_house_58 : decode cX7_house 58 = .ok (.iastore, 1) := by decide +kernel
theorem dX7_house_59 : decode cX7_house 59 = .ok (.aload_n 0, 1) := by decide +kernel
theorem dX7_house_60 : decode cX7_house 60 = .ok (.getfield 7, 3) := by decide +kernel
theorem dX7_house_63 : decode cX7_house 63 = .ok (.bipush 8, 2) := by decide +kernel
theorem dX7_house_65 : decode cX7_house 65 = .ok (.iaload, 1) := by decide +kernel
theorem dX7_house_66 : decode cX7_house 66 = .ok (.iconst 1, 1) := by decide +kernel
theorem dX7_house_67 : decode cX7_house 67 = .ok (.isub, 1) := by decide +kernel
theorem dX7_house_68 : decode cX7_house 68 = .ok (.ireturn, 1) := by decide +kernel
theorem dX7_tryWalker_0 : decode cX7_tryWalker 0 = .ok (.iload_n 1, 1) := by decide +kernel
theorem dX7_tryWalker_1 : decode cX7_tryWalker 1 = .ok (.invokestatic 139, 3) := by decide +kernel
theorem dX7_tryWalker_4 : decode cX7_tryWalker 4 = .ok (.ifCond .eq 12, 3) := by decide +kernel
theorem dX7_tryWalker_7 : decode cX7_tryWalker 7 = .ok (.iload_n 2, 1) := by decide +kernel
theorem dX7_tryWalker_8 : decode cX7_tryWalker 8 = .ok (.iconst 1, 1) := by decide +kernel
theorem dX7_tryWalker_9 : decode cX7_tryWalker 9 = .ok (.iconst 4, 1) := by decide +kernel
theorem dX7_tryWalker_10 : decode cX7_tryWalker 10 = .ok (.invokestatic 44, 3) := by decide +kernel
theorem dX7_tryWalker_13 : decode cX7_tryWalker 13 = .ok (.ifCond .ne 6, 3) := by decide +kernel
theorem dX7_tryWalker_16 : decode cX7_tryWalker 16 = .ok (.bipush (-2), 2) := by decide +kernel
theorem dX7_tryWalker_18 : decode cX7_tryWalker 18 = .ok (.ireturn, 1) := by decide +kernel
theorem dX7_tryWalker_19 : decode cX7_tryWalker 19 = .ok (.aload_n 0, 1) := by decide +kernel
theorem dX7_tryWalker_20 : decode cX7_tryWalker 20 = .ok (.getfield 7, 3) := by decide +kernel
theorem dX7_tryWalker_23 : decode cX7_tryWalker 23 = .ok (.bipush 9, 2) := by decide +kernel
theorem dX7_tryWalker_25 : decode cX7_tryWalker 25 = .ok (.iaload, 1) := by decide +kernel
theorem dX7_tryWalker_26 : decode cX7_tryWalker 26 = .ok (.bipush 8, 2) := by decide +kernel
theorem dX7_tryWalker_28 : decode cX7_tryWalker 28 = .ok (.if_icmp .ne 6, 3) := by decide +kernel
theorem dX7_tryWalker_31 : decode cX7_tryWalker 31 = .ok (.bipush (-4), 2) := by decide +kernel
theorem dX7_tryWalker_33 : decode cX7_tryWalker 33 = .ok (.ireturn, 1) := by decide +kernel
theorem dX7_tryWalker_34 : decode cX7_tryWalker 34 = .ok (.aload_n 0, 1) := by decide +kernel
theorem dX7_tryWalker_35 : decode cX7_tryWalker 35 = .ok (.iload_n 3, 1) := by decide +kernel
theorem dX7_tryWalker_36 : decode cX7_tryWalker 36 = .ok (.invokevirtual 145, 3) := by decide +kernel
theorem dX7_tryWalker_39 : decode cX7_tryWalker 39 = .ok (.aload_n 0, 1) := by decide +kernel
theorem dX7_tryWalker_40 : decode cX7_tryWalker 40 = .ok (.aload_n 0, 1) := by decide +kernel
theorem dX7_tryWalker_41 : decode cX7_tryWalker 41 = .ok (.getfield 7, 3) := by decide +kernel
theorem dX7_tryWalker_44 : decode cX7_tryWalker 44 = .ok (.bipush 9, 2) := by decide +kernel
theorem dX7_tryWalker_46 : decode cX7_tryWalker 46 = .ok (.iaload, 1) := by decide +kernel
theorem dX7_tryWalker_47 : decode cX7_tryWalker 47 = .ok (.iconst 0, 1) := by decide +kernel
theorem dX7_tryWalker_48 : decode cX7_tryWalker 48 = .ok (.iload_n 1, 1) := by decide +kernel
theorem dX7_tryWalker_49 : decode cX7_tryWalker 49 = .ok (.invokevirtual 89, 3) := by decide +kernel
theorem dX7_tryWalker_52 : decode cX7_tryWalker 52 = .ok (.aload_n 0, 1) := by decide +kernel
theorem dX7_tryWalker_53 : decode cX7_tryWalker 53 = .ok (.aload_n 0, 1) := by decide +kernel
theorem dX7_tryWalker_54 : decode cX7_tryWalker 54 = .ok (.getfield 7, 3) := by decide +kernel
theorem dX7_tryWalker_57 : decode cX7_tryWalker 57 = .ok (.bipush 9, 2) := by decide +kernel
theorem dX7_tryWalker_59 : decode cX7_tryWalker 59 = .ok (.iaload, 1) := by decide +kernel
theorem dX7_tryWalker_60 : decode cX7_tryWalker 60 = .ok (.iconst 1, 1) := by decide +kernel
theorem dX7_tryWalker_61 : decode cX7_tryWalker 61 = .ok (.iload_n 2, 1) := by decide +kernel
theorem dX7_tryWalker_62 : decode cX7_tryWalker 62 = .ok (.invokevirtual 89, 3) := by decide +kernel
theorem dX7_tryWalker_65 : decode cX7_tryWalker 65 = .ok (.aload_n 0, 1) := by decide +kernel
theorem dX7_tryWalker_66 : decode cX7_tryWalker 66 = .ok (.aload_n 0, 1) := by decide +kernel
theorem dX7_tryWalker_67 : decode cX7_tryWalker 67 = .ok (.getfield 7, 3) := by decide +kernel
theorem dX7_tryWalker_70 : decode cX7_tryWalker 70 = .ok (.bipush 9, 2) := by decide +kernel
theorem dX7_tryWalker_72 : decode cX7_tryWalker 72 = .ok (.iaload, 1) := by decide +kernel
theorem dX7_tryWalker_73 : decode cX7_tryWalker 73 = .ok (.iconst 4, 1) := by decide +kernel
theorem dX7_tryWalker_74 : decode cX7_tryWalker 74 = .ok (.bipush (-6), 2) := by decide +kernel
theorem dX7_tryWalker_76 : decode cX7_tryWalker 76 = .ok (.invokevirtual 89, 3) := by decide +kernel
theorem dX7_tryWalker_79 : decode cX7_tryWalker 79 = .ok (.aload_n 0, 1) := by decide +kernel
theorem dX7_tryWalker_80 : decode cX7_tryWalker 80 = .ok (.getfield 7, 3) := by decide +kernel
theorem dX7_tryWalker_83 : decode cX7_tryWalker 83 = .ok (.bipush 9, 2) := by decide +kernel
theorem dX7_tryWalker_85 : decode cX7_tryWalker 85 = .ok (.dup2, 1) := by decide +kernel
theorem dX7_tryWalker_86 : decode cX7_tryWalker 86 = .ok (.iaload, 1) := by decide +kernel
theorem dX7_tryWalker_87 : decode cX7_tryWalker 87 = .ok (.iconst 1, 1) := by decide +kernel
theorem dX7_tryWalker_88 : decode cX7_tryWalker 88 = .ok (.iadd, 1) := by decide +kernel
theorem dX7_tryWalker_89 : decode cX7_tryWalker 89 = .ok (.iastore, 1) := by decide +kernel
theorem dX7_tryWalker_90 : decode cX7_tryWalker 90 = .ok (.aload_n 0, 1) := by decide +kernel
theorem dX7_tryWalker_91 : decode cX7_tryWalker 91 = .ok (.getfield 7, 3) := by decide +kernel
theorem dX7_tryWalker_94 : decode cX7_tryWalker 94 = .ok (.bipush 9, 2) := by decide +kernel
theorem dX7_tryWalker_96 : decode cX7_tryWalker 96 = .ok (.iaload, 1) := by decide +kernel
theorem dX7_tryWalker_97 : decode cX7_tryWalker 97 = .ok (.iconst 1, 1) := by decide +kernel
theorem dX7_tryWalker_98 : decode cX7_tryWalker 98 = .ok (.isub, 1) := by decide +kernel
theorem dX7_tryWalker_99 : decode cX7_tryWalker 99 = .ok (.ireturn, 1) := by decide +kernel
theorem dX7_walker_0 : decode cX7_walker 0 = .ok (.aload_n 0, 1) := by decide +kernel
theorem dX7_walker_1 : decode cX7_walker 1 = .ok (.iload_n 1, 1) := by decide +kernel
theorem dX7_walker_2 : decode cX7_walker 2 = .ok (.iload_n 2, 1) := by decide +kernel
theorem dX7_walker_3 : decode cX7_walker 3 = .ok (.iconst 1, 1) := by decide +kernel
theorem dX7_walker_4 : decode cX7_walker 4 = .ok (.invokevirtual 149, 3) := by decide +kernel
theorem dX7_walker_7 : decode cX7_walker 7 = .ok (.ireturn, 1) := by decide +kernel
theorem dX7_tryGoal_0 : decode cX7_tryGoal 0 = .ok (.aload_n 0, 1) := by decide +kernel
theorem dX7_tryGoal_1 : decode cX7_tryGoal 1 = .ok (.iload_n 1, 1) := by decide +kernel
theorem dX7_tryGoal_2 : decode cX7_tryGoal 2 = .ok (.invokevirtual 153, 3) := by decide +kernel
theorem dX7_tryGoal_5 : decode cX7_tryGoal 5 = .ok (.ifCond .ne 5, 3) := by decide +kernel
theorem dX7_tryGoal_8 : decode cX7_tryGoal 8 = .ok (.iconst (-1), 1) := by decide +kernel
theorem dX7_tryGoal_9 : decode cX7_tryGoal 9 = .ok (.ireturn, 1) := by decide +kernel
theorem dX7_tryGoal_10 : decode cX7_tryGoal 10 = .ok (.iload_n 2, 1) := by decide +kernel
theorem dX7_tryGoal_11 : decode cX7_tryGoal 11 = .ok (.invokestatic 139, 3) := by decide +kernel
theorem dX7_tryGoal_14 : decode cX7_tryGoal 14 = .ok (.ifCond .eq 13, 3) := by decide +kernel
theorem dX7_tryGoal_17 : decode cX7_tryGoal 17 = .ok (.iload_n 3, 1) := by decide +kernel
theorem dX7_tryGoal_18 : decode cX7_tryGoal 18 = .ok (.iconst 0, 1) := by decide +kernel
theorem dX7_tryGoal_19 : decode cX7_tryGoal 19 = .ok (.bipush 20, 2) := by decide +kernel
theorem dX7_tryGoal_21 : decode cX7_tryGoal 21 = .ok (.invokestatic 44, 3) := by decide +kernel
theorem dX7_tryGoal_24 : decode cX7_tryGoal 24 = .ok (.ifCond .ne 6, 3) := by decide +kernel
theorem dX7_tryGoal_27 : decode cX7_tryGoal 27 = .ok (.bipush (-2), 2) := by decide +kernel
theorem dX7_tryGoal_29 : decode cX7_tryGoal 29 = .ok (.ireturn, 1) := by decide +kernel
theorem dX7_tryGoal_30 : decode cX7_tryGoal 30 = .ok (.aload_n 0, 1) := by decide +kernel
theorem dX7_tryGoal_31 : decode cX7_tryGoal 31 = .ok (.iload_n 1, 1) := by decide +kernel
theorem dX7_tryGoal_32 : decode cX7_tryGoal 32 = .ok (.iconst 3, 1) := by decide +kernel
theorem dX7_tryGoal_33 : decode cX7_tryGoal 33 = .ok (.invokevirtual 48, 3) := by decide +kernel
theorem dX7_tryGoal_36 : decode cX7_tryGoal 36 = .ok (.bipush 6, 2) := by decide +kernel
theorem dX7_tryGoal_38 : decode cX7_tryGoal 38 = .ok (.if_icmp .ne 6, 3) := by decide +kernel
theorem dX7_tryGoal_41 : decode cX7_tryGoal 41 = .ok (.bipush (-4), 2) := by decide +kernel
theorem dX7_tryGoal_43 : decode cX7_tryGoal 43 = .ok (.ireturn, 1) := by decide +kernel
theorem dX7_tryGoal_44 : decode cX7_tryGoal 44 = .ok (.aload_n 0, 1) := by decide +kernel
theorem dX7_tryGoal_45 : decode cX7_tryGoal 45 = .ok (.iload_n 1, 1) := by decide +kernel
theorem dX7_tryGoal_46 : decode cX7_tryGoal 46 = .ok (.invokevirtual 95, 3) := by decide +kernel
theorem dX7_tryGoal_49 : decode cX7_tryGoal 49 = .ok (.ifCond .ne 6, 3) := by decide +kernel
theorem dX7_tryGoal_52 : decode cX7_tryGoal 52 = .ok (.bipush (-5), 2) := by decide +kernel
theorem dX7_tryGoal_54 : decode cX7_tryGoal 54 = .ok (.ireturn, 1) := by decide +kernel
theorem dX7_tryGoal_55 : decode cX7_tryGoal 55 = .ok (.aload_n 0, 1) := by decide +kernel
theorem dX7_tryGoal_56 : decode cX7_tryGoal 56 = .ok (.iload 4, 2) := by decide +kernel
theorem dX7_tryGoal_58 : decode cX7_tryGoal 58 = .ok (.invokevirtual 145, 3) := by decide +kernel
theorem dX7_tryGoal_61 : decode cX7_tryGoal 61 = .ok (.aload_n 0, 1) := by decide +kernel
theorem dX7_tryGoal_62 : decode cX7_tryGoal 62 = .ok (.iload_n 1, 1) := by decide +kernel
theorem dX7_tryGoal_63 : decode cX7_tryGoal 63 = .ok (.bipush 8, 2) := by decide +kernel
theorem dX7_tryGoal_65 : decode cX7_tryGoal 65 = .ok (.iconst 2, 1) := by decide +kernel
theorem dX7_tryGoal_66 : decode cX7_tryGoal 66 = .ok (.aload_n 0, 1) := by decide +kernel
theorem dX7_tryGoal_67 : decode cX7_tryGoal 67 = .ok (.iload_n 1, 1) := by decide +kernel
theorem dX7_tryGoal_68 : decode cX7_tryGoal 68 = .ok (.iconst 3, 1) := by decide +kernel
theorem dX7_tryGoal_69 : decode cX7_tryGoal 69 = .ok (.invokevirtual 48, 3) := by decide +kernel
theorem dX7_tryGoal_72 : decode cX7_tryGoal 72 = .ok (.imul, 1) := by decide +kernel
theorem dX7_tryGoal_73 : decode cX7_tryGoal 73 = .ok (.iadd, 1) := by decide +kernel
theorem dX7_tryGoal_74 : decode cX7_tryGoal 74 = .ok (.iload_n 2, 1) := by decide +kernel
theorem dX7_tryGoal_75 : decode cX7_tryGoal 75 = .ok (.invokevirtual 89, 3) := by decide +kernel
theorem dX7_tryGoal_78 : decode cX7_tryGoal 78 = .ok (.aload_n 0, 1) := by decide +kernel
theorem dX7_tryGoal_79 : decode cX7_tryGoal 79 = .ok (.iload_n 1, 1) := by decide +kernel
theorem dX7_tryGoal_80 : decode cX7_tryGoal 80 = .ok (.bipush 8, 2) := by decide +kernel
theorem dX7_tryGoal_82 : decode cX7_tryGoal 82 = .ok (.iconst 2, 1) := by decide +kernel
theorem dX7_tryGoal_83 : decode cX7_tryGoal 83 = .ok (.aload_n 0, 1) := by decide +kernel
theorem dX7_tryGoal_84 : decode cX7_tryGoal 84 = .ok (.iload_n 1, 1) := by decide +kernel
theorem dX7_tryGoal_85 : decode cX7_tryGoal 85 = .ok (.iconst 3, 1) := by decide +kernel
theorem dX7_tryGoal_86 : decode cX7_tryGoal 86 = .ok (.invokevirtual 48, 3) := by decide +kernel
theorem dX7_tryGoal_89 : decode cX7_tryGoal 89 = .ok (.imul, 1) := by decide +kernel
theorem dX7_tryGoal_90 : decode cX7_tryGoal 90 = .ok (.iadd, 1) := by decide +kernel
theorem dX7_tryGoal_91 : decode cX7_tryGoal 91 = .ok (.iconst 1, 1) := by decide +kernel
theorem dX7_tryGoal_92 : decode cX7_tryGoal 92 = .ok (.iadd, 1) := by decide +kernel
theorem dX7_tryGoal_93 : decode cX7_tryGoal 93 = .ok (.iload_n 3, 1) := by decide +kernel
theorem dX7_tryGoal_94 : decode cX7_tryGoal 94 = .ok (.invokevirtual 89, 3) := by decide +kernel
theorem dX7_tryGoal_97 : decode cX7_tryGoal 97 = .ok (.aload_n 0, 1) := by decide +kernel
theorem dX7_tryGoal_98 : decode cX7_tryGoal 98 = .ok (.iload_n 1, 1) := by decide +kernel
theorem dX7_tryGoal_99 : decode cX7_tryGoal 99 = .ok (.iconst 3, 1) := by decide +kernel
theorem dX7_tryGoal_100 : decode cX7_tryGoal 100 = .ok (.aload_n 0, 1) := by decide +kernel
theorem dX7_tryGoal_101 : decode cX7_tryGoal 101 = .ok (.iload_n 1, 1) := by decide +kernel
theorem dX7_tryGoal_102 : decode cX7_tryGoal 102 = .ok (.iconst 3, 1) := by decide +kernel
theorem dX7_tryGoal_103 : decode cX7_tryGoal 103 = .ok (.invokevirtual 48, 3) := by decide +kernel
theorem dX7_tryGoal_106 : decode cX7_tryGoal 106 = .ok (.iconst 1, 1) := by decide +kernel
theorem dX7_tryGoal_107 : decode cX7_tryGoal 107 = .ok (.iadd, 1) := by decide +kernel
theorem dX7_tryGoal_108 : decode cX7_tryGoal 108 = .ok (.invokevirtual 89, 3) := by decide +kernel
theorem dX7_tryGoal_111 : decode cX7_tryGoal 111 = .ok (.aload_n 0, 1) := by decide +kernel
theorem dX7_tryGoal_112 : decode cX7_tryGoal 112 = .ok (.iload_n 1, 1) := by decide +kernel
theorem dX7_tryGoal_113 : decode cX7_tryGoal 113 = .ok (.iconst 3, 1) := by decide +kernel
theorem dX7_tryGoal_114 : decode cX7_tryGoal 114 = .ok (.invokevirtual 48, 3) := by decide +kernel
theorem dX7_tryGoal_117 : decode cX7_tryGoal 117 = .ok (.ireturn, 1) := by decide +kernel
theorem dX7_goal_0 : decode cX7_goal 0 = .ok (.aload_n 0, 1) := by decide +kernel
theorem dX7_goal_1 : decode cX7_goal 1 = .ok (.iload_n 1, 1) := by decide +kernel
theorem dX7_goal_2 : decode cX7_goal 2 = .ok (.iload_n 2, 1) := by decide +kernel
theorem dX7_goal_3 : decode cX7_goal 3 = .ok (.iload_n 3, 1) := by decide +kernel
theorem dX7_goal_4 : decode cX7_goal 4 = .ok (.iconst 1, 1) := by decide +kernel
theorem dX7_goal_5 : decode cX7_goal 5 = .ok (.invokevirtual 156, 3) := by decide +kernel
theorem dX7_goal_8 : decode cX7_goal 8 = .ok (.ireturn, 1) := by decide +kernel
theorem dX7_mendTo_0 : decode cX7_mendTo 0 = .ok (.aload_n 0, 1) := by decide +kernel
theorem dX7_mendTo_1 : decode cX7_mendTo 1 = .ok (.iload_n 1, 1) := by decide +kernel
theorem dX7_mendTo_2 : decode cX7_mendTo 2 = .ok (.iconst 3, 1) := by decide +kernel
theorem dX7_mendTo_3 : decode cX7_mendTo 3 = .ok (.iload_n 2, 1) := by decide +kernel
theorem dX7_mendTo_4 : decode cX7_mendTo 4 = .ok (.invokevirtual 75, 3) := by decide +kernel
theorem dX7_mendTo_7 : decode cX7_mendTo 7 = .ok (.iload_n 2, 1) := by decide +kernel
theorem dX7_mendTo_8 : decode cX7_mendTo 8 = .ok (.iconst 2, 1) := by decide +kernel
theorem dX7_mendTo_9 : decode cX7_mendTo 9 = .ok (.if_icmp .ne 22, 3) := by decide +kernel
theorem dX7_mendTo_12 : decode cX7_mendTo 12 = .ok (.aload_n 0, 1) := by decide +kernel
theorem dX7_mendTo_13 : decode cX7_mendTo 13 = .ok (.iload_n 1, 1) := by decide +kernel
theorem dX7_mendTo_14 : decode cX7_mendTo 14 = .ok (.iconst 2, 1) := by decide +kernel
theorem dX7_mendTo_15 : decode cX7_mendTo 15 = .ok (.iconst 0, 1) := by decide +kernel
theorem dX7_mendTo_16 : decode cX7_mendTo 16 = .ok (.invokevirtual 75, 3) := by decide +kernel
theorem dX7_mendTo_19 : decode cX7_mendTo 19 = .ok (.aload_n 0, 1) := by decide +kernel
theorem dX7_mendTo_20 : decode cX7_mendTo 20 = .ok (.iload_n 1, 1) := by decide +kernel
theorem dX7_mendTo_21 : decode cX7_mendTo 21 = .ok (.iconst 4, 1) := by decide +kernel
theorem dX7_mendTo_22 : decode cX7_mendTo 22 = .ok (.iconst 0, 1) := by decide +kernel
theorem dX7_mendTo_23 : decode cX7_mendTo 23 = .ok (.invokevirtual 75, 3) := by decide +kernel
theorem dX7_mendTo_26 : decode cX7_mendTo 26 = .ok (.aload_n 0, 1) := by decide +kernel
theorem dX7_mendTo_27 : decode cX7_mendTo 27 = .ok (.iload_n 1, 1) := by decide +kernel
theorem dX7_mendTo_28 : decode cX7_mendTo 28 = .ok (.invokevirtual 102, 3) := by decide +kernel
theorem dX7_mendTo_31 : decode cX7_mendTo 31 = .ok (.return_, 1) := by decide +kernel
theorem dX7_tryMend_0 : decode cX7_tryMend 0 = .ok (.aload_n 0, 1) := by decide +kernel
theorem dX7_tryMend_1 : decode cX7_tryMend 1 = .ok (.iload_n 1, 1) := by decide +kernel
theorem dX7_tryMend_2 : decode cX7_tryMend 2 = .ok (.invokevirtual 160, 3) := by decide +kernel
theorem dX7_tryMend_5 : decode cX7_tryMend 5 = .ok (.ifCond .ne 5, 3) := by decide +kernel
theorem dX7_tryMend_8 : decode cX7_tryMend 8 = .ok (.iconst (-1), 1) := by decide +kernel
theorem dX7_tryMend_9 : decode cX7_tryMend 9 = .ok (.ireturn, 1) := by decide +kernel
theorem dX7_tryMend_10 : decode cX7_tryMend 10 = .ok (.iload_n 2, 1) := by decide +kernel
theorem dX7_tryMend_11 : decode cX7_tryMend 11 = .ok (.iconst 0, 1) := by decide +kernel
theorem dX7_tryMend_12 : decode cX7_tryMend 12 = .ok (.iconst 2, 1) := by decide +kernel
theorem dX7_tryMend_13 : decode cX7_tryMend 13 = .ok (.invokestatic 44, 3) := by decide +kernel
theorem dX7_tryMend_16 : decode cX7_tryMend 16 = .ok (.ifCond .ne 6, 3) := by decide +kernel
theorem dX7_tryMend_19 : decode cX7_tryMend 19 = .ok (.bipush (-2), 2) := by decide +kernel
theorem dX7_tryMend_21 : decode cX7_tryMend 21 = .ok (.ireturn, 1) := by decide +kernel
theorem dX7_tryMend_22 : decode cX7_tryMend 22 = .ok (.aload_n 0, 1) := by decide +kernel
theorem dX7_tryMend_23 : decode cX7_tryMend 23 = .ok (.iload_n 3, 1) := by decide +kernel
theorem dX7_tryMend_24 : decode cX7_tryMend 24 = .ok (.invokevirtual 145, 3) := by decide +kernel
theorem dX7_tryMend_27 : decode cX7_tryMend 27 = .ok (.aload_n 0, 1) := by decide +kernel
theorem dX7_tryMend_28 : decode cX7_tryMend 28 = .ok (.iload_n 1, 1) := by decide +kernel
theorem dX7_tryMend_29 : decode cX7_tryMend 29 = .ok (.iconst 3, 1) := by decide +kernel
theorem dX7_tryMend_30 : decode cX7_tryMend 30 = .ok (.invokevirtual 62, 3) := by decide +kernel
theorem dX7_tryMend_33 : decode cX7_tryMend 33 = .ok (.istore 4, 2) := by decide +kernel
theorem dX7_tryMend_35 : decode cX7_tryMend 35 = .ok (.aload_n 0, 1) := by decide +kernel
theorem dX7_tryMend_36 : decode cX7_tryMend 36 = .ok (.iload_n 1, 1) := by decide +kernel
theorem dX7_tryMend_37 : decode cX7_tryMend 37 = .ok (.iload_n 2, 1) := by decide +kernel
theorem dX7_tryMend_38 : decode cX7_tryMend 38 = .ok (.invokevirtual 163, 3) := by decide +kernel
theorem dX7_tryMend_41 : decode cX7_tryMend 41 = .ok (.iload 4, 2) := by decide +kernel
theorem dX7_tryMend_43 : decode cX7_tryMend 43 = .ok (.ireturn, 1) := by decide +kernel
theorem dX7_mend_0 : decode cX7_mend 0 = .ok (.aload_n 0, 1) := by decide +kernel
theorem dX7_mend_1 : decode cX7_mend 1 = .ok (.iload_n 1, 1) := by decide +kernel
theorem dX7_mend_2 : decode cX7_mend 2 = .ok (.iload_n 2, 1) := by decide +kernel
theorem dX7_mend_3 : decode cX7_mend 3 = .ok (.iconst 1, 1) := by decide +kernel
theorem dX7_mend_4 : decode cX7_mend 4 = .ok (.invokevirtual 167, 3) := by decide +kernel
theorem dX7_mend_7 : decode cX7_mend 7 = .ok (.ireturn, 1) := by decide +kernel
theorem dX7_tryCough_0 : decode cX7_tryCough 0 = .ok (.aload_n 0, 1) := by decide +kernel
theorem dX7_tryCough_1 : decode cX7_tryCough 1 = .ok (.iload_n 1, 1) := by decide +kernel
theorem dX7_tryCough_2 : decode cX7_tryCough 2 = .ok (.invokevirtual 160, 3) := by decide +kernel
theorem dX7_tryCough_5 : decode cX7_tryCough 5 = .ok (.ifCond .ne 5, 3) := by decide +kernel
theorem dX7_tryCough_8 : decode cX7_tryCough 8 = .ok (.iconst (-1), 1) := by decide +kernel
theorem dX7_tryCough_9 : decode cX7_tryCough 9 = .ok (.ireturn, 1) := by decide +kernel
theorem dX7_tryCough_10 : decode cX7_tryCough 10 = .ok (.aload_n 0, 1) := by decide +kernel
theorem dX7_tryCough_11 : decode cX7_tryCough 11 = .ok (.iload_n 1, 1) := by decide +kernel
theorem dX7_tryCough_12 : decode cX7_tryCough 12 = .ok (.iconst 3, 1) := by decide +kernel
theorem dX7_tryCough_13 : decode cX7_tryCough 13 = .ok (.invokevirtual 62, 3) := by decide +kernel
theorem dX7_tryCough_16 : decode cX7_tryCough 16 = .ok (.iconst 2, 1) := by decide +kernel
theorem dX7_tryCough_17 : decode cX7_tryCough 17 = .ok (.if_icmp .ne 6, 3) := by decide +kernel
theorem dX7_tryCough_20 : decode cX7_tryCough 20 = .ok (.bipush (-5), 2) := by decide +kernel
theorem dX7_tryCough_22 : decode cX7_tryCough 22 = .ok (.ireturn, 1) := by decide +kernel
theorem dX7_tryCough_23 : decode cX7_tryCough 23 = .ok (.aload_n 0, 1) := by decide +kernel
theorem dX7_tryCough_24 : decode cX7_tryCough 24 = .ok (.iload_n 2, 1) := by decide +kernel
theorem dX7_tryCough_25 : decode cX7_tryCough 25 = .ok (.invokevirtual 145, 3) := by decide +kernel
theorem dX7_tryCough_28 : decode cX7_tryCough 28 = .ok (.iconst 0, 1) := by decide +kernel
theorem dX7_tryCough_29 : decode cX7_tryCough 29 = .ok (.istore_n 3, 1) := by decide +kernel
theorem dX7_tryCough_30 : decode cX7_tryCough 30 = .ok (.iload_n 3, 1) := by decide +kernel
theorem dX7_tryCough_31 : decode cX7_tryCough 31 = .ok (.aload_n 0, 1) := by decide +kernel
theorem dX7_tryCough_32 : decode cX7_tryCough 32 = .ok (.getfield 7, 3) := by decide +kernel
theorem dX7_tryCough_35 : decode cX7_tryCough 35 = .ok (.bipush 7, 2) := by decide +kernel
theorem dX7_tryCough_37 : decode cX7_tryCough 37 = .ok (.iaload, 1) := by decide +kernel
theorem dX7_tryCough_38 : decode cX7_tryCough 38 = .ok (.if_icmp .ge 17, 3) := by decide +kernel
theorem dX7_tryCough_41 : decode cX7_tryCough 41 = .ok (.aload_n 0, 1) := by decide +kernel
theorem dX7_tryCough_42 : decode cX7_tryCough 42 = .ok (.iload_n 3, 1) := by decide +kernel
theorem dX7_tryCough_43 : decode cX7_tryCough 43 = .ok (.bipush 11, 2) := by decide +kernel
theorem dX7_tryCough_45 : decode cX7_tryCough 45 = .ok (.iconst 0, 1) := by decide +kernel
theorem dX7_tryCough_46 : decode cX7_tryCough 46 = .ok (.invokevirtual 75, 3) := by decide +kernel
theorem dX7_tryCough_49 : decode cX7_tryCough 49 = .ok (.iinc 3 1, 3) := by decide +kernel
theorem dX7_tryCough_52 : decode cX7_tryCough 52 = .ok (.goto (-22), 3) := by decide +kernel
theorem dX7_tryCough_55 : decode cX7_tryCough 55 = .ok (.aload_n 0, 1) := by decide +kernel
theorem dX7_tryCough_56 : decode cX7_tryCough 56 = .ok (.iload_n 1, 1) := by decide +kernel
theorem dX7_tryCough_57 : decode cX7_tryCough 57 = .ok (.iconst 0, 1) := by decide +kernel
theorem dX7_tryCough_58 : decode cX7_tryCough 58 = .ok (.invokevirtual 105, 3) := by decide +kernel
theorem dX7_tryCough_61 : decode cX7_tryCough 61 = .ok (.ireturn, 1) := by decide +kernel
theorem dX7_cough_0 : decode cX7_cough 0 = .ok (.aload_n 0, 1) := by decide +kernel
theorem dX7_cough_1 : decode cX7_cough 1 = .ok (.iload_n 1, 1) := by decide +kernel
theorem dX7_cough_2 : decode cX7_cough 2 = .ok (.iconst 1, 1) := by decide +kernel
theorem dX7_cough_3 : decode cX7_cough 3 = .ok (.invokevirtual 170, 3) := by decide +kernel
theorem dX7_cough_6 : decode cX7_cough 6 = .ok (.ireturn, 1) := by decide +kernel
theorem dX7_tryTicks_0 : decode cX7_tryTicks 0 = .ok (.iload_n 1, 1) := by decide +kernel
theorem dX7_tryTicks_1 : decode cX7_tryTicks 1 = .ok (.iconst 1, 1) := by decide +kernel
theorem dX7_tryTicks_2 : decode cX7_tryTicks 2 = .ok (.sipush 200, 3) := by decide +kernel
theorem dX7_tryTicks_5 : decode cX7_tryTicks 5 = .ok (.invokestatic 44, 3) := by decide +kernel
theorem dX7_tryTicks_8 : decode cX7_tryTicks 8 = .ok (.ifCond .ne 6, 3) := by decide +kernel
theorem dX7_tryTicks_11 : decode cX7_tryTicks 11 = .ok (.bipush (-2), 2) := by decide +kernel
theorem dX7_tryTicks_13 : decode cX7_tryTicks 13 = .ok (.ireturn, 1) := by decide +kernel
theorem dX7_tryTicks_14 : decode cX7_tryTicks 14 = .ok (.aload_n 0, 1) := by decide +kernel
theorem dX7_tryTicks_15 : decode cX7_tryTicks 15 = .ok (.iload_n 2, 1) := by decide +kernel
theorem dX7_tryTicks_16 : decode cX7_tryTicks 16 = .ok (.invokevirtual 145, 3) := by decide +kernel
theorem dX7_tryTicks_19 : decode cX7_tryTicks 19 = .ok (.iconst 0, 1) := by decide +kernel
theorem dX7_tryTicks_20 : decode cX7_tryTicks 20 = .ok (.istore_n 3, 1) := by decide +kernel
theorem dX7_tryTicks_21 : decode cX7_tryTicks 21 = .ok (.iload_n 3, 1) := by decide +kernel
theorem dX7_tryTicks_22 : decode cX7_tryTicks 22 = .ok (.iload_n 1, 1) := by decide +kernel
theorem dX7_tryTicks_23 : decode cX7_tryTicks 23 = .ok (.if_icmp .ge 13, 3) := by decide +kernel
theorem dX7_tryTicks_26 : decode cX7_tryTicks 26 = .ok (.aload_n 0, 1) := by decide +kernel
theorem dX7_tryTicks_27 : decode cX7_tryTicks 27 = .ok (.invokevirtual 174, 3) := by decide +kernel
theorem dX7_tryTicks_30 : decode cX7_tryTicks 30 = .ok (.iinc 3 1, 3) := by decide +kernel
theorem dX7_tryTicks_33 : decode cX7_tryTicks 33 = .ok (.goto (-12), 3) := by decide +kernel
theorem dX7_tryTicks_36 : decode cX7_tryTicks 36 = .ok (.aload_n 0, 1) := by decide +kernel
theorem dX7_tryTicks_37 : decode cX7_tryTicks 37 = .ok (.getfield 7, 3) := by decide +kernel
theorem dX7_tryTicks_40 : decode cX7_tryTicks 40 = .ok (.bipush 6, 2) := by decide +kernel
theorem dX7_tryTicks_42 : decode cX7_tryTicks 42 = .ok (.iaload, 1) := by decide +kernel
theorem dX7_tryTicks_43 : decode cX7_tryTicks 43 = .ok (.ireturn, 1) := by decide +kernel
theorem dX7_ticks_0 : decode cX7_ticks 0 = .ok (.aload_n 0, 1) := by decide +kernel
theorem dX7_ticks_1 : decode cX7_ticks 1 = .ok (.iload_n 1, 1) := by decide +kernel
theorem dX7_ticks_2 : decode cX7_ticks 2 = .ok (.iconst 1, 1) := by decide +kernel
theorem dX7_ticks_3 : decode cX7_ticks 3 = .ok (.invokevirtual 177, 3) := by decide +kernel
theorem dX7_ticks_6 : decode cX7_ticks 6 = .ok (.ireturn, 1) := by decide +kernel
theorem dX7_ofLamp_0 : decode cX7_ofLamp 0 = .ok (.aload_n 0, 1) := by decide +kernel
theorem dX7_ofLamp_1 : decode cX7_ofLamp 1 = .ok (.iload_n 1, 1) := by decide +kernel
theorem dX7_ofLamp_2 : decode cX7_ofLamp 2 = .ok (.invokevirtual 160, 3) := by decide +kernel
theorem dX7_ofLamp_5 : decode cX7_ofLamp 5 = .ok (.ifCond .ne 5, 3) := by decide +kernel
theorem dX7_ofLamp_8 : decode cX7_ofLamp 8 = .ok (.iconst (-1), 1) := by decide +kernel
theorem dX7_ofLamp_9 : decode cX7_ofLamp 9 = .ok (.ireturn, 1) := by decide +kernel
theorem dX7_ofLamp_10 : decode cX7_ofLamp 10 = .ok (.iload_n 2, 1) := by decide +kernel
theorem dX7_ofLamp_11 : decode cX7_ofLamp 11 = .ok (.iconst 5, 1) := by decide +kernel
theorem dX7_ofLamp_12 : decode cX7_ofLamp 12 = .ok (.if_icmp .eq 9, 3) := by decide +kernel
theorem dX7_ofLamp_15 : decode cX7_ofLamp 15 = .ok (.iload_n 2, 1) := by decide +kernel
theorem dX7_ofLamp_16 : decode cX7_ofLamp 16 = .ok (.bipush 6, 2) := by decide +kernel
theorem dX7_ofLamp_18 : decode cX7_ofLamp 18 = .ok (.if_icmp .ne 24, 3) := by decide +kernel
theorem dX7_ofLamp_21 : decode cX7_ofLamp 21 = .ok (.aload_n 0, 1) := by decide +kernel
theorem dX7_ofLamp_22 : decode cX7_ofLamp 22 = .ok (.iload_n 1, 1) := by decide +kernel
theorem dX7_ofLamp_23 : decode cX7_ofLamp 23 = .ok (.iconst 5, 1) := by decide +kernel
theorem dX7_ofLamp_24 : decode cX7_ofLamp 24 = .ok (.invokevirtual 62, 3) := by decide +kernel
theorem dX7_ofLamp_27 : decode cX7_ofLamp 27 = .ok (.ifCond .le 12, 3) := by decide +kernel
theorem dX7_ofLamp_30 : decode cX7_ofLamp 30 = .ok (.aload_n 0, 1) := by decide +kernel
theorem dX7_ofLamp_31 : decode cX7_ofLamp 31 = .ok (.iload_n 1, 1) := by decide +kernel
theorem dX7_ofLamp_32 : decode cX7_ofLamp 32 = .ok (.iload_n 2, 1) := by decide +kernel
theorem dX7_ofLamp_33 : decode cX7_ofLamp 33 = .ok (.invokevirtual 62, 3) := by decide +kernel
theorem dX7_ofLamp_36 : decode cX7_ofLamp 36 = .ok (.goto 5, 3) := by decide +kernel
theorem dX7_ofLamp_39 : decode cX7_ofLamp 39 = .ok (.bipush (-6), 2) := by decide +kernel
theorem dX7_ofLamp_41 : decode cX7_ofLamp 41 = .ok (.ireturn, 1) := by decide +kernel
theorem dX7_ofLamp_42 : decode cX7_ofLamp 42 = .ok (.iload_n 2, 1) := by decide +kernel
theorem dX7_ofLamp_43 : decode cX7_ofLamp 43 = .ok (.iconst 0, 1) := by decide +kernel
theorem dX7_ofLamp_44 : decode cX7_ofLamp 44 = .ok (.bipush 10, 2) := by decide +kernel
theorem dX7_ofLamp_46 : decode cX7_ofLamp 46 = .ok (.invokestatic 44, 3) := by decide +kernel
theorem dX7_ofLamp_49 : decode cX7_ofLamp 49 = .ok (.ifCond .eq 12, 3) := by decide +kernel
theorem dX7_ofLamp_52 : decode cX7_ofLamp 52 = .ok (.aload_n 0, 1) := by decide +kernel
theorem dX7_ofLamp_53 : decode cX7_ofLamp 53 = .ok (.iload_n 1, 1) := by decide +kernel
theorem dX7_ofLamp_54 : decode cX7_ofLamp 54 = .ok (.iload_n 2, 1) := by decide +kernel
theorem dX7_ofLamp_55 : decode cX7_ofLamp 55 = .ok (.invokevirtual 62, 3) := by decide +kernel
theorem dX7_ofLamp_58 : decode cX7_ofLamp 58 = .ok (.goto 5, 3) := by decide +kernel
theorem dX7_ofLamp_61 : decode cX7_ofLamp 61 = .ok (.bipush (-2), 2) := by decide +kernel
theorem dX7_ofLamp_63 : decode cX7_ofLamp 63 = .ok (.ireturn, 1) := by decide +kernel
theorem dX7_ofWalker_0 : decode cX7_ofWalker 0 = .ok (.aload_n 0, 1) := by decide +kernel
theorem dX7_ofWalker_1 : decode cX7_ofWalker 1 = .ok (.iload_n 1, 1) := by decide +kernel
theorem dX7_ofWalker_2 : decode cX7_ofWalker 2 = .ok (.invokevirtual 153, 3) := by decide +kernel
theorem dX7_ofWalker_5 : decode cX7_ofWalker 5 = .ok (.ifCond .ne 5, 3) := by decide +kernel
theorem dX7_ofWalker_8 : decode cX7_ofWalker 8 = .ok (.iconst (-1), 1) := by decide +kernel
theorem dX7_ofWalker_9 : decode cX7_ofWalker 9 = .ok (.ireturn, 1) := by decide +kernel
theorem dX7_ofWalker_10 : decode cX7_ofWalker 10 = .ok (.iload_n 2, 1) := by decide +kernel
theorem dX7_ofWalker_11 : decode cX7_ofWalker 11 = .ok (.tableswitch 134 0 8 #[49, 49, 49, 56, 78, 85, 92, 99, 126], 49) := by decide +kernel
theorem dX7_ofWalker_60 : decode cX7_ofWalker 60 = .ok (.aload_n 0, 1) := by decide +kernel
theorem dX7_ofWalker_61 : decode cX7_ofWalker 61 = .ok (.iload_n 1, 1) := by decide +kernel
theorem dX7_ofWalker_62 : decode cX7_ofWalker 62 = .ok (.iload_n 2, 1) := by decide +kernel
theorem dX7_ofWalker_63 : decode cX7_ofWalker 63 = .ok (.invokevirtual 48, 3) := by decide +kernel
theorem dX7_ofWalker_66 : decode cX7_ofWalker 66 = .ok (.ireturn, 1) := by decide +kernel
theorem dX7_ofWalker_67 : decode cX7_ofWalker 67 = .ok (.aload_n 0, 1) := by decide +kernel
theorem dX7_ofWalker_68 : decode cX7_ofWalker 68 = .ok (.iload_n 1, 1) := by decide +kernel
theorem dX7_ofWalker_69 : decode cX7_ofWalker 69 = .ok (.iconst 3, 1) := by decide +kernel
theorem dX7_ofWalker_70 : decode cX7_ofWalker 70 = .ok (.invokevirtual 48, 3) := by decide +kernel
theorem dX7_ofWalker_73 : decode cX7_ofWalker 73 = .ok (.ifCond .le 13, 3) := by decide +kernel
theorem dX7_ofWalker_76 : decode cX7_ofWalker 76 = .ok (.aload_n 0, 1) := by decide +kernel
theorem dX7_ofWalker_77 : decode cX7_ofWalker 77 = .ok (.iload_n 1, 1) := by decide +kernel
theorem dX7_ofWalker_78 : decode cX7_ofWalker 78 = .ok (.bipush 8, 2) := by decide +kernel
theorem dX7_ofWalker_80 : decode cX7_ofWalker 80 = .ok (.invokevirtual 48, 3) := by decide +kernel
theorem dX7_ofWalker_83 : decode cX7_ofWalker 83 = .ok (.goto 5, 3) := by decide +kernel
theorem dX7_ofWalker_86 : decode cX7_ofWalker 86 = .ok (.bipush (-6), 2) := by decide +kernel
theorem dX7_ofWalker_88 : decode cX7_ofWalker 88 = .ok (.ireturn, 1) := by decide +kernel
theorem dX7_ofWalker_89 : decode cX7_ofWalker 89 = .ok (.aload_n 0, 1) := by decide +kernel
theorem dX7_ofWalker_90 : decode cX7_ofWalker 90 = .ok (.iload_n 1, 1) := by decide +kernel
theorem dX7_ofWalker_91 : decode cX7_ofWalker 91 = .ok (.iconst 3, 1) := by decide +kernel
theorem dX7_ofWalker_92 : decode cX7_ofWalker 92 = .ok (.invokevirtual 48, 3) := by decide +kernel
theorem dX7_ofWalker_95 : decode cX7_ofWalker 95 = .ok (.ireturn, 1) := by decide +kernel
theorem dX7_ofWalker_96 : decode cX7_ofWalker 96 = .ok (.aload_n 0, 1) := by decide +kernel
theorem dX7_ofWalker_97 : decode cX7_ofWalker 97 = .ok (.iload_n 1, 1) := by decide +kernel
theorem dX7_ofWalker_98 : decode cX7_ofWalker 98 = .ok (.iconst 4, 1) := by decide +kernel
theorem dX7_ofWalker_99 : decode cX7_ofWalker 99 = .ok (.invokevirtual 48, 3) := by decide +kernel
theorem dX7_ofWalker_102 : decode cX7_ofWalker 102 = .ok (.ireturn, 1) := by decide +kernel
theorem dX7_ofWalker_103 : decode cX7_ofWalker 103 = .ok (.aload_n 0, 1) := by decide +kernel
theorem dX7_ofWalker_104 : decode cX7_ofWalker 104 = .ok (.iload_n 1, 1) := by decide +kernel
theorem dX7_ofWalker_105 : decode cX7_ofWalker 105 = .ok (.iconst 5, 1) := by decide +kernel
theorem dX7_ofWalker_106 : decode cX7_ofWalker 106 = .ok (.invokevirtual 48, 3) := by decide +kernel
theorem dX7_ofWalker_109 : decode cX7_ofWalker 109 = .ok (.ireturn, 1) := by decide +kernel
theorem dX7_ofWalker_110 : decode cX7_ofWalker 110 = .ok (.aload_n 0, 1) := by decide +kernel
theorem dX7_ofWalker_111 : decode cX7_ofWalker 111 = .ok (.iload_n 1, 1) := by decide +kernel
theorem dX7_ofWalker_112 : decode cX7_ofWalker 112 = .ok (.invokevirtual 95, 3) := by decide +kernel
theorem dX7_ofWalker_115 : decode cX7_ofWalker 115 = .ok (.ifCond .eq 20, 3) := by decide +kernel
theorem dX7_ofWalker_118 : decode cX7_ofWalker 118 = .ok (.aload_n 0, 1) := by decide +kernel
theorem dX7_ofWalker_119 : decode cX7_ofWalker 119 = .ok (.aload_n 0, 1) := by decide +kernel
theorem dX7_ofWalker_120 : decode cX7_ofWalker 120 = .ok (.iload_n 1, 1) := by decide +kernel
theorem dX7_ofWalker_121 : decode cX7_ofWalker 121 = .ok (.iconst 0, 1) := by decide +kernel
theorem dX7_ofWalker_122 : decode cX7_ofWalker 122 = .ok (.invokevirtual 48, 3) := by decide +kernel
theorem dX7_ofWalker_125 : decode cX7_ofWalker 125 = .ok (.invokevirtual 111, 3) := by decide +kernel
theorem dX7_ofWalker_128 : decode cX7_ofWalker 128 = .ok (.ifCond .eq 7, 3) := by decide +kernel
theorem dX7_ofWalker_131 : decode cX7_ofWalker 131 = .ok (.iconst 1, 1) := by decide +kernel
theorem dX7_ofWalker_132 : decode cX7_ofWalker 132 = .ok (.goto 4, 3) := by decide +kernel
theorem dX7_ofWalker_135 : decode cX7_ofWalker 135 = .ok (.iconst 0, 1) := by decide +kernel
theorem dX7_ofWalker_136 : decode cX7_ofWalker 136 = .ok (.ireturn, 1) := by decide +kernel
theorem dX7_ofWalker_137 : decode cX7_ofWalker 137 = .ok (.aload_n 0, 1) := by decide +kernel
theorem dX7_ofWalker_138 : decode cX7_ofWalker 138 = .ok (.iload_n 1, 1) := by decide +kernel
theorem dX7_ofWalker_139 : decode cX7_ofWalker 139 = .ok (.bipush 6, 2) := by decide +kernel
theorem dX7_ofWalker_141 : decode cX7_ofWalker 141 = .ok (.invokevirtual 48, 3) := by decide +kernel
theorem dX7_ofWalker_144 : decode cX7_ofWalker 144 = .ok (.ireturn, 1) := by decide +kernel
theorem dX7_ofWalker_145 : decode cX7_ofWalker 145 = .ok (.bipush (-2), 2) := by decide +kernel
theorem dX7_ofWalker_147 : decode cX7_ofWalker 147 = .ok (.ireturn, 1) := by decide +kernel
theorem dX7_ofHouse_0 : decode cX7_ofHouse 0 = .ok (.iload_n 1, 1) := by decide +kernel
theorem dX7_ofHouse_1 : decode cX7_ofHouse 1 = .ok (.iconst 0, 1) := by decide +kernel
theorem dX7_ofHouse_2 : decode cX7_ofHouse 2 = .ok (.aload_n 0, 1) := by decide +kernel
theorem dX7_ofHouse_3 : decode cX7_ofHouse 3 = .ok (.getfield 7, 3) := by decide +kernel
theorem dX7_ofHouse_6 : decode cX7_ofHouse 6 = .ok (.bipush 8, 2) := by decide +kernel
theorem dX7_ofHouse_8 : decode cX7_ofHouse 8 = .ok (.iaload, 1) := by decide +kernel
theorem dX7_ofHouse_9 : decode cX7_ofHouse 9 = .ok (.iconst 1, 1) := by decide +kernel
theorem dX7_ofHouse_10 : decode cX7_ofHouse 10 = .ok (.isub, 1) := by decide +kernel
theorem dX7_ofHouse_11 : decode cX7_ofHouse 11 = .ok (.invokestatic 44, 3) := by decide +kernel
theorem dX7_ofHouse_14 : decode cX7_ofHouse 14 = .ok (.ifCond .ne 5, 3) := by decide +kernel
theorem dX7_ofHouse_17 : decode cX7_ofHouse 17 = .ok (.iconst (-1), 1) := by decide +kernel
theorem dX7_ofHouse_18 : decode cX7_ofHouse 18 = .ok (.ireturn, 1) := by decide +kernel
theorem dX7_ofHouse_19 : decode cX7_ofHouse 19 = .ok (.iload_n 2, 1) := by decide +kernel
theorem dX7_ofHouse_20 : decode cX7_ofHouse 20 = .ok (.ifCond .ne 12, 3) := by decide +kernel
theorem dX7_ofHouse_23 : decode cX7_ofHouse 23 = .ok (.aload_n 0, 1) := by decide +kernel
theorem dX7_ofHouse_24 : decode cX7_ofHouse 24 = .ok (.iload_n 1, 1) := by decide +kernel
theorem dX7_ofHouse_25 : decode cX7_ofHouse 25 = .ok (.iconst 0, 1) := by decide +kernel
theorem dX7_ofHouse_26 : decode cX7_ofHouse 26 = .ok (.invokevirtual 72, 3) := by decide +kernel
theorem dX7_ofHouse_29 : decode cX7_ofHouse 29 = .ok (.goto 40, 3) := by decide +kernel
theorem dX7_ofHouse_32 : decode cX7_ofHouse 32 = .ok (.iload_n 2, 1) := by decide +kernel
theorem dX7_ofHouse_33 : decode cX7_ofHouse 33 = .ok (.iconst 1, 1) := by decide +kernel
theorem dX7_ofHouse_34 : decode cX7_ofHouse 34 = .ok (.if_icmp .ne 19, 3) := by decide +kernel
theorem dX7_ofHouse_37 : decode cX7_ofHouse 37 = .ok (.aload_n 0, 1) := by decide +kernel
theorem dX7_ofHouse_38 : decode cX7_ofHouse 38 = .ok (.iload_n 1, 1) := by decide +kernel
theorem dX7_ofHouse_39 : decode cX7_ofHouse 39 = .ok (.invokevirtual 118, 3) := by decide +kernel
theorem dX7_ofHouse_42 : decode cX7_ofHouse 42 = .ok (.ifCond .eq 7, 3) := by decide +kernel
theorem dX7_ofHouse_45 : decode cX7_ofHouse 45 = .ok (.iconst 1, 1) := by decide +kernel
theorem dX7_ofHouse_46 : decode cX7_ofHouse 46 = .ok (.goto 23, 3) := by decide +kernel
theorem dX7_ofHouse_49 : decode cX7_ofHouse 49 = .ok (.iconst 0, 1) := by decide +kernel
theorem dX7_ofHouse_50 : decode cX7_ofHouse 50 = .ok (.goto 19, 3) := by decide +kernel
theorem dX7_ofHouse_53 : decode cX7_ofHouse 53 = .ok (.iload_n 2, 1) := by decide +kernel
theorem dX7_ofHouse_54 : decode cX7_ofHouse 54 = .ok (.iconst 2, 1) := by decide +kernel
theorem dX7_ofHouse_55 : decode cX7_ofHouse 55 = .ok (.if_icmp .ne 12, 3) := by decide +kernel
theorem dX7_ofHouse_58 : decode cX7_ofHouse 58 = .ok (.aload_n 0, 1) := by decide +kernel
theorem dX7_ofHouse_59 : decode cX7_ofHouse 59 = .ok (.iload_n 1, 1) := by decide +kernel
theorem dX7_ofHouse_60 : decode cX7_ofHouse 60 = .ok (.iconst 1, 1) := by decide +kernel
theorem dX7_ofHouse_61 : decode cX7_ofHouse 61 = .ok (.invokevirtual 72, 3) := by decide +kernel
theorem dX7_ofHouse_64 : decode cX7_ofHouse 64 = .ok (.goto 5, 3) := by decide +kernel
theorem dX7_ofHouse_67 : decode cX7_ofHouse 67 = .ok (.bipush (-2), 2) := by decide +kernel
theorem dX7_ofHouse_69 : decode cX7_ofHouse 69 = .ok (.ireturn, 1) := by decide +kernel
theorem dX7_lightAt_0 : decode cX7_lightAt 0 = .ok (.iload_n 1, 1) := by decide +kernel
theorem dX7_lightAt_1 : decode cX7_lightAt 1 = .ok (.invokestatic 139, 3) := by decide +kernel
theorem dX7_lightAt_4 : decode cX7_lightAt 4 = .ok (.ifCond .eq 11, 3) := by decide +kernel
theorem dX7_lightAt_7 : decode cX7_lightAt 7 = .ok (.aload_n 0, 1) := by decide +kernel
theorem dX7_lightAt_8 : decode cX7_lightAt 8 = .ok (.iload_n 1, 1) := by decide +kernel
theorem dX7_lightAt_9 : decode cX7_lightAt 9 = .ok (.invokevirtual 111, 3) := by decide +kernel
theorem dX7_lightAt_12 : decode cX7_lightAt 12 = .ok (.goto 4, 3) := by decide +kernel
theorem dX7_lightAt_15 : decode cX7_lightAt 15 = .ok (.iconst (-1), 1) := by decide +kernel
theorem dX7_lightAt_16 : decode cX7_lightAt 16 = .ok (.ireturn, 1) := by decide +kernel
theorem dX7_hearers_0 : decode cX7_hearers 0 = .ok (.aload_n 0, 1) := by decide +kernel
theorem dX7_hearers_1 : decode cX7_hearers 1 = .ok (.iload_n 1, 1) := by decide +kernel
theorem dX7_hearers_2 : decode cX7_hearers 2 = .ok (.invokevirtual 160, 3) := by decide +kernel
theorem dX7_hearers_5 : decode cX7_hearers 5 = .ok (.ifCond .ne 5, 3) := by decide +kernel
theorem dX7_hearers_8 : decode cX7_hearers 8 = .ok (.iconst (-1), 1) := by decide +kernel
theorem dX7_hearers_9 : decode cX7_hearers 9 = .ok (.ireturn, 1) := by decide +kernel
theorem dX7_hearers_10 : decode cX7_hearers 10 = .ok (.iconst 0, 1) := by decide +kernel
theorem dX7_hearers_11 : decode cX7_hearers 11 = .ok (.istore_n 2, 1) := by decide +kernel
theorem dX7_hearers_12 : decode cX7_hearers 12 = .ok (.iconst 0, 1) := by decide +kernel
theorem dX7_hearers_13 : decode cX7_hearers 13 = .ok (.istore_n 3, 1) := by decide +kernel
theorem dX7_hearers_14 : decode cX7_hearers 14 = .ok (.iload_n 3, 1) := by decide +kernel
theorem dX7_hearers_15 : decode cX7_hearers 15 = .ok (.aload_n 0, 1) := by decide +kernel
theorem dX7_hearers_16 : decode cX7_hearers 16 = .ok (.getfield 7, 3) := by decide +kernel
theorem dX7_hearers_19 : decode cX7_hearers 19 = .ok (.bipush 7, 2) := by decide +kernel
theorem dX7_hearers_21 : decode cX7_hearers 21 = .ok (.iaload, 1) := by decide +kernel
theorem dX7_hearers_22 : decode cX7_hearers 22 = .ok (.if_icmp .ge 38, 3) := by decide +kernel
theorem dX7_hearers_25 : decode cX7_hearers 25 = .ok (.aload_n 0, 1) := by decide +kernel
theorem dX7_hearers_26 : decode cX7_hearers 26 = .ok (.iload_n 1, 1) := by decide +kernel
theorem dX7_hearers_27 : decode cX7_hearers 27 = .ok (.iconst 3, 1) := by decide +kernel
theorem dX7_hearers_28 : decode cX7_hearers 28 = .ok (.invokevirtual 62, 3) := by decide +kernel
theorem dX7_hearers_31 : decode cX7_hearers 31 = .ok (.iconst 2, 1) := by decide +kernel
theorem dX7_hearers_32 : decode cX7_hearers 32 = .ok (.if_icmp .eq 28, 3) := by decide +kernel
theorem dX7_hearers_35 : decode cX7_hearers 35 = .ok (.iload_n 2, 1) := by decide +kernel
theorem dX7_hearers_36 : decode cX7_hearers 36 = .ok (.aload_n 0, 1) := by decide +kernel
theorem dX7_hearers_37 : decode cX7_hearers 37 = .ok (.iload_n 3, 1) := by decide +kernel
theorem dX7_hearers_38 : decode cX7_hearers 38 = .ok (.iload_n 1, 1) := by decide +kernel
theorem dX7_hearers_39 : decode cX7_hearers 39 = .ok (.invokevirtual 82, 3) := by decide +kernel
theorem dX7_hearers_42 : decode cX7_hearers 42 = .ok (.ifCond .eq 9, 3) := by decide +kernel
theorem dX7_hearers_45 : decode cX7_hearers 45 = .ok (.iconst 1, 1) := by decide +kernel
theorem dX7_hearers_46 : decode cX7_hearers 46 = .ok (.iload_n 3, 1) := by decide +kernel
theorem dX7_hearers_47 : decode cX7_hearers 47 = .ok (.ishl, 1) := by decide +kernel
theorem dX7_hearers_48 : decode cX7_hearers 48 = .ok (.goto 4, 3) := by decide +kernel
theorem dX7_hearers_51 : decode cX7_hearers 51 = .ok (.iconst 0, 1) := by decide +kernel
theorem dX7_hearers_52 : decode cX7_hearers 52 = .ok (.ior, 1) := by decide +kernel
theorem dX7_hearers_53 : decode cX7_hearers 53 = .ok (.istore_n 2, 1) := by decide +kernel
theorem dX7_hearers_54 : decode cX7_hearers 54 = .ok (.iinc 3 1, 3) := by decide +kernel
theorem dX7_hearers_57 : decode cX7_hearers 57 = .ok (.goto (-43), 3) := by decide +kernel
theorem dX7_hearers_60 : decode cX7_hearers 60 = .ok (.iload_n 2, 1) := by decide +kernel
theorem dX7_hearers_61 : decode cX7_hearers 61 = .ok (.ireturn, 1) := by decide +kernel
theorem dX7_lampsThat_0 : decode cX7_lampsThat 0 = .ok (.iconst 0, 1) := by decide +kernel
theorem dX7_lampsThat_1 : decode cX7_lampsThat 1 = .ok (.istore_n 2, 1) := by decide +kernel
theorem dX7_lampsThat_2 : decode cX7_lampsThat 2 = .ok (.iconst 0, 1) := by decide +kernel
theorem dX7_lampsThat_3 : decode cX7_lampsThat 3 = .ok (.istore_n 3, 1) := by decide +kernel
theorem dX7_lampsThat_4 : decode cX7_lampsThat 4 = .ok (.iload_n 3, 1) := by decide +kernel
theorem dX7_lampsThat_5 : decode cX7_lampsThat 5 = .ok (.aload_n 0, 1) := by decide +kernel
theorem dX7_lampsThat_6 : decode cX7_lampsThat 6 = .ok (.getfield 7, 3) := by decide +kernel
theorem dX7_lampsThat_9 : decode cX7_lampsThat 9 = .ok (.bipush 7, 2) := by decide +kernel
theorem dX7_lampsThat_11 : decode cX7_lampsThat 11 = .ok (.iaload, 1) := by decide +kernel
theorem dX7_lampsThat_12 : decode cX7_lampsThat 12 = .ok (.if_icmp .ge 27, 3) := by decide +kernel
theorem dX7_lampsThat_15 : decode cX7_lampsThat 15 = .ok (.iload_n 2, 1) := by decide +kernel
theorem dX7_lampsThat_16 : decode cX7_lampsThat 16 = .ok (.aload_n 0, 1) := by decide +kernel
theorem dX7_lampsThat_17 : decode cX7_lampsThat 17 = .ok (.iload_n 3, 1) := by decide +kernel
theorem dX7_lampsThat_18 : decode cX7_lampsThat 18 = .ok (.iconst 2, 1) := by decide +kernel
theorem dX7_lampsThat_19 : decode cX7_lampsThat 19 = .ok (.invokevirtual 62, 3) := by decide +kernel
theorem dX7_lampsThat_22 : decode cX7_lampsThat 22 = .ok (.iload_n 1, 1) := by decide +kernel
theorem dX7_lampsThat_23 : decode cX7_lampsThat 23 = .ok (.if_icmp .ne 7, 3) := by decide +kernel
theorem dX7_lampsThat_26 : decode cX7_lampsThat 26 = .ok (.iconst 1, 1) := by decide +kernel
theorem dX7_lampsThat_27 : decode cX7_lampsThat 27 = .ok (.goto 4, 3) := by decide +kernel
theorem dX7_lampsThat_30 : decode cX7_lampsThat 30 = .ok (.iconst 0, 1) := by decide +kernel
theorem dX7_lampsThat_31 : decode cX7_lampsThat 31 = .ok (.iadd, 1) := by decide +kernel
theorem dX7_lampsThat_32 : decode cX7_lampsThat 32 = .ok (.istore_n 2, 1) := by decide +kernel
theorem dX7_lampsThat_33 : decode cX7_lampsThat 33 = .ok (.iinc 3 1, 3) := by decide +kernel
theorem dX7_lampsThat_36 : decode cX7_lampsThat 36 = .ok (.goto (-32), 3) := by decide +kernel
theorem dX7_lampsThat_39 : decode cX7_lampsThat 39 = .ok (.iload_n 2, 1) := by decide +kernel
theorem dX7_lampsThat_40 : decode cX7_lampsThat 40 = .ok (.ireturn, 1) := by decide +kernel
theorem dX7_sumL_0 : decode cX7_sumL 0 = .ok (.iconst 0, 1) := by decide +kernel
theorem dX7_sumL_1 : decode cX7_sumL 1 = .ok (.istore_n 2, 1) := by decide +kernel
theorem dX7_sumL_2 : decode cX7_sumL 2 = .ok (.iconst 0, 1) := by decide +kernel
theorem dX7_sumL_3 : decode cX7_sumL 3 = .ok (.istore_n 3, 1) := by decide +kernel
theorem dX7_sumL_4 : decode cX7_sumL 4 = .ok (.iload_n 3, 1) := by decide +kernel
theorem dX7_sumL_5 : decode cX7_sumL 5 = .ok (.aload_n 0, 1) := by decide +kernel
theorem dX7_sumL_6 : decode cX7_sumL 6 = .ok (.getfield 7, 3) := by decide +kernel
theorem dX7_sumL_9 : decode cX7_sumL 9 = .ok (.bipush 7, 2) := by decide +kernel
theorem dX7_sumL_11 : decode cX7_sumL 11 = .ok (.iaload, 1) := by decide +kernel
theorem dX7_sumL_12 : decode cX7_sumL 12 = .ok (.if_icmp .ge 18, 3) := by decide +kernel
theorem dX7_sumL_15 : decode cX7_sumL 15 = .ok (.iload_n 2, 1) := by decide +kernel
theorem dX7_sumL_16 : decode cX7_sumL 16 = .ok (.aload_n 0, 1) := by decide +kernel
theorem dX7_sumL_17 : decode cX7_sumL 17 = .ok (.iload_n 3, 1) := by decide +kernel
theorem dX7_sumL_18 : decode cX7_sumL 18 = .ok (.iload_n 1, 1) := by decide +kernel
theorem dX7_sumL_19 : decode cX7_sumL 19 = .ok (.invokevirtual 62, 3) := by decide +kernel
theorem dX7_sumL_22 : decode cX7_sumL 22 = .ok (.iadd, 1) := by decide +kernel
theorem dX7_sumL_23 : decode cX7_sumL 23 = .ok (.istore_n 2, 1) := by decide +kernel
theorem dX7_sumL_24 : decode cX7_sumL 24 = .ok (.iinc 3 1, 3) := by decide +kernel
theorem dX7_sumL_27 : decode cX7_sumL 27 = .ok (.goto (-23), 3) := by decide +kernel
theorem dX7_sumL_30 : decode cX7_sumL 30 = .ok (.iload_n 2, 1) := by decide +kernel
theorem dX7_sumL_31 : decode cX7_sumL 31 = .ok (.ireturn, 1) := by decide +kernel
theorem dX7_darkTicks_0 : decode cX7_darkTicks 0 = .ok (.iconst 0, 1) := by decide +kernel
theorem dX7_darkTicks_1 : decode cX7_darkTicks 1 = .ok (.istore_n 1, 1) := by decide +kernel
theorem dX7_darkTicks_2 : decode cX7_darkTicks 2 = .ok (.iconst 0, 1) := by decide +kernel
theorem dX7_darkTicks_3 : decode cX7_darkTicks 3 = .ok (.istore_n 2, 1) := by decide +kernel
theorem dX7_darkTicks_4 : decode cX7_darkTicks 4 = .ok (.iload_n 2, 1) := by decide +kernel
theorem dX7_darkTicks_5 : decode cX7_darkTicks 5 = .ok (.aload_n 0, 1) := by decide +kernel
theorem dX7_darkTicks_6 : decode cX7_darkTicks 6 = .ok (.getfield 7, 3) := by decide +kernel
theorem dX7_darkTicks_9 : decode cX7_darkTicks 9 = .ok (.bipush 9, 2) := by decide +kernel
theorem dX7_darkTicks_11 : decode cX7_darkTicks 11 = .ok (.iaload, 1) := by decide +kernel
theorem dX7_darkTicks_12 : decode cX7_darkTicks 12 = .ok (.if_icmp .ge 18, 3) := by decide +kernel
theorem dX7_darkTicks_15 : decode cX7_darkTicks 15 = .ok (.iload_n 1, 1) := by decide +kernel
theorem dX7_darkTicks_16 : decode cX7_darkTicks 16 = .ok (.aload_n 0, 1) := by decide +kernel
theorem dX7_darkTicks_17 : decode cX7_darkTicks 17 = .ok (.iload_n 2, 1) := by decide +kernel
theorem dX7_darkTicks_18 : decode cX7_darkTicks 18 = .ok (.iconst 5, 1) := by decide +kernel
theorem dX7_darkTicks_19 : decode cX7_darkTicks 19 = .ok (.invokevirtual 48, 3) := by decide +kernel
theorem dX7_darkTicks_22 : decode cX7_darkTicks 22 = .ok (.iadd, 1) := by decide +kernel
theorem dX7_darkTicks_23 : decode cX7_darkTicks 23 = .ok (.istore_n 1, 1) := by decide +kernel
theorem dX7_darkTicks_24 : decode cX7_darkTicks 24 = .ok (.iinc 2 1, 3) := by decide +kernel
theorem dX7_darkTicks_27 : decode cX7_darkTicks 27 = .ok (.goto (-23), 3) := by decide +kernel
theorem dX7_darkTicks_30 : decode cX7_darkTicks 30 = .ok (.iload_n 1, 1) := by decide +kernel
theorem dX7_darkTicks_31 : decode cX7_darkTicks 31 = .ok (.ireturn, 1) := by decide +kernel
theorem dX7_disturbedTicks_0 : decode cX7_disturbedTicks 0 = .ok (.iconst 0, 1) := by decide +kernel
theorem dX7_disturbedTicks_1 : decode cX7_disturbedTicks 1 = .ok (.istore_n 1, 1) := by decide +kernel
theorem dX7_disturbedTicks_2 : decode cX7_disturbedTicks 2 = .ok (.iconst 0, 1) := by decide +kernel
theorem dX7_disturbedTicks_3 : decode cX7_disturbedTicks 3 = .ok (.istore_n 2, 1) := by decide +kernel
theorem dX7_disturbedTicks_4 : decode cX7_disturbedTicks 4 = .ok (.iload_n 2, 1) := by decide +kernel
theorem dX7_disturbedTicks_5 : decode cX7_disturbedTicks 5 = .ok (.aload_n 0, 1) := by decide +kernel
theorem dX7_disturbedTicks_6 : decode cX7_disturbedTicks 6 = .ok (.getfield 7, 3) := by decide +kernel
theorem dX7_disturbedTicks_9 : decode cX7_disturbedTicks 9 = .ok (.bipush 8, 2) := by decide +kernel
theorem dX7_disturbedTicks_11 : decode cX7_disturbedTicks 11 = .ok (.iaload, 1) := by decide +kernel
theorem dX7_disturbedTicks_12 : decode cX7_disturbedTicks 12 = .ok (.if_icmp .ge 18, 3) := by decide +kernel
theorem dX7_disturbedTicks_15 : decode cX7_disturbedTicks 15 = .ok (.iload_n 1, 1) := by decide +kernel
theorem dX7_disturbedTicks_16 : decode cX7_disturbedTicks 16 = .ok (.aload_n 0, 1) := by decide +kernel
theorem dX7_disturbedTicks_17 : decode cX7_disturbedTicks 17 = .ok (.iload_n 2, 1) := by decide +kernel
theorem dX7_disturbedTicks_18 : decode cX7_disturbedTicks 18 = .ok (.iconst 1, 1) := by decide +kernel
theorem dX7_disturbedTicks_19 : decode cX7_disturbedTicks 19 = .ok (.invokevirtual 72, 3) := by decide +kernel
theorem dX7_disturbedTicks_22 : decode cX7_disturbedTicks 22 = .ok (.iadd, 1) := by decide +kernel
theorem dX7_disturbedTicks_23 : decode cX7_disturbedTicks 23 = .ok (.istore_n 1, 1) := by decide +kernel
theorem dX7_disturbedTicks_24 : decode cX7_disturbedTicks 24 = .ok (.iinc 2 1, 3) := by decide +kernel
theorem dX7_disturbedTicks_27 : decode cX7_disturbedTicks 27 = .ok (.goto (-23), 3) := by decide +kernel
theorem dX7_disturbedTicks_30 : decode cX7_disturbedTicks 30 = .ok (.iload_n 1, 1) := by decide +kernel
theorem dX7_disturbedTicks_31 : decode cX7_disturbedTicks 31 = .ok (.ireturn, 1) := by decide +kernel
theorem dX7_walkersInStreet_0 : decode cX7_walkersInStreet 0 = .ok (.iconst 0, 1) := by decide +kernel
theorem dX7_walkersInStreet_1 : decode cX7_walkersInStreet 1 = .ok (.istore_n 1, 1) := by decide +kernel
theorem dX7_walkersInStreet_2 : decode cX7_walkersInStreet 2 = .ok (.iconst 0, 1) := by decide +kernel
theorem dX7_walkersInStreet_3 : decode cX7_walkersInStreet 3 = .ok (.istore_n 2, 1) := by decide +kernel
theorem dX7_walkersInStreet_4 : decode cX7_walkersInStreet 4 = .ok (.iload_n 2, 1) := by decide +kernel
theorem dX7_walkersInStreet_5 : decode cX7_walkersInStreet 5 = .ok (.aload_n 0, 1) := by decide +kernel
theorem dX7_walkersInStreet_6 : decode cX7_walkersInStreet 6 = .ok (.getfield 7, 3) := by decide +kernel
theorem dX7_walkersInStreet_9 : decode cX7_walkersInStreet 9 = .ok (.bipush 9, 2) := by decide +kernel
theorem dX7_walkersInStreet_11 : decode cX7_walkersInStreet 11 = .ok (.iaload, 1) := by decide +kernel
theorem dX7_walkersInStreet_12 : decode cX7_walkersInStreet 12 = .ok (.if_icmp .ge 25, 3) := by decide +kernel
theorem dX7_walkersInStreet_15 : decode cX7_walkersInStreet 15 = .ok (.iload_n 1, 1) := by decide +kernel
theorem dX7_walkersInStreet_16 : decode cX7_walkersInStreet 16 = .ok (.aload_n 0, 1) := by decide +kernel
theorem dX7_walkersInStreet_17 : decode cX7_walkersInStreet 17 = .ok (.iload_n 2, 1) := by decide +kernel
theorem dX7_walkersInStreet_18 : decode cX7_walkersInStreet 18 = .ok (.invokevirtual 95, 3) := by decide +kernel
theorem dX7_walkersInStreet_21 : decode cX7_walkersInStreet 21 = .ok (.ifCond .eq 7, 3) := by decide +kernel
theorem dX7_walkersInStreet_24 : decode cX7_walkersInStreet 24 = .ok (.iconst 1, 1) := by decide +kernel
theorem dX7_walkersInStreet_25 : decode cX7_walkersInStreet 25 = .ok (.goto 4, 3) := by decide +kernel
theorem dX7_walkersInStreet_28 : decode cX7_walkersInStreet 28 = .ok (.iconst 0, 1) := by decide +kernel
theorem dX7_walkersInStreet_29 : decode cX7_walkersInStreet 29 = .ok (.iadd, 1) := by decide +kernel
theorem dX7_walkersInStreet_30 : decode cX7_walkersInStreet 30 = .ok (.istore_n 1, 1) := by decide +kernel
theorem dX7_walkersInStreet_31 : decode cX7_walkersInStreet 31 = .ok (.iinc 2 1, 3) := by decide +kernel
theorem dX7_walkersInStreet_34 : decode cX7_walkersInStreet 34 = .ok (.goto (-30), 3) := by decide +kernel
theorem dX7_walkersInStreet_37 : decode cX7_walkersInStreet 37 = .ok (.iload_n 1, 1) := by decide +kernel
theorem dX7_walkersInStreet_38 : decode cX7_walkersInStreet 38 = .ok (.ireturn, 1) := by decide +kernel
theorem dX7_count_0 : decode cX7_count 0 = .ok (.iload_n 1, 1) := by decide +kernel
theorem dX7_count_1 : decode cX7_count 1 = .ok (.iconst 0, 1) := by decide +kernel
theorem dX7_count_2 : decode cX7_count 2 = .ok (.iconst 3, 1) := by decide +kernel
theorem dX7_count_3 : decode cX7_count 3 = .ok (.invokestatic 44, 3) := by decide +kernel
theorem dX7_count_6 : decode cX7_count 6 = .ok (.ifCond .eq 13, 3) := by decide +kernel
theorem dX7_count_9 : decode cX7_count 9 = .ok (.aload_n 0, 1) := by decide +kernel
theorem dX7_count_10 : decode cX7_count 10 = .ok (.getfield 7, 3) := by decide +kernel
theorem dX7_count_13 : decode cX7_count 13 = .ok (.bipush 6, 2) := by decide +kernel
theorem dX7_count_15 : decode cX7_count 15 = .ok (.iload_n 1, 1) := by decide +kernel
theorem dX7_count_16 : decode cX7_count 16 = .ok (.iadd, 1) := by decide +kernel
theorem dX7_count_17 : decode cX7_count 17 = .ok (.iaload, 1) := by decide +kernel
theorem dX7_count_18 : decode cX7_count 18 = .ok (.ireturn, 1) := by decide +kernel
theorem dX7_count_19 : decode cX7_count 19 = .ok (.iload_n 1, 1) := by decide +kernel
theorem dX7_count_20 : decode cX7_count 20 = .ok (.bipush 11, 2) := by decide +kernel
theorem dX7_count_22 : decode cX7_count 22 = .ok (.bipush 16, 2) := by decide +kernel
theorem dX7_count_24 : decode cX7_count 24 = .ok (.invokestatic 44, 3) := by decide +kernel
theorem dX7_count_27 : decode cX7_count 27 = .ok (.ifCond .eq 13, 3) := by decide +kernel
theorem dX7_count_30 : decode cX7_count 30 = .ok (.aload_n 0, 1) := by decide +kernel
theorem dX7_count_31 : decode cX7_count 31 = .ok (.getfield 7, 3) := by decide +kernel
theorem dX7_count_34 : decode cX7_count 34 = .ok (.iload_n 1, 1) := by decide +kernel
theorem dX7_count_35 : decode cX7_count 35 = .ok (.bipush 11, 2) := by decide +kernel
theorem dX7_count_37 : decode cX7_count 37 = .ok (.isub, 1) := by decide +kernel
theorem dX7_count_38 : decode cX7_count 38 = .ok (.iaload, 1) := by decide +kernel
theorem dX7_count_39 : decode cX7_count 39 = .ok (.ireturn, 1) := by decide +kernel
theorem dX7_count_40 : decode cX7_count 40 = .ok (.iload_n 1, 1) := by decide +kernel
theorem dX7_count_41 : decode cX7_count 41 = .ok (.tableswitch 126 4 18 #[75, 80, 86, 92, 99, 104, 109, 126, 126, 126, 126, 126, 126, 116, 121], 75) := by decide +kernel
theorem dX7_count_116 : decode cX7_count 116 = .ok (.aload_n 0, 1) := by decide +kernel
theorem dX7_count_117 : decode cX7_count 117 = .ok (.invokevirtual 180, 3) := by decide +kernel
theorem dX7_count_120 : decode cX7_count 120 = .ok (.ireturn, 1) := by decide +kernel
theorem dX7_count_121 : decode cX7_count 121 = .ok (.aload_n 0, 1) := by decide +kernel
theorem dX7_count_122 : decode cX7_count 122 = .ok (.iconst 2, 1) := by decide +kernel
theorem dX7_count_123 : decode cX7_count 123 = .ok (.invokevirtual 184, 3) := by decide +kernel
theorem dX7_count_126 : decode cX7_count 126 = .ok (.ireturn, 1) := by decide +kernel
theorem dX7_count_127 : decode cX7_count 127 = .ok (.aload_n 0, 1) := by decide +kernel
theorem dX7_count_128 : decode cX7_count 128 = .ok (.iconst 1, 1) := by decide +kernel
theorem dX7_count_129 : decode cX7_count 129 = .ok (.invokevirtual 184, 3) := by decide +kernel
theorem dX7_count_132 : decode cX7_count 132 = .ok (.ireturn, 1) := by decide +kernel
theorem dX7_count_133 : decode cX7_count 133 = .ok (.aload_n 0, 1) := by decide +kernel
theorem dX7_count_134 : decode cX7_count 134 = .ok (.bipush 7, 2) := by decide +kernel
theorem dX7_count_136 : decode cX7_count 136 = .ok (.invokevirtual 187, 3) := by decide +kernel
theorem dX7_count_139 : decode cX7_count 139 = .ok (.ireturn, 1) := by decide +kernel
theorem dX7_count_140 : decode cX7_count 140 = .ok (.aload_n 0, 1) := by decide +kernel
theorem dX7_count_141 : decode cX7_count 141 = .ok (.invokevirtual 190, 3) := by decide +kernel
theorem dX7_count_144 : decode cX7_count 144 = .ok (.ireturn, 1) := by decide +kernel
theorem dX7_count_145 : decode cX7_count 145 = .ok (.aload_n 0, 1) := by decide +kernel
theorem dX7_count_146 : decode cX7_count 146 = .ok (.invokevirtual 193, 3) := by decide +kernel
theorem dX7_count_149 : decode cX7_count 149 = .ok (.ireturn, 1) := by decide +kernel
theorem dX7_count_150 : decode cX7_count 150 = .ok (.aload_n 0, 1) := by decide +kernel
theorem dX7_count_151 : decode cX7_count 151 = .ok (.bipush 8, 2) := by decide +kernel
theorem dX7_count_153 : decode cX7_count 153 = .ok (.invokevirtual 187, 3) := by decide +kernel
theorem dX7_count_156 : decode cX7_count 156 = .ok (.ireturn, 1) := by decide +kernel
theorem dX7_count_157 : decode cX7_count 157 = .ok (.aload_n 0, 1) := by decide +kernel
theorem dX7_count_158 : decode cX7_count 158 = .ok (.getfield 196, 3) := by decide +kernel
theorem dX7_count_161 : decode cX7_count 161 = .ok (.ireturn, 1) := by decide +kernel
theorem dX7_count_162 : decode cX7_count 162 = .ok (.aload_n 0, 1) := by decide +kernel
theorem dX7_count_163 : decode cX7_count 163 = .ok (.getfield 52, 3) := by decide +kernel
theorem dX7_count_166 : decode cX7_count 166 = .ok (.ireturn, 1) := by decide +kernel
theorem dX7_count_167 : decode cX7_count 167 = .ok (.bipush (-2), 2) := by decide +kernel
theorem dX7_count_169 : decode cX7_count 169 = .ok (.ireturn, 1) := by decide +kernel
theorem dX7_homeIn_0 : decode cX7_homeIn 0 = .ok (.aload_n 0, 1) := by decide +kernel
theorem dX7_homeIn_1 : decode cX7_homeIn 1 = .ok (.iload_n 1, 1) := by decide +kernel
theorem dX7_homeIn_2 : decode cX7_homeIn 2 = .ok (.invokevirtual 153, 3) := by decide +kernel
theorem dX7_homeIn_5 : decode cX7_homeIn 5 = .ok (.ifCond .ne 5, 3) := by decide +kernel
theorem dX7_homeIn_8 : decode cX7_homeIn 8 = .ok (.iconst (-1), 1) := by decide +kernel
theorem dX7_homeIn_9 : decode cX7_homeIn 9 = .ok (.ireturn, 1) := by decide +kernel
theorem dX7_homeIn_10 : decode cX7_homeIn 10 = .ok (.aload_n 0, 1) := by decide +kernel
theorem dX7_homeIn_11 : decode cX7_homeIn 11 = .ok (.invokevirtual 199, 3) := by decide +kernel
theorem dX7_homeIn_14 : decode cX7_homeIn 14 = .ok (.iconst 0, 1) := by decide +kernel
theorem dX7_homeIn_15 : decode cX7_homeIn 15 = .ok (.istore_n 2, 1) := by decide +kernel
theorem dX7_homeIn_16 : decode cX7_homeIn 16 = .ok (.iload_n 2, 1) := by decide +kernel
theorem dX7_homeIn_17 : decode cX7_homeIn 17 = .ok (.sipush 500, 3) := by decide +kernel
theorem dX7_homeIn_20 : decode cX7_homeIn 20 = .ok (.if_icmp .gt 22, 3) := by decide +kernel
theorem dX7_homeIn_23 : decode cX7_homeIn 23 = .ok (.aload_n 0, 1) := by decide +kernel
theorem dX7_homeIn_24 : decode cX7_homeIn 24 = .ok (.iload_n 1, 1) := by decide +kernel
theorem dX7_homeIn_25 : decode cX7_homeIn 25 = .ok (.invokevirtual 95, 3) := by decide +kernel
theorem dX7_homeIn_28 : decode cX7_homeIn 28 = .ok (.ifCond .eq 14, 3) := by decide +kernel
theorem dX7_homeIn_31 : decode cX7_homeIn 31 = .ok (.aload_n 0, 1) := by decide +kernel
theorem dX7_homeIn_32 : decode cX7_homeIn 32 = .ok (.iload_n 1, 1) := by decide +kernel
theorem dX7_homeIn_33 : decode cX7_homeIn 33 = .ok (.invokevirtual 121, 3) := by decide +kernel
theorem dX7_homeIn_36 : decode cX7_homeIn 36 = .ok (.iinc 2 1, 3) := by decide +kernel
theorem dX7_homeIn_39 : decode cX7_homeIn 39 = .ok (.goto (-23), 3) := by decide +kernel
theorem dX7_homeIn_42 : decode cX7_homeIn 42 = .ok (.aload_n 0, 1) := by decide +kernel
theorem dX7_homeIn_43 : decode cX7_homeIn 43 = .ok (.invokevirtual 202, 3) := by decide +kernel
theorem dX7_homeIn_46 : decode cX7_homeIn 46 = .ok (.iload_n 2, 1) := by decide +kernel
theorem dX7_homeIn_47 : decode cX7_homeIn 47 = .ok (.sipush 500, 3) := by decide +kernel
theorem dX7_homeIn_50 : decode cX7_homeIn 50 = .ok (.if_icmp .gt 7, 3) := by decide +kernel
theorem dX7_homeIn_53 : decode cX7_homeIn 53 = .ok (.iload_n 2, 1) := by decide +kernel
theorem dX7_homeIn_54 : decode cX7_homeIn 54 = .ok (.goto 5, 3) := by decide +kernel
theorem dX7_homeIn_57 : decode cX7_homeIn 57 = .ok (.bipush (-6), 2) := by decide +kernel
theorem dX7_homeIn_59 : decode cX7_homeIn 59 = .ok (.ireturn, 1) := by decide +kernel
