theorem dX4_lampsThatAre_31 : decode cX4_lampsThatAre 31 = .ok (.iinc 3 1, 3) := by decide +kernel
theorem dX4_lampsThatAre_34 : decode cX4_lampsThatAre 34 = .ok (.goto (-30), 3) := by decide +kernel
theorem dX4_lampsThatAre_37 : decode cX4_lampsThatAre 37 = .ok (.iload_n 2, 1) := by decide +kernel
theorem dX4_lampsThatAre_38 : decode cX4_lampsThatAre 38 = .ok (.ireturn, 1) := by decide +kernel
theorem dX4_lampsThatLight_0 : decode cX4_lampsThatLight 0 = .ok (.iconst 0, 1) := by decide +kernel
theorem dX4_lampsThatLight_1 : decode cX4_lampsThatLight 1 = .ok (.istore_n 2, 1) := by decide +kernel
theorem dX4_lampsThatLight_2 : decode cX4_lampsThatLight 2 = .ok (.iconst 0, 1) := by decide +kernel
theorem dX4_lampsThatLight_3 : decode cX4_lampsThatLight 3 = .ok (.istore_n 3, 1) := by decide +kernel
theorem dX4_lampsThatLight_4 : decode cX4_lampsThatLight 4 = .ok (.iload_n 3, 1) := by decide +kernel
theorem dX4_lampsThatLight_5 : decode cX4_lampsThatLight 5 = .ok (.aload_n 0, 1) := by decide +kernel
theorem dX4_lampsThatLight_6 : decode cX4_lampsThatLight 6 = .ok (.getfield 45, 3) := by decide +kernel
theorem dX4_lampsThatLight_9 : decode cX4_lampsThatLight 9 = .ok (.if_icmp .ge 28, 3) := by decide +kernel
theorem dX4_lampsThatLight_12 : decode cX4_lampsThatLight 12 = .ok (.aload_n 0, 1) := by decide +kernel
theorem dX4_lampsThatLight_13 : decode cX4_lampsThatLight 13 = .ok (.getfield 17, 3) := by decide +kernel
theorem dX4_lampsThatLight_16 : decode cX4_lampsThatLight 16 = .ok (.iload_n 3, 1) := by decide +kernel
theorem dX4_lampsThatLight_17 : decode cX4_lampsThatLight 17 = .ok (.aaload, 1) := by decide +kernel
theorem dX4_lampsThatLight_18 : decode cX4_lampsThatLight 18 = .ok (.iload_n 1, 1) := by decide +kernel
theorem dX4_lampsThatLight_19 : decode cX4_lampsThatLight 19 = .ok (.invokevirtual 206, 3) := by decide +kernel
theorem dX4_lampsThatLight_22 : decode cX4_lampsThatLight 22 = .ok (.ifCond .eq 9, 3) := by decide +kernel
theorem dX4_lampsThatLight_25 : decode cX4_lampsThatLight 25 = .ok (.iload_n 2, 1) := by decide +kernel
theorem dX4_lampsThatLight_26 : decode cX4_lampsThatLight 26 = .ok (.iconst 1, 1) := by decide +kernel
theorem dX4_lampsThatLight_27 : decode cX4_lampsThatLight 27 = .ok (.iload_n 3, 1) := by decide +kernel
theorem dX4_lampsThatLight_28 : decode cX4_lampsThatLight 28 = .ok (.ishl, 1) := by decide +kernel
theorem dX4_lampsThatLight_29 : decode cX4_lampsThatLight 29 = .ok (.ior, 1) := by decide +kernel
theorem dX4_lampsThatLight_30 : decode cX4_lampsThatLight 30 = .ok (.istore_n 2, 1) := by decide +kernel
theorem dX4_lampsThatLight_31 : decode cX4_lampsThatLight 31 = .ok (.iinc 3 1, 3) := by decide +kernel
theorem dX4_lampsThatLight_34 : decode cX4_lampsThatLight 34 = .ok (.goto (-30), 3) := by decide +kernel
theorem dX4_lampsThatLight_37 : decode cX4_lampsThatLight 37 = .ok (.iload_n 2, 1) := by decide +kernel
theorem dX4_lampsThatLight_38 : decode cX4_lampsThatLight 38 = .ok (.ireturn, 1) := by decide +kernel
theorem dX4_walkersInStreet_0 : decode cX4_walkersInStreet 0 = .ok (.iconst 0, 1) := by decide +kernel
theorem dX4_walkersInStreet_1 : decode cX4_walkersInStreet 1 = .ok (.istore_n 1, 1) := by decide +kernel
theorem dX4_walkersInStreet_2 : decode cX4_walkersInStreet 2 = .ok (.iconst 0, 1) := by decide +kernel
theorem dX4_walkersInStreet_3 : decode cX4_walkersInStreet 3 = .ok (.istore_n 2, 1) := by decide +kernel
theorem dX4_walkersInStreet_4 : decode cX4_walkersInStreet 4 = .ok (.iload_n 2, 1) := by decide +kernel
theorem dX4_walkersInStreet_5 : decode cX4_walkersInStreet 5 = .ok (.aload_n 0, 1) := by decide +kernel
theorem dX4_walkersInStreet_6 : decode cX4_walkersInStreet 6 = .ok (.getfield 59, 3) := by decide +kernel
theorem dX4_walkersInStreet_9 : decode cX4_walkersInStreet 9 = .ok (.if_icmp .ge 24, 3) := by decide +kernel
theorem dX4_walkersInStreet_12 : decode cX4_walkersInStreet 12 = .ok (.aload_n 0, 1) := by decide +kernel
theorem dX4_walkersInStreet_13 : decode cX4_walkersInStreet 13 = .ok (.getfield 29, 3) := by decide +kernel
theorem dX4_walkersInStreet_16 : decode cX4_walkersInStreet 16 = .ok (.iload_n 2, 1) := by decide +kernel
theorem dX4_walkersInStreet_17 : decode cX4_walkersInStreet 17 = .ok (.aaload, 1) := by decide +kernel
theorem dX4_walkersInStreet_18 : decode cX4_walkersInStreet 18 = .ok (.getfield 159, 3) := by decide +kernel
theorem dX4_walkersInStreet_21 : decode cX4_walkersInStreet 21 = .ok (.ifCond .ne 6, 3) := by decide +kernel
theorem dX4_walkersInStreet_24 : decode cX4_walkersInStreet 24 = .ok (.iinc 1 1, 3) := by decide +kernel
theorem dX4_walkersInStreet_27 : decode cX4_walkersInStreet 27 = .ok (.iinc 2 1, 3) := by decide +kernel
theorem dX4_walkersInStreet_30 : decode cX4_walkersInStreet 30 = .ok (.goto (-26), 3) := by decide +kernel
theorem dX4_walkersInStreet_33 : decode cX4_walkersInStreet 33 = .ok (.iload_n 1, 1) := by decide +kernel
theorem dX4_walkersInStreet_34 : decode cX4_walkersInStreet 34 = .ok (.ireturn, 1) := by decide +kernel
theorem dX4_isDisturbed_0 : decode cX4_isDisturbed 0 = .ok (.iconst 0, 1) := by decide +kernel
theorem dX4_isDisturbed_1 : decode cX4_isDisturbed 1 = .ok (.istore_n 2, 1) := by decide +kernel
theorem dX4_isDisturbed_2 : decode cX4_isDisturbed 2 = .ok (.iload_n 2, 1) := by decide +kernel
theorem dX4_isDisturbed_3 : decode cX4_isDisturbed 3 = .ok (.aload_n 0, 1) := by decide +kernel
theorem dX4_isDisturbed_4 : decode cX4_isDisturbed 4 = .ok (.getfield 45, 3) := by decide +kernel
theorem dX4_isDisturbed_7 : decode cX4_isDisturbed 7 = .ok (.if_icmp .ge 27, 3) := by decide +kernel
theorem dX4_isDisturbed_10 : decode cX4_isDisturbed 10 = .ok (.aload_n 0, 1) := by decide +kernel
theorem dX4_isDisturbed_11 : decode cX4_isDisturbed 11 = .ok (.getfield 17, 3) := by decide +kernel
theorem dX4_isDisturbed_14 : decode cX4_isDisturbed 14 = .ok (.iload_n 2, 1) := by decide +kernel
theorem dX4_isDisturbed_15 : decode cX4_isDisturbed 15 = .ok (.aaload, 1) := by decide +kernel
theorem dX4_isDisturbed_16 : decode cX4_isDisturbed 16 = .ok (.aload_n 1, 1) := by decide +kernel
theorem dX4_isDisturbed_17 : decode cX4_isDisturbed 17 = .ok (.getfield 209, 3) := by decide +kernel
theorem dX4_isDisturbed_20 : decode cX4_isDisturbed 20 = .ok (.invokevirtual 210, 3) := by decide +kernel
theorem dX4_isDisturbed_23 : decode cX4_isDisturbed 23 = .ok (.ifCond .eq 5, 3) := by decide +kernel
theorem dX4_isDisturbed_26 : decode cX4_isDisturbed 26 = .ok (.iconst 1, 1) := by decide +kernel
theorem dX4_isDisturbed_27 : decode cX4_isDisturbed 27 = .ok (.ireturn, 1) := by decide +kernel
theorem dX4_isDisturbed_28 : decode cX4_isDisturbed 28 = .ok (.iinc 2 1, 3) := by decide +kernel
theorem dX4_isDisturbed_31 : decode cX4_isDisturbed 31 = .ok (.goto (-29), 3) := by decide +kernel
theorem dX4_isDisturbed_34 : decode cX4_isDisturbed 34 = .ok (.iconst 0, 1) := by decide +kernel
theorem dX4_isDisturbed_35 : decode cX4_isDisturbed 35 = .ok (.ireturn, 1) := by decide +kernel
theorem dX4_tellOfHouse_0 : decode cX4_tellOfHouse 0 = .ok (.iload_n 2, 1) := by decide +kernel
theorem dX4_tellOfHouse_1 : decode cX4_tellOfHouse 1 = .ok (.tableswitch 51 0 2 #[27, 32, 46], 27) := by decide +kernel
theorem dX4_tellOfHouse_28 : decode cX4_tellOfHouse 28 = .ok (.aload_n 1, 1) := by decide +kernel
theorem dX4_tellOfHouse_29 : decode cX4_tellOfHouse 29 = .ok (.getfield 209, 3) := by decide +kernel
theorem dX4_tellOfHouse_32 : decode cX4_tellOfHouse 32 = .ok (.ireturn, 1) := by decide +kernel
theorem dX4_tellOfHouse_33 : decode cX4_tellOfHouse 33 = .ok (.aload_n 0, 1) := by decide +kernel
theorem dX4_tellOfHouse_34 : decode cX4_tellOfHouse 34 = .ok (.aload_n 1, 1) := by decide +kernel
theorem dX4_tellOfHouse_35 : decode cX4_tellOfHouse 35 = .ok (.invokevirtual 182, 3) := by decide +kernel
theorem dX4_tellOfHouse_38 : decode cX4_tellOfHouse 38 = .ok (.ifCond .eq 7, 3) := by decide +kernel
theorem dX4_tellOfHouse_41 : decode cX4_tellOfHouse 41 = .ok (.iconst 1, 1) := by decide +kernel
theorem dX4_tellOfHouse_42 : decode cX4_tellOfHouse 42 = .ok (.goto 4, 3) := by decide +kernel
theorem dX4_tellOfHouse_45 : decode cX4_tellOfHouse 45 = .ok (.iconst 0, 1) := by decide +kernel
theorem dX4_tellOfHouse_46 : decode cX4_tellOfHouse 46 = .ok (.ireturn, 1) := by decide +kernel
theorem dX4_tellOfHouse_47 : decode cX4_tellOfHouse 47 = .ok (.aload_n 1, 1) := by decide +kernel
theorem dX4_tellOfHouse_48 : decode cX4_tellOfHouse 48 = .ok (.getfield 186, 3) := by decide +kernel
theorem dX4_tellOfHouse_51 : decode cX4_tellOfHouse 51 = .ok (.ireturn, 1) := by decide +kernel
theorem dX4_tellOfHouse_52 : decode cX4_tellOfHouse 52 = .ok (.bipush (-2), 2) := by decide +kernel
theorem dX4_tellOfHouse_54 : decode cX4_tellOfHouse 54 = .ok (.ireturn, 1) := by decide +kernel
theorem dX4_tellOfWalker_0 : decode cX4_tellOfWalker 0 = .ok (.iload_n 2, 1) := by decide +kernel
theorem dX4_tellOfWalker_1 : decode cX4_tellOfWalker 1 = .ok (.tableswitch 137 0 8 #[51, 56, 61, 74, 93, 98, 103, 108, 132], 51) := by decide +kernel
theorem dX4_tellOfWalker_52 : decode cX4_tellOfWalker 52 = .ok (.aload_n 1, 1) := by decide +kernel
theorem dX4_tellOfWalker_53 : decode cX4_tellOfWalker 53 = .ok (.getfield 163, 3) := by decide +kernel
theorem dX4_tellOfWalker_56 : decode cX4_tellOfWalker 56 = .ok (.ireturn, 1) := by decide +kernel
theorem dX4_tellOfWalker_57 : decode cX4_tellOfWalker 57 = .ok (.aload_n 1, 1) := by decide +kernel
theorem dX4_tellOfWalker_58 : decode cX4_tellOfWalker 58 = .ok (.getfield 213, 3) := by decide +kernel
theorem dX4_tellOfWalker_61 : decode cX4_tellOfWalker 61 = .ok (.ireturn, 1) := by decide +kernel
theorem dX4_tellOfWalker_62 : decode cX4_tellOfWalker 62 = .ok (.aload_n 1, 1) := by decide +kernel
theorem dX4_tellOfWalker_63 : decode cX4_tellOfWalker 63 = .ok (.getfield 159, 3) := by decide +kernel
theorem dX4_tellOfWalker_66 : decode cX4_tellOfWalker 66 = .ok (.ifCond .eq 7, 3) := by decide +kernel
theorem dX4_tellOfWalker_69 : decode cX4_tellOfWalker 69 = .ok (.iconst 1, 1) := by decide +kernel
theorem dX4_tellOfWalker_70 : decode cX4_tellOfWalker 70 = .ok (.goto 4, 3) := by decide +kernel
theorem dX4_tellOfWalker_73 : decode cX4_tellOfWalker 73 = .ok (.iconst 0, 1) := by decide +kernel
theorem dX4_tellOfWalker_74 : decode cX4_tellOfWalker 74 = .ok (.ireturn, 1) := by decide +kernel
theorem dX4_tellOfWalker_75 : decode cX4_tellOfWalker 75 = .ok (.aload_n 1, 1) := by decide +kernel
theorem dX4_tellOfWalker_76 : decode cX4_tellOfWalker 76 = .ok (.getfield 216, 3) := by decide +kernel
theorem dX4_tellOfWalker_79 : decode cX4_tellOfWalker 79 = .ok (.ifCond .le 12, 3) := by decide +kernel
theorem dX4_tellOfWalker_82 : decode cX4_tellOfWalker 82 = .ok (.aload_n 1, 1) := by decide +kernel
theorem dX4_tellOfWalker_83 : decode cX4_tellOfWalker 83 = .ok (.getfield 219, 3) := by decide +kernel
theorem dX4_tellOfWalker_86 : decode cX4_tellOfWalker 86 = .ok (.iconst 0, 1) := by decide +kernel
theorem dX4_tellOfWalker_87 : decode cX4_tellOfWalker 87 = .ok (.iaload, 1) := by decide +kernel
theorem dX4_tellOfWalker_88 : decode cX4_tellOfWalker 88 = .ok (.goto 5, 3) := by decide +kernel
theorem dX4_tellOfWalker_91 : decode cX4_tellOfWalker 91 = .ok (.bipush (-6), 2) := by decide +kernel
theorem dX4_tellOfWalker_93 : decode cX4_tellOfWalker 93 = .ok (.ireturn, 1) := by decide +kernel
theorem dX4_tellOfWalker_94 : decode cX4_tellOfWalker 94 = .ok (.aload_n 1, 1) := by decide +kernel
theorem dX4_tellOfWalker_95 : decode cX4_tellOfWalker 95 = .ok (.getfield 216, 3) := by decide +kernel
theorem dX4_tellOfWalker_98 : decode cX4_tellOfWalker 98 = .ok (.ireturn, 1) := by decide +kernel
theorem dX4_tellOfWalker_99 : decode cX4_tellOfWalker 99 = .ok (.aload_n 1, 1) := by decide +kernel
theorem dX4_tellOfWalker_100 : decode cX4_tellOfWalker 100 = .ok (.getfield 222, 3) := by decide +kernel
theorem dX4_tellOfWalker_103 : decode cX4_tellOfWalker 103 = .ok (.ireturn, 1) := by decide +kernel
theorem dX4_tellOfWalker_104 : decode cX4_tellOfWalker 104 = .ok (.aload_n 1, 1) := by decide +kernel
theorem dX4_tellOfWalker_105 : decode cX4_tellOfWalker 105 = .ok (.getfield 176, 3) := by decide +kernel
theorem dX4_tellOfWalker_108 : decode cX4_tellOfWalker 108 = .ok (.ireturn, 1) := by decide +kernel
theorem dX4_tellOfWalker_109 : decode cX4_tellOfWalker 109 = .ok (.aload_n 1, 1) := by decide +kernel
theorem dX4_tellOfWalker_110 : decode cX4_tellOfWalker 110 = .ok (.getfield 159, 3) := by decide +kernel
theorem dX4_tellOfWalker_113 : decode cX4_tellOfWalker 113 = .ok (.ifCond .ne 18, 3) := by decide +kernel
theorem dX4_tellOfWalker_116 : decode cX4_tellOfWalker 116 = .ok (.aload_n 0, 1) := by decide +kernel
theorem dX4_tellOfWalker_117 : decode cX4_tellOfWalker 117 = .ok (.aload_n 1, 1) := by decide +kernel
theorem dX4_tellOfWalker_118 : decode cX4_tellOfWalker 118 = .ok (.getfield 163, 3) := by decide +kernel
theorem dX4_tellOfWalker_121 : decode cX4_tellOfWalker 121 = .ok (.invokevirtual 173, 3) := by decide +kernel
theorem dX4_tellOfWalker_124 : decode cX4_tellOfWalker 124 = .ok (.ifCond .eq 7, 3) := by decide +kernel
theorem dX4_tellOfWalker_127 : decode cX4_tellOfWalker 127 = .ok (.iconst 1, 1) := by decide +kernel
theorem dX4_tellOfWalker_128 : decode cX4_tellOfWalker 128 = .ok (.goto 4, 3) := by decide +kernel
theorem dX4_tellOfWalker_131 : decode cX4_tellOfWalker 131 = .ok (.iconst 0, 1) := by decide +kernel
theorem dX4_tellOfWalker_132 : decode cX4_tellOfWalker 132 = .ok (.ireturn, 1) := by decide +kernel
theorem dX4_tellOfWalker_133 : decode cX4_tellOfWalker 133 = .ok (.aload_n 1, 1) := by decide +kernel
theorem dX4_tellOfWalker_134 : decode cX4_tellOfWalker 134 = .ok (.getfield 225, 3) := by decide +kernel
theorem dX4_tellOfWalker_137 : decode cX4_tellOfWalker 137 = .ok (.ireturn, 1) := by decide +kernel
theorem dX4_tellOfWalker_138 : decode cX4_tellOfWalker 138 = .ok (.bipush (-2), 2) := by decide +kernel
theorem dX4_tellOfWalker_140 : decode cX4_tellOfWalker 140 = .ok (.ireturn, 1) := by decide +kernel
theorem dX4_total_0 : decode cX4_total 0 = .ok (.iload_n 1, 1) := by decide +kernel
theorem dX4_total_1 : decode cX4_total 1 = .ok (.tableswitch 42 0 2 #[27, 32, 37], 27) := by decide +kernel
theorem dX4_total_28 : decode cX4_total 28 = .ok (.aload_n 0, 1) := by decide +kernel
theorem dX4_total_29 : decode cX4_total 29 = .ok (.invokevirtual 228, 3) := by decide +kernel
theorem dX4_total_32 : decode cX4_total 32 = .ok (.ireturn, 1) := by decide +kernel
theorem dX4_total_33 : decode cX4_total 33 = .ok (.aload_n 0, 1) := by decide +kernel
theorem dX4_total_34 : decode cX4_total 34 = .ok (.invokevirtual 232, 3) := by decide +kernel
theorem dX4_total_37 : decode cX4_total 37 = .ok (.ireturn, 1) := by decide +kernel
theorem dX4_total_38 : decode cX4_total 38 = .ok (.aload_n 0, 1) := by decide +kernel
theorem dX4_total_39 : decode cX4_total 39 = .ok (.invokevirtual 235, 3) := by decide +kernel
theorem dX4_total_42 : decode cX4_total 42 = .ok (.ireturn, 1) := by decide +kernel
theorem dX4_total_43 : decode cX4_total 43 = .ok (.aload_n 0, 1) := by decide +kernel
theorem dX4_total_44 : decode cX4_total 44 = .ok (.invokevirtual 238, 3) := by decide +kernel
theorem dX4_total_47 : decode cX4_total 47 = .ok (.ireturn, 1) := by decide +kernel
theorem dX4_darkTicks_0 : decode cX4_darkTicks 0 = .ok (.iconst 0, 1) := by decide +kernel
theorem dX4_darkTicks_1 : decode cX4_darkTicks 1 = .ok (.istore_n 1, 1) := by decide +kernel
theorem dX4_darkTicks_2 : decode cX4_darkTicks 2 = .ok (.iconst 0, 1) := by decide +kernel
theorem dX4_darkTicks_3 : decode cX4_darkTicks 3 = .ok (.istore_n 2, 1) := by decide +kernel
theorem dX4_darkTicks_4 : decode cX4_darkTicks 4 = .ok (.iload_n 2, 1) := by decide +kernel
theorem dX4_darkTicks_5 : decode cX4_darkTicks 5 = .ok (.aload_n 0, 1) := by decide +kernel
theorem dX4_darkTicks_6 : decode cX4_darkTicks 6 = .ok (.getfield 59, 3) := by decide +kernel
theorem dX4_darkTicks_9 : decode cX4_darkTicks 9 = .ok (.if_icmp .ge 21, 3) := by decide +kernel
theorem dX4_darkTicks_12 : decode cX4_darkTicks 12 = .ok (.iload_n 1, 1) := by decide +kernel
theorem dX4_darkTicks_13 : decode cX4_darkTicks 13 = .ok (.aload_n 0, 1) := by decide +kernel
theorem dX4_darkTicks_14 : decode cX4_darkTicks 14 = .ok (.getfield 29, 3) := by decide +kernel
theorem dX4_darkTicks_17 : decode cX4_darkTicks 17 = .ok (.iload_n 2, 1) := by decide +kernel
theorem dX4_darkTicks_18 : decode cX4_darkTicks 18 = .ok (.aaload, 1) := by decide +kernel
theorem dX4_darkTicks_19 : decode cX4_darkTicks 19 = .ok (.getfield 176, 3) := by decide +kernel
theorem dX4_darkTicks_22 : decode cX4_darkTicks 22 = .ok (.iadd, 1) := by decide +kernel
theorem dX4_darkTicks_23 : decode cX4_darkTicks 23 = .ok (.istore_n 1, 1) := by decide +kernel
theorem dX4_darkTicks_24 : decode cX4_darkTicks 24 = .ok (.iinc 2 1, 3) := by decide +kernel
theorem dX4_darkTicks_27 : decode cX4_darkTicks 27 = .ok (.goto (-23), 3) := by decide +kernel
theorem dX4_darkTicks_30 : decode cX4_darkTicks 30 = .ok (.iload_n 1, 1) := by decide +kernel
theorem dX4_darkTicks_31 : decode cX4_darkTicks 31 = .ok (.ireturn, 1) := by decide +kernel
theorem dX4_lightUnits_0 : decode cX4_lightUnits 0 = .ok (.iconst 0, 1) := by decide +kernel
theorem dX4_lightUnits_1 : decode cX4_lightUnits 1 = .ok (.istore_n 1, 1) := by decide +kernel
theorem dX4_lightUnits_2 : decode cX4_lightUnits 2 = .ok (.iconst 0, 1) := by decide +kernel
theorem dX4_lightUnits_3 : decode cX4_lightUnits 3 = .ok (.istore_n 2, 1) := by decide +kernel
theorem dX4_lightUnits_4 : decode cX4_lightUnits 4 = .ok (.iload_n 2, 1) := by decide +kernel
theorem dX4_lightUnits_5 : decode cX4_lightUnits 5 = .ok (.aload_n 0, 1) := by decide +kernel
theorem dX4_lightUnits_6 : decode cX4_lightUnits 6 = .ok (.getfield 45, 3) := by decide +kernel
theorem dX4_lightUnits_9 : decode cX4_lightUnits 9 = .ok (.if_icmp .ge 21, 3) := by decide +kernel
theorem dX4_lightUnits_12 : decode cX4_lightUnits 12 = .ok (.iload_n 1, 1) := by decide +kernel
theorem dX4_lightUnits_13 : decode cX4_lightUnits 13 = .ok (.aload_n 0, 1) := by decide +kernel
theorem dX4_lightUnits_14 : decode cX4_lightUnits 14 = .ok (.getfield 17, 3) := by decide +kernel
theorem dX4_lightUnits_17 : decode cX4_lightUnits 17 = .ok (.iload_n 2, 1) := by decide +kernel
theorem dX4_lightUnits_18 : decode cX4_lightUnits 18 = .ok (.aaload, 1) := by decide +kernel
theorem dX4_lightUnits_19 : decode cX4_lightUnits 19 = .ok (.getfield 241, 3) := by decide +kernel
theorem dX4_lightUnits_22 : decode cX4_lightUnits 22 = .ok (.iadd, 1) := by decide +kernel
theorem dX4_lightUnits_23 : decode cX4_lightUnits 23 = .ok (.istore_n 1, 1) := by decide +kernel
theorem dX4_lightUnits_24 : decode cX4_lightUnits 24 = .ok (.iinc 2 1, 3) := by decide +kernel
theorem dX4_lightUnits_27 : decode cX4_lightUnits 27 = .ok (.goto (-23), 3) := by decide +kernel
theorem dX4_lightUnits_30 : decode cX4_lightUnits 30 = .ok (.iload_n 1, 1) := by decide +kernel
theorem dX4_lightUnits_31 : decode cX4_lightUnits 31 = .ok (.ireturn, 1) := by decide +kernel
theorem dX4_disturbedTicks_0 : decode cX4_disturbedTicks 0 = .ok (.iconst 0, 1) := by decide +kernel
theorem dX4_disturbedTicks_1 : decode cX4_disturbedTicks 1 = .ok (.istore_n 1, 1) := by decide +kernel
theorem dX4_disturbedTicks_2 : decode cX4_disturbedTicks 2 = .ok (.iconst 0, 1) := by decide +kernel
theorem dX4_disturbedTicks_3 : decode cX4_disturbedTicks 3 = .ok (.istore_n 2, 1) := by decide +kernel
theorem dX4_disturbedTicks_4 : decode cX4_disturbedTicks 4 = .ok (.iload_n 2, 1) := by decide +kernel
theorem dX4_disturbedTicks_5 : decode cX4_disturbedTicks 5 = .ok (.aload_n 0, 1) := by decide +kernel
theorem dX4_disturbedTicks_6 : decode cX4_disturbedTicks 6 = .ok (.getfield 53, 3) := by decide +kernel
theorem dX4_disturbedTicks_9 : decode cX4_disturbedTicks 9 = .ok (.if_icmp .ge 21, 3) := by decide +kernel
theorem dX4_disturbedTicks_12 : decode cX4_disturbedTicks 12 = .ok (.iload_n 1, 1) := by decide +kernel
theorem dX4_disturbedTicks_13 : decode cX4_disturbedTicks 13 = .ok (.aload_n 0, 1) := by decide +kernel
theorem dX4_disturbedTicks_14 : decode cX4_disturbedTicks 14 = .ok (.getfield 23, 3) := by decide +kernel
theorem dX4_disturbedTicks_17 : decode cX4_disturbedTicks 17 = .ok (.iload_n 2, 1) := by decide +kernel
theorem dX4_disturbedTicks_18 : decode cX4_disturbedTicks 18 = .ok (.aaload, 1) := by decide +kernel
theorem dX4_disturbedTicks_19 : decode cX4_disturbedTicks 19 = .ok (.getfield 186, 3) := by decide +kernel
theorem dX4_disturbedTicks_22 : decode cX4_disturbedTicks 22 = .ok (.iadd, 1) := by decide +kernel
theorem dX4_disturbedTicks_23 : decode cX4_disturbedTicks 23 = .ok (.istore_n 1, 1) := by decide +kernel
theorem dX4_disturbedTicks_24 : decode cX4_disturbedTicks 24 = .ok (.iinc 2 1, 3) := by decide +kernel
theorem dX4_disturbedTicks_27 : decode cX4_disturbedTicks 27 = .ok (.goto (-23), 3) := by decide +kernel
theorem dX4_disturbedTicks_30 : decode cX4_disturbedTicks 30 = .ok (.iload_n 1, 1) := by decide +kernel
theorem dX4_disturbedTicks_31 : decode cX4_disturbedTicks 31 = .ok (.ireturn, 1) := by decide +kernel
theorem dX4_coughsSoFar_0 : decode cX4_coughsSoFar 0 = .ok (.iconst 0, 1) := by decide +kernel
theorem dX4_coughsSoFar_1 : decode cX4_coughsSoFar 1 = .ok (.istore_n 1, 1) := by decide +kernel
theorem dX4_coughsSoFar_2 : decode cX4_coughsSoFar 2 = .ok (.iconst 0, 1) := by decide +kernel
theorem dX4_coughsSoFar_3 : decode cX4_coughsSoFar 3 = .ok (.istore_n 2, 1) := by decide +kernel
theorem dX4_coughsSoFar_4 : decode cX4_coughsSoFar 4 = .ok (.iload_n 2, 1) := by decide +kernel
theorem dX4_coughsSoFar_5 : decode cX4_coughsSoFar 5 = .ok (.aload_n 0, 1) := by decide +kernel
theorem dX4_coughsSoFar_6 : decode cX4_coughsSoFar 6 = .ok (.getfield 45, 3) := by decide +kernel
theorem dX4_coughsSoFar_9 : decode cX4_coughsSoFar 9 = .ok (.if_icmp .ge 21, 3) := by decide +kernel
theorem dX4_coughsSoFar_12 : decode cX4_coughsSoFar 12 = .ok (.iload_n 1, 1) := by decide +kernel
theorem dX4_coughsSoFar_13 : decode cX4_coughsSoFar 13 = .ok (.aload_n 0, 1) := by decide +kernel
theorem dX4_coughsSoFar_14 : decode cX4_coughsSoFar 14 = .ok (.getfield 17, 3) := by decide +kernel
theorem dX4_coughsSoFar_17 : decode cX4_coughsSoFar 17 = .ok (.iload_n 2, 1) := by decide +kernel
theorem dX4_coughsSoFar_18 : decode cX4_coughsSoFar 18 = .ok (.aaload, 1) := by decide +kernel
theorem dX4_coughsSoFar_19 : decode cX4_coughsSoFar 19 = .ok (.getfield 192, 3) := by decide +kernel
theorem dX4_coughsSoFar_22 : decode cX4_coughsSoFar 22 = .ok (.iadd, 1) := by decide +kernel
theorem dX4_coughsSoFar_23 : decode cX4_coughsSoFar 23 = .ok (.istore_n 1, 1) := by decide +kernel
theorem dX4_coughsSoFar_24 : decode cX4_coughsSoFar 24 = .ok (.iinc 2 1, 3) := by decide +kernel
theorem dX4_coughsSoFar_27 : decode cX4_coughsSoFar 27 = .ok (.goto (-23), 3) := by decide +kernel
theorem dX4_coughsSoFar_30 : decode cX4_coughsSoFar 30 = .ok (.iload_n 1, 1) := by decide +kernel
theorem dX4_coughsSoFar_31 : decode cX4_coughsSoFar 31 = .ok (.ireturn, 1) := by decide +kernel
theorem dX5_init_0 : decode cX5_init 0 = .ok (.aload_n 0, 1) := by decide +kernel
theorem dX5_init_1 : decode cX5_init 1 = .ok (.invokespecial 3, 3) := by decide +kernel
theorem dX5_init_4 : decode cX5_init 4 = .ok (.aload_n 0, 1) := by decide +kernel
theorem dX5_init_5 : decode cX5_init 5 = .ok (.bipush 6, 2) := by decide +kernel
theorem dX5_init_7 : decode cX5_init 7 = .ok (.newarray .int, 2) := by decide +kernel
theorem dX5_init_9 : decode cX5_init 9 = .ok (.putfield 9, 3) := by decide +kernel
theorem dX5_init_12 : decode cX5_init 12 = .ok (.aload_n 0, 1) := by decide +kernel
theorem dX5_init_13 : decode cX5_init 13 = .ok (.bipush 6, 2) := by decide +kernel
theorem dX5_init_15 : decode cX5_init 15 = .ok (.newarray .int, 2) := by decide +kernel
theorem dX5_init_17 : decode cX5_init 17 = .ok (.putfield 15, 3) := by decide +kernel
theorem dX5_init_20 : decode cX5_init 20 = .ok (.return_, 1) := by decide +kernel
theorem dX5_place_0 : decode cX5_place 0 = .ok (.aload_n 0, 1) := by decide +kernel
theorem dX5_place_1 : decode cX5_place 1 = .ok (.iconst 0, 1) := by decide +kernel
theorem dX5_place_2 : decode cX5_place 2 = .ok (.putfield 18, 3) := by decide +kernel
theorem dX5_place_5 : decode cX5_place 5 = .ok (.aload_n 0, 1) := by decide +kernel
theorem dX5_place_6 : decode cX5_place 6 = .ok (.iload_n 1, 1) := by decide +kernel
theorem dX5_place_7 : decode cX5_place 7 = .ok (.putfield 22, 3) := by decide +kernel
theorem dX5_place_10 : decode cX5_place 10 = .ok (.aload_n 0, 1) := by decide +kernel
theorem dX5_place_11 : decode cX5_place 11 = .ok (.iload_n 2, 1) := by decide +kernel
theorem dX5_place_12 : decode cX5_place 12 = .ok (.putfield 25, 3) := by decide +kernel
theorem dX5_place_15 : decode cX5_place 15 = .ok (.aload_n 0, 1) := by decide +kernel
theorem dX5_place_16 : decode cX5_place 16 = .ok (.iconst 0, 1) := by decide +kernel
theorem dX5_place_17 : decode cX5_place 17 = .ok (.putfield 28, 3) := by decide +kernel
theorem dX5_place_20 : decode cX5_place 20 = .ok (.aload_n 0, 1) := by decide +kernel
theorem dX5_place_21 : decode cX5_place 21 = .ok (.bipush (-6), 2) := by decide +kernel
theorem dX5_place_23 : decode cX5_place 23 = .ok (.putfield 32, 3) := by decide +kernel
theorem dX5_place_26 : decode cX5_place 26 = .ok (.aload_n 0, 1) := by decide +kernel
theorem dX5_place_27 : decode cX5_place 27 = .ok (.iconst 0, 1) := by decide +kernel
theorem dX5_place_28 : decode cX5_place 28 = .ok (.putfield 35, 3) := by decide +kernel
theorem dX5_place_31 : decode cX5_place 31 = .ok (.aload_n 0, 1) := by decide +kernel
theorem dX5_place_32 : decode cX5_place 32 = .ok (.iconst 0, 1) := by decide +kernel
theorem dX5_place_33 : decode cX5_place 33 = .ok (.putfield 38, 3) := by decide +kernel
theorem dX5_place_36 : decode cX5_place 36 = .ok (.return_, 1) := by decide +kernel
theorem dX5_copyFrom_0 : decode cX5_copyFrom 0 = .ok (.aload_n 1, 1) := by decide +kernel
theorem dX5_copyFrom_1 : decode cX5_copyFrom 1 = .ok (.getfield 9, 3) := by decide +kernel
theorem dX5_copyFrom_4 : decode cX5_copyFrom 4 = .ok (.iconst 0, 1) := by decide +kernel
theorem dX5_copyFrom_5 : decode cX5_copyFrom 5 = .ok (.aload_n 0, 1) := by decide +kernel
theorem dX5_copyFrom_6 : decode cX5_copyFrom 6 = .ok (.getfield 9, 3) := by decide +kernel
theorem dX5_copyFrom_9 : decode cX5_copyFrom 9 = .ok (.iconst 0, 1) := by decide +kernel
theorem dX5_copyFrom_10 : decode cX5_copyFrom 10 = .ok (.bipush 6, 2) := by decide +kernel
theorem dX5_copyFrom_12 : decode cX5_copyFrom 12 = .ok (.invokestatic 41, 3) := by decide +kernel
theorem dX5_copyFrom_15 : decode cX5_copyFrom 15 = .ok (.aload_n 1, 1) := by decide +kernel
theorem dX5_copyFrom_16 : decode cX5_copyFrom 16 = .ok (.getfield 15, 3) := by decide +kernel
theorem dX5_copyFrom_19 : decode cX5_copyFrom 19 = .ok (.iconst 0, 1) := by decide +kernel
theorem dX5_copyFrom_20 : decode cX5_copyFrom 20 = .ok (.aload_n 0, 1) := by decide +kernel
theorem dX5_copyFrom_21 : decode cX5_copyFrom 21 = .ok (.getfield 15, 3) := by decide +kernel
theorem dX5_copyFrom_24 : decode cX5_copyFrom 24 = .ok (.iconst 0, 1) := by decide +kernel
theorem dX5_copyFrom_25 : decode cX5_copyFrom 25 = .ok (.bipush 6, 2) := by decide +kernel
theorem dX5_copyFrom_27 : decode cX5_copyFrom 27 = .ok (.invokestatic 41, 3) := by decide +kernel
theorem dX5_copyFrom_30 : decode cX5_copyFrom 30 = .ok (.aload_n 0, 1) := by decide +kernel
theorem dX5_copyFrom_31 : decode cX5_copyFrom 31 = .ok (.aload_n 1, 1) := by decide +kernel
theorem dX5_copyFrom_32 : decode cX5_copyFrom 32 = .ok (.getfield 18, 3) := by decide +kernel
theorem dX5_copyFrom_35 : decode cX5_copyFrom 35 = .ok (.putfield 18, 3) := by decide +kernel
theorem dX5_copyFrom_38 : decode cX5_copyFrom 38 = .ok (.aload_n 0, 1) := by decide +kernel
theorem dX5_copyFrom_39 : decode cX5_copyFrom 39 = .ok (.aload_n 1, 1) := by decide +kernel
theorem dX5_copyFrom_40 : decode cX5_copyFrom 40 = .ok (.getfield 22, 3) := by decide +kernel
theorem dX5_copyFrom_43 : decode cX5_copyFrom 43 = .ok (.putfield 22, 3) := by decide +kernel
theorem dX5_copyFrom_46 : decode cX5_copyFrom 46 = .ok (.aload_n 0, 1) := by decide +kernel
theorem dX5_copyFrom_47 : decode cX5_copyFrom 47 = .ok (.aload_n 1, 1) := by decide +kernel
theorem dX5_copyFrom_48 : decode cX5_copyFrom 48 = .ok (.getfield 25, 3) := by decide +kernel
theorem dX5_copyFrom_51 : decode cX5_copyFrom 51 = .ok (.putfield 25, 3) := by decide +kernel
theorem dX5_copyFrom_54 : decode cX5_copyFrom 54 = .ok (.aload_n 0, 1) := by decide +kernel
theorem dX5_copyFrom_55 : decode cX5_copyFrom 55 = .ok (.aload_n 1, 1) := by decide +kernel
theorem dX5_copyFrom_56 : decode cX5_copyFrom 56 = .ok (.getfield 28, 3) := by decide +kernel
theorem dX5_copyFrom_59 : decode cX5_copyFrom 59 = .ok (.putfield 28, 3) := by decide +kernel
theorem dX5_copyFrom_62 : decode cX5_copyFrom 62 = .ok (.aload_n 0, 1) := by decide +kernel
theorem dX5_copyFrom_63 : decode cX5_copyFrom 63 = .ok (.aload_n 1, 1) := by decide +kernel
theorem dX5_copyFrom_64 : decode cX5_copyFrom 64 = .ok (.getfield 32, 3) := by decide +kernel
theorem dX5_copyFrom_67 : decode cX5_copyFrom 67 = .ok (.putfield 32, 3) := by decide +kernel
theorem dX5_copyFrom_70 : decode cX5_copyFrom 70 = .ok (.aload_n 0, 1) := by decide +kernel
theorem dX5_copyFrom_71 : decode cX5_copyFrom 71 = .ok (.aload_n 1, 1) := by decide +kernel
theorem dX5_copyFrom_72 : decode cX5_copyFrom 72 = .ok (.getfield 35, 3) := by decide +kernel
theorem dX5_copyFrom_75 : decode cX5_copyFrom 75 = .ok (.putfield 35, 3) := by decide +kernel
theorem dX5_copyFrom_78 : decode cX5_copyFrom 78 = .ok (.aload_n 0, 1) := by decide +kernel
theorem dX5_copyFrom_79 : decode cX5_copyFrom 79 = .ok (.aload_n 1, 1) := by decide +kernel
theorem dX5_copyFrom_80 : decode cX5_copyFrom 80 = .ok (.getfield 38, 3) := by decide +kernel
theorem dX5_copyFrom_83 : decode cX5_copyFrom 83 = .ok (.putfield 38, 3) := by decide +kernel
theorem dX5_copyFrom_86 : decode cX5_copyFrom 86 = .ok (.return_, 1) := by decide +kernel
theorem dX5_addGoal_0 : decode cX5_addGoal 0 = .ok (.aload_n 0, 1) := by decide +kernel
theorem dX5_addGoal_1 : decode cX5_addGoal 1 = .ok (.getfield 18, 3) := by decide +kernel
theorem dX5_addGoal_4 : decode cX5_addGoal 4 = .ok (.bipush 6, 2) := by decide +kernel
theorem dX5_addGoal_6 : decode cX5_addGoal 6 = .ok (.if_icmp .lt 6, 3) := by decide +kernel
theorem dX5_addGoal_9 : decode cX5_addGoal 9 = .ok (.bipush (-4), 2) := by decide +kernel
theorem dX5_addGoal_11 : decode cX5_addGoal 11 = .ok (.ireturn, 1) := by decide +kernel
theorem dX5_addGoal_12 : decode cX5_addGoal 12 = .ok (.aload_n 0, 1) := by decide +kernel
theorem dX5_addGoal_13 : decode cX5_addGoal 13 = .ok (.getfield 28, 3) := by decide +kernel
theorem dX5_addGoal_16 : decode cX5_addGoal 16 = .ok (.ifCond .eq 6, 3) := by decide +kernel
theorem dX5_addGoal_19 : decode cX5_addGoal 19 = .ok (.bipush (-5), 2) := by decide +kernel
theorem dX5_addGoal_21 : decode cX5_addGoal 21 = .ok (.ireturn, 1) := by decide +kernel
theorem dX5_addGoal_22 : decode cX5_addGoal 22 = .ok (.aload_n 0, 1) := by decide +kernel
theorem dX5_addGoal_23 : decode cX5_addGoal 23 = .ok (.getfield 9, 3) := by decide +kernel
theorem dX5_addGoal_26 : decode cX5_addGoal 26 = .ok (.aload_n 0, 1) := by decide +kernel
theorem dX5_addGoal_27 : decode cX5_addGoal 27 = .ok (.getfield 18, 3) := by decide +kernel
theorem dX5_addGoal_30 : decode cX5_addGoal 30 = .ok (.iload_n 1, 1) := by decide +kernel
theorem dX5_addGoal_31 : decode cX5_addGoal 31 = .ok (.iastore, 1) := by decide +kernel
theorem dX5_addGoal_32 : decode cX5_addGoal 32 = .ok (.aload_n 0, 1) := by decide +kernel
theorem dX5_addGoal_33 : decode cX5_addGoal 33 = .ok (.getfield 15, 3) := by decide +kernel
theorem dX5_addGoal_36 : decode cX5_addGoal 36 = .ok (.aload_n 0, 1) := by decide +kernel
theorem dX5_addGoal_37 : decode cX5_addGoal 37 = .ok (.getfield 18, 3) := by decide +kernel
theorem dX5_addGoal_40 : decode cX5_addGoal 40 = .ok (.iload_n 2, 1) := by decide +kernel
theorem dX5_addGoal_41 : decode cX5_addGoal 41 = .ok (.iastore, 1) := by decide +kernel
theorem dX5_addGoal_42 : decode cX5_addGoal 42 = .ok (.aload_n 0, 1) := by decide +kernel
theorem dX5_addGoal_43 : decode cX5_addGoal 43 = .ok (.dup, 1) := by decide +kernel
theorem dX5_addGoal_44 : decode cX5_addGoal 44 = .ok (.getfield 18, 3) := by decide +kernel
theorem dX5_addGoal_47 : decode cX5_addGoal 47 = .ok (.iconst 1, 1) := by decide +kernel
theorem dX5_addGoal_48 : decode cX5_addGoal 48 = .ok (.iadd, 1) := by decide +kernel
theorem dX5_addGoal_49 : decode cX5_addGoal 49 = .ok (.putfield 18, 3) := by decide +kernel
theorem dX5_addGoal_52 : decode cX5_addGoal 52 = .ok (.aload_n 0, 1) := by decide +kernel
theorem dX5_addGoal_53 : decode cX5_addGoal 53 = .ok (.getfield 18, 3) := by decide +kernel
theorem dX5_addGoal_56 : decode cX5_addGoal 56 = .ok (.ireturn, 1) := by decide +kernel
theorem dX5_go_0 : decode cX5_go 0 = .ok (.aload_n 0, 1) := by decide +kernel
theorem dX5_go_1 : decode cX5_go 1 = .ok (.getfield 18, 3) := by decide +kernel
theorem dX5_go_4 : decode cX5_go 4 = .ok (.ifCond .ne 4, 3) := by decide +kernel
theorem dX5_go_7 : decode cX5_go 7 = .ok (.return_, 1) := by decide +kernel
theorem dX5_go_8 : decode cX5_go 8 = .ok (.aload_n 0, 1) := by decide +kernel
theorem dX5_go_9 : decode cX5_go 9 = .ok (.getfield 32, 3) := by decide +kernel
theorem dX5_go_12 : decode cX5_go 12 = .ok (.bipush (-6), 2) := by decide +kernel
theorem dX5_go_14 : decode cX5_go 14 = .ok (.if_icmp .eq 31, 3) := by decide +kernel
theorem dX5_go_17 : decode cX5_go 17 = .ok (.aload_n 0, 1) := by decide +kernel
theorem dX5_go_18 : decode cX5_go 18 = .ok (.dup, 1) := by decide +kernel
theorem dX5_go_19 : decode cX5_go 19 = .ok (.getfield 32, 3) := by decide +kernel
theorem dX5_go_22 : decode cX5_go 22 = .ok (.iconst 1, 1) := by decide +kernel
theorem dX5_go_23 : decode cX5_go 23 = .ok (.iadd, 1) := by decide +kernel
theorem dX5_go_24 : decode cX5_go 24 = .ok (.putfield 32, 3) := by decide +kernel
theorem dX5_go_27 : decode cX5_go 27 = .ok (.aload_n 0, 1) := by decide +kernel
theorem dX5_go_28 : decode cX5_go 28 = .ok (.getfield 32, 3) := by decide +kernel
theorem dX5_go_31 : decode cX5_go 31 = .ok (.aload_n 0, 1) := by decide +kernel
theorem dX5_go_32 : decode cX5_go 32 = .ok (.getfield 15, 3) := by decide +kernel
theorem dX5_go_35 : decode cX5_go 35 = .ok (.iconst 0, 1) := by decide +kernel
theorem dX5_go_36 : decode cX5_go 36 = .ok (.iaload, 1) := by decide +kernel
theorem dX5_go_37 : decode cX5_go 37 = .ok (.if_icmp .lt 7, 3) := by decide +kernel
theorem dX5_go_40 : decode cX5_go 40 = .ok (.aload_n 0, 1) := by decide +kernel
theorem dX5_go_41 : decode cX5_go 41 = .ok (.invokevirtual 47, 3) := by decide +kernel
theorem dX5_go_44 : decode cX5_go 44 = .ok (.return_, 1) := by decide +kernel
theorem dX5_go_45 : decode cX5_go 45 = .ok (.aload_n 0, 1) := by decide +kernel
theorem dX5_go_46 : decode cX5_go 46 = .ok (.getfield 9, 3) := by decide +kernel
theorem dX5_go_49 : decode cX5_go 49 = .ok (.iconst 0, 1) := by decide +kernel
theorem dX5_go_50 : decode cX5_go 50 = .ok (.iaload, 1) := by decide +kernel
theorem dX5_go_51 : decode cX5_go 51 = .ok (.aload_n 0, 1) := by decide +kernel
theorem dX5_go_52 : decode cX5_go 52 = .ok (.getfield 22, 3) := by decide +kernel
theorem dX5_go_55 : decode cX5_go 55 = .ok (.isub, 1) := by decide +kernel
theorem dX5_go_56 : decode cX5_go 56 = .ok (.istore_n 1, 1) := by decide +kernel
theorem dX5_go_57 : decode cX5_go 57 = .ok (.aload_n 0, 1) := by decide +kernel
theorem dX5_go_58 : decode cX5_go 58 = .ok (.getfield 25, 3) := by decide +kernel
theorem dX5_go_61 : decode cX5_go 61 = .ok (.ineg, 1) := by decide +kernel
theorem dX5_go_62 : decode cX5_go 62 = .ok (.aload_n 0, 1) := by decide +kernel
theorem dX5_go_63 : decode cX5_go 63 = .ok (.getfield 25, 3) := by decide +kernel
theorem dX5_go_66 : decode cX5_go 66 = .ok (.iload_n 1, 1) := by decide +kernel
theorem dX5_go_67 : decode cX5_go 67 = .ok (.invokestatic 50, 3) := by decide +kernel
theorem dX5_go_70 : decode cX5_go 70 = .ok (.invokestatic 56, 3) := by decide +kernel
theorem dX5_go_73 : decode cX5_go 73 = .ok (.istore_n 2, 1) := by decide +kernel
theorem dX5_go_74 : decode cX5_go 74 = .ok (.aload_n 0, 1) := by decide +kernel
theorem dX5_go_75 : decode cX5_go 75 = .ok (.dup, 1) := by decide +kernel
theorem dX5_go_76 : decode cX5_go 76 = .ok (.getfield 22, 3) := by decide +kernel
theorem dX5_go_79 : decode cX5_go 79 = .ok (.iload_n 2, 1) := by decide +kernel
theorem dX5_go_80 : decode cX5_go 80 = .ok (.iadd, 1) := by decide +kernel
theorem dX5_go_81 : decode cX5_go 81 = .ok (.putfield 22, 3) := by decide +kernel
theorem dX5_go_84 : decode cX5_go 84 = .ok (.aload_n 0, 1) := by decide +kernel
theorem dX5_go_85 : decode cX5_go 85 = .ok (.dup, 1) := by decide +kernel
theorem dX5_go_86 : decode cX5_go 86 = .ok (.getfield 38, 3) := by decide +kernel
theorem dX5_go_89 : decode cX5_go 89 = .ok (.iload_n 2, 1) := by decide +kernel
theorem dX5_go_90 : decode cX5_go 90 = .ok (.invokestatic 59, 3) := by decide +kernel
theorem dX5_go_93 : decode cX5_go 93 = .ok (.iadd, 1) := by decide +kernel
theorem dX5_go_94 : decode cX5_go 94 = .ok (.putfield 38, 3) := by decide +kernel
theorem dX5_go_97 : decode cX5_go 97 = .ok (.iload_n 2, 1) := by decide +kernel
theorem dX5_go_98 : decode cX5_go 98 = .ok (.iload_n 1, 1) := by decide +kernel
theorem dX5_go_99 : decode cX5_go 99 = .ok (.if_icmp .ne 7, 3) := by decide +kernel
theorem dX5_go_102 : decode cX5_go 102 = .ok (.aload_n 0, 1) := by decide +kernel
theorem dX5_go_103 : decode cX5_go 103 = .ok (.invokevirtual 63, 3) := by decide +kernel
theorem dX5_go_106 : decode cX5_go 106 = .ok (.return_, 1) := by decide +kernel
theorem dX5_arrive_0 : decode cX5_arrive 0 = .ok (.aload_n 0, 1) := by decide +kernel
theorem dX5_arrive_1 : decode cX5_arrive 1 = .ok (.getfield 15, 3) := by decide +kernel
theorem dX5_arrive_4 : decode cX5_arrive 4 = .ok (.iconst 0, 1) := by decide +kernel
theorem dX5_arrive_5 : decode cX5_arrive 5 = .ok (.iaload, 1) := by decide +kernel
theorem dX5_arrive_6 : decode cX5_arrive 6 = .ok (.ifCond .le 11, 3) := by decide +kernel
theorem dX5_arrive_9 : decode cX5_arrive 9 = .ok (.aload_n 0, 1) := by decide +kernel
theorem dX5_arrive_10 : decode cX5_arrive 10 = .ok (.iconst 0, 1) := by decide +kernel
theorem dX5_arrive_11 : decode cX5_arrive 11 = .ok (.putfield 32, 3) := by decide +kernel
theorem dX5_arrive_14 : decode cX5_arrive 14 = .ok (.goto 7, 3) := by decide +kernel
theorem dX5_arrive_17 : decode cX5_arrive 17 = .ok (.aload_n 0, 1) := by decide +kernel
theorem dX5_arrive_18 : decode cX5_arrive 18 = .ok (.invokevirtual 47, 3) := by decide +kernel
theorem dX5_arrive_21 : decode cX5_arrive 21 = .ok (.return_, 1) := by decide +kernel
theorem dX5_finishGoal_0 : decode cX5_finishGoal 0 = .ok (.aload_n 0, 1) := by decide +kernel
theorem dX5_finishGoal_1 : decode cX5_finishGoal 1 = .ok (.bipush (-6), 2) := by decide +kernel
theorem dX5_finishGoal_3 : decode cX5_finishGoal 3 = .ok (.putfield 32, 3) := by decide +kernel
theorem dX5_finishGoal_6 : decode cX5_finishGoal 6 = .ok (.aload_n 0, 1) := by decide +kernel
theorem dX5_finishGoal_7 : decode cX5_finishGoal 7 = .ok (.dup, 1) := by decide +kernel
theorem dX5_finishGoal_8 : decode cX5_finishGoal 8 = .ok (.getfield 18, 3) := by decide +kernel
theorem dX5_finishGoal_11 : decode cX5_finishGoal 11 = .ok (.iconst 1, 1) := by decide +kernel
theorem dX5_finishGoal_12 : decode cX5_finishGoal 12 = .ok (.isub, 1) := by decide +kernel
theorem dX5_finishGoal_13 : decode cX5_finishGoal 13 = .ok (.putfield 18, 3) := by decide +kernel
theorem dX5_finishGoal_16 : decode cX5_finishGoal 16 = .ok (.aload_n 0, 1) := by decide +kernel
theorem dX5_finishGoal_17 : decode cX5_finishGoal 17 = .ok (.getfield 9, 3) := by decide +kernel
theorem dX5_finishGoal_20 : decode cX5_finishGoal 20 = .ok (.iconst 1, 1) := by decide +kernel
theorem dX5_finishGoal_21 : decode cX5_finishGoal 21 = .ok (.aload_n 0, 1) := by decide +kernel
theorem dX5_finishGoal_22 : decode cX5_finishGoal 22 = .ok (.getfield 9, 3) := by decide +kernel
theorem dX5_finishGoal_25 : decode cX5_finishGoal 25 = .ok (.iconst 0, 1) := by decide +kernel
theorem dX5_finishGoal_26 : decode cX5_finishGoal 26 = .ok (.iconst 5, 1) := by decide +kernel
theorem dX5_finishGoal_27 : decode cX5_finishGoal 27 = .ok (.invokestatic 41, 3) := by decide +kernel
theorem dX5_finishGoal_30 : decode cX5_finishGoal 30 = .ok (.aload_n 0, 1) := by decide +kernel
theorem dX5_finishGoal_31 : decode cX5_finishGoal 31 = .ok (.getfield 15, 3) := by decide +kernel
theorem dX5_finishGoal_34 : decode cX5_finishGoal 34 = .ok (.iconst 1, 1) := by decide +kernel
theorem dX5_finishGoal_35 : decode cX5_finishGoal 35 = .ok (.aload_n 0, 1) := by decide +kernel
theorem dX5_finishGoal_36 : decode cX5_finishGoal 36 = .ok (.getfield 15, 3) := by decide +kernel
theorem dX5_finishGoal_39 : decode cX5_finishGoal 39 = .ok (.iconst 0, 1) := by decide +kernel
theorem dX5_finishGoal_40 : decode cX5_finishGoal 40 = .ok (.iconst 5, 1) := by decide +kernel
theorem dX5_finishGoal_41 : decode cX5_finishGoal 41 = .ok (.invokestatic 41, 3) := by decide +kernel
theorem dX5_finishGoal_44 : decode cX5_finishGoal 44 = .ok (.aload_n 0, 1) := by decide +kernel
theorem dX5_finishGoal_45 : decode cX5_finishGoal 45 = .ok (.aload_n 0, 1) := by decide +kernel
theorem dX5_finishGoal_46 : decode cX5_finishGoal 46 = .ok (.getfield 18, 3) := by decide +kernel
theorem dX5_finishGoal_49 : decode cX5_finishGoal 49 = .ok (.ifCond .ne 7, 3) := by decide +kernel
theorem dX5_finishGoal_52 : decode cX5_finishGoal 52 = .ok (.iconst 1, 1) := by decide +kernel
theorem dX5_finishGoal_53 : decode cX5_finishGoal 53 = .ok (.goto 4, 3) := by decide +kernel
theorem dX5_finishGoal_56 : decode cX5_finishGoal 56 = .ok (.iconst 0, 1) := by decide +kernel
theorem dX5_finishGoal_57 : decode cX5_finishGoal 57 = .ok (.putfield 28, 3) := by decide +kernel
theorem dX5_finishGoal_60 : decode cX5_finishGoal 60 = .ok (.return_, 1) := by decide +kernel
theorem dX6_init_0 : decode cX6_init 0 = .ok (.aload_n 0, 1) := by decide +kernel
theorem dX6_init_1 : decode cX6_init 1 = .ok (.invokespecial 1, 3) := by decide +kernel
theorem dX6_init_4 : decode cX6_init 4 = .ok (.aload_n 0, 1) := by decide +kernel
theorem dX6_init_5 : decode cX6_init 5 = .ok (.new 7, 3) := by decide +kernel
theorem dX6_init_8 : decode cX6_init 8 = .ok (.dup, 1) := by decide +kernel
theorem dX6_init_9 : decode cX6_init 9 = .ok (.invokespecial 9, 3) := by decide +kernel
theorem dX6_init_12 : decode cX6_init 12 = .ok (.putfield 10, 3) := by decide +kernel
theorem dX6_init_15 : decode cX6_init 15 = .ok (.aload_n 0, 1) := by decide +kernel
theorem dX6_init_16 : decode cX6_init 16 = .ok (.new 7, 3) := by decide +kernel
theorem dX6_init_19 : decode cX6_init 19 = .ok (.dup, 1) := by decide +kernel
theorem dX6_init_20 : decode cX6_init 20 = .ok (.invokespecial 9, 3) := by decide +kernel
theorem dX6_init_23 : decode cX6_init 23 = .ok (.putfield 16, 3) := by decide +kernel
theorem dX6_init_26 : decode cX6_init 26 = .ok (.aload_n 0, 1) := by decide +kernel
theorem dX6_init_27 : decode cX6_init 27 = .ok (.iconst 2, 1) := by decide +kernel
theorem dX6_init_28 : decode cX6_init 28 = .ok (.anewarray 7, 3) := by decide +kernel
theorem dX6_init_31 : decode cX6_init 31 = .ok (.putfield 19, 3) := by decide +kernel
theorem dX6_init_34 : decode cX6_init 34 = .ok (.aload_n 0, 1) := by decide +kernel
theorem dX6_init_35 : decode cX6_init 35 = .ok (.iconst 2, 1) := by decide +kernel
theorem dX6_init_36 : decode cX6_init 36 = .ok (.newarray .boolean, 2) := by decide +kernel
theorem dX6_init_38 : decode cX6_init 38 = .ok (.putfield 23, 3) := by decide +kernel
theorem dX6_init_41 : decode cX6_init 41 = .ok (.aload_n 0, 1) := by decide +kernel
theorem dX6_init_42 : decode cX6_init 42 = .ok (.new 27, 3) := by decide +kernel
theorem dX6_init_45 : decode cX6_init 45 = .ok (.dup, 1) := by decide +kernel
theorem dX6_init_46 : decode cX6_init 46 = .ok (.invokespecial 29, 3) := by decide +kernel
theorem dX6_init_49 : decode cX6_init 49 = .ok (.putfield 30, 3) := by decide +kernel
theorem dX6_init_52 : decode cX6_init 52 = .ok (.aload_n 0, 1) := by decide +kernel
theorem dX6_init_53 : decode cX6_init 53 = .ok (.new 34, 3) := by decide +kernel
theorem dX6_init_56 : decode cX6_init 56 = .ok (.dup, 1) := by decide +kernel
theorem dX6_init_57 : decode cX6_init 57 = .ok (.invokespecial 36, 3) := by decide +kernel
theorem dX6_init_60 : decode cX6_init 60 = .ok (.putfield 37, 3) := by decide +kernel
theorem dX6_init_63 : decode cX6_init 63 = .ok (.iconst 0, 1) := by decide +kernel
theorem dX6_init_64 : decode cX6_init 64 = .ok (.istore_n 1, 1) := by decide +kernel
theorem dX6_init_65 : decode cX6_init 65 = .ok (.iload_n 1, 1) := by decide +kernel
theorem dX6_init_66 : decode cX6_init 66 = .ok (.iconst 2, 1) := by decide +kernel
theorem dX6_init_67 : decode cX6_init 67 = .ok (.if_icmp .ge 22, 3) := by decide +kernel
theorem dX6_init_70 : decode cX6_init 70 = .ok (.aload_n 0, 1) := by decide +kernel
theorem dX6_init_71 : decode cX6_init 71 = .ok (.getfield 19, 3) := by decide +kernel
theorem dX6_init_74 : decode cX6_init 74 = .ok (.iload_n 1, 1) := by decide +kernel
theorem dX6_init_75 : decode cX6_init 75 = .ok (.new 7, 3) := by decide +kernel
theorem dX6_init_78 : decode cX6_init 78 = .ok (.dup, 1) := by decide +kernel
theorem dX6_init_79 : decode cX6_init 79 = .ok (.invokespecial 9, 3) := by decide +kernel
theorem dX6_init_82 : decode cX6_init 82 = .ok (.aastore, 1) := by decide +kernel
theorem dX6_init_83 : decode cX6_init 83 = .ok (.iinc 1 1, 3) := by decide +kernel
theorem dX6_init_86 : decode cX6_init 86 = .ok (.goto (-21), 3) := by decide +kernel
theorem dX6_init_89 : decode cX6_init 89 = .ok (.return_, 1) := by decide +kernel
theorem dX6_set_0 : decode cX6_set 0 = .ok (.aload_n 0, 1) := by decide +kernel
theorem dX6_set_1 : decode cX6_set 1 = .ok (.getfield 30, 3) := by decide +kernel
theorem dX6_set_4 : decode cX6_set 4 = .ok (.aload_n 0, 1) := by decide +kernel
theorem dX6_set_5 : decode cX6_set 5 = .ok (.getfield 10, 3) := by decide +kernel
theorem dX6_set_8 : decode cX6_set 8 = .ok (.invokevirtual 41, 3) := by decide +kernel
theorem dX6_set_11 : decode cX6_set 11 = .ok (.aload_n 0, 1) := by decide +kernel
theorem dX6_set_12 : decode cX6_set 12 = .ok (.getfield 30, 3) := by decide +kernel
theorem dX6_set_15 : decode cX6_set 15 = .ok (.aload_n 0, 1) := by decide +kernel
theorem dX6_set_16 : decode cX6_set 16 = .ok (.getfield 10, 3) := by decide +kernel
theorem dX6_set_19 : decode cX6_set 19 = .ok (.iload_n 1, 1) := by decide +kernel
theorem dX6_set_20 : decode cX6_set 20 = .ok (.iload_n 2, 1) := by decide +kernel
theorem dX6_set_21 : decode cX6_set 21 = .ok (.invokevirtual 45, 3) := by decide +kernel
theorem dX6_set_24 : decode cX6_set 24 = .ok (.invokevirtual 49, 3) := by decide +kernel
theorem dX6_set_27 : decode cX6_set 27 = .ok (.ireturn, 1) := by decide +kernel
theorem dX6_lamp_0 : decode cX6_lamp 0 = .ok (.aload_n 0, 1) := by decide +kernel
theorem dX6_lamp_1 : decode cX6_lamp 1 = .ok (.getfield 30, 3) := by decide +kernel
theorem dX6_lamp_4 : decode cX6_lamp 4 = .ok (.aload_n 0, 1) := by decide +kernel
theorem dX6_lamp_5 : decode cX6_lamp 5 = .ok (.getfield 10, 3) := by decide +kernel
theorem dX6_lamp_8 : decode cX6_lamp 8 = .ok (.invokevirtual 41, 3) := by decide +kernel
theorem dX6_lamp_11 : decode cX6_lamp 11 = .ok (.aload_n 0, 1) := by decide +kernel
theorem dX6_lamp_12 : decode cX6_lamp 12 = .ok (.getfield 30, 3) := by decide +kernel
theorem dX6_lamp_15 : decode cX6_lamp 15 = .ok (.aload_n 0, 1) := by decide +kernel
theorem dX6_lamp_16 : decode cX6_lamp 16 = .ok (.getfield 10, 3) := by decide +kernel
theorem dX6_lamp_19 : decode cX6_lamp 19 = .ok (.iload_n 1, 1) := by decide +kernel
theorem dX6_lamp_20 : decode cX6_lamp 20 = .ok (.iload_n 2, 1) := by decide +kernel
theorem dX6_lamp_21 : decode cX6_lamp 21 = .ok (.invokevirtual 53, 3) := by decide +kernel
theorem dX6_lamp_24 : decode cX6_lamp 24 = .ok (.invokevirtual 49, 3) := by decide +kernel
theorem dX6_lamp_27 : decode cX6_lamp 27 = .ok (.ireturn, 1) := by decide +kernel
theorem dX6_house_0 : decode cX6_house 0 = .ok (.aload_n 0, 1) := by decide +kernel
theorem dX6_house_1 : decode cX6_house 1 = .ok (.getfield 30, 3) := by decide +kernel
theorem dX6_house_4 : decode cX6_house 4 = .ok (.aload_n 0, 1) := by decide +kernel
theorem dX6_house_5 : decode cX6_house 5 = .ok (.getfield 10, 3) := by decide +kernel
theorem dX6_house_8 : decode cX6_house 8 = .ok (.invokevirtual 41, 3) := by decide +kernel
theorem dX6_house_11 : decode cX6_house 11 = .ok (.aload_n 0, 1) := by decide +kernel
theorem dX6_house_12 : decode cX6_house 12 = .ok (.getfield 30, 3) := by decide +kernel
theorem dX6_house_15 : decode cX6_house 15 = .ok (.aload_n 0, 1) := by decide +kernel
theorem dX6_house_16 : decode cX6_house 16 = .ok (.getfield 10, 3) := by decide +kernel
theorem dX6_house_19 : decode cX6_house 19 = .ok (.iload_n 1, 1) := by decide +kernel
theorem dX6_house_20 : decode cX6_house 20 = .ok (.invokevirtual 56, 3) := by decide +kernel
theorem dX6_house_23 : decode cX6_house 23 = .ok (.invokevirtual 49, 3) := by decide +kernel
theorem dX6_house_26 : decode cX6_house 26 = .ok (.ireturn, 1) := by decide +kernel
theorem dX6_walker_0 : decode cX6_walker 0 = .ok (.aload_n 0, 1) := by decide +kernel
theorem dX6_walker_1 : decode cX6_walker 1 = .ok (.getfield 30, 3) := by decide +kernel
theorem dX6_walker_4 : decode cX6_walker 4 = .ok (.aload_n 0, 1) := by decide +kernel
theorem dX6_walker_5 : decode cX6_walker 5 = .ok (.getfield 10, 3) := by decide +kernel
theorem dX6_walker_8 : decode cX6_walker 8 = .ok (.invokevirtual 41, 3) := by decide +kernel
theorem dX6_walker_11 : decode cX6_walker 11 = .ok (.aload_n 0, 1) := by decide +kernel
theorem dX6_walker_12 : decode cX6_walker 12 = .ok (.getfield 30, 3) := by decide +kernel
theorem dX6_walker_15 : decode cX6_walker 15 = .ok (.aload_n 0, 1) := by decide +kernel
theorem dX6_walker_16 : decode cX6_walker 16 = .ok (.getfield 10, 3) := by decide +kernel
theorem dX6_walker_19 : decode cX6_walker 19 = .ok (.iload_n 1, 1) := by decide +kernel
theorem dX6_walker_20 : decode cX6_walker 20 = .ok (.iload_n 2, 1) := by decide +kernel
theorem dX6_walker_21 : decode cX6_walker 21 = .ok (.invokevirtual 59, 3) := by decide +kernel
theorem dX6_walker_24 : decode cX6_walker 24 = .ok (.invokevirtual 49, 3) := by decide +kernel
theorem dX6_walker_27 : decode cX6_walker 27 = .ok (.ireturn, 1) := by decide +kernel
theorem dX6_goal_0 : decode cX6_goal 0 = .ok (.aload_n 0, 1) := by decide +kernel
theorem dX6_goal_1 : decode cX6_goal 1 = .ok (.getfield 30, 3) := by decide +kernel
theorem dX6_goal_4 : decode cX6_goal 4 = .ok (.aload_n 0, 1) := by decide +kernel
theorem dX6_goal_5 : decode cX6_goal 5 = .ok (.getfield 10, 3) := by decide +kernel
theorem dX6_goal_8 : decode cX6_goal 8 = .ok (.invokevirtual 41, 3) := by decide +kernel
theorem dX6_goal_11 : decode cX6_goal 11 = .ok (.aload_n 0, 1) := by decide +kernel
theorem dX6_goal_12 : decode cX6_goal 12 = .ok (.getfield 30, 3) := by decide +kernel
theorem dX6_goal_15 : decode cX6_goal 15 = .ok (.aload_n 0, 1) := by decide +kernel
theorem dX6_goal_16 : decode cX6_goal 16 = .ok (.getfield 10, 3) := by decide +kernel
theorem dX6_goal_19 : decode cX6_goal 19 = .ok (.iload_n 1, 1) := by decide +kernel
theorem dX6_goal_20 : decode cX6_goal 20 = .ok (.iload_n 2, 1) := by decide +kernel
theorem dX6_goal_21 : decode cX6_goal 21 = .ok (.iload_n 3, 1) := by decide +kernel
theorem dX6_goal_22 : decode cX6_goal 22 = .ok (.invokevirtual 62, 3) := by decide +kernel
theorem dX6_goal_25 : decode cX6_goal 25 = .ok (.invokevirtual 49, 3) := by decide +kernel
theorem dX6_goal_28 : decode cX6_goal 28 = .ok (.ireturn, 1) := by decide +kernel
theorem dX6_mend_0 : decode cX6_mend 0 = .ok (.aload_n 0, 1) := by decide +kernel
theorem dX6_mend_1 : decode cX6_mend 1 = .ok (.getfield 30, 3) := by decide +kernel
theorem dX6_mend_4 : decode cX6_mend 4 = .ok (.aload_n 0, 1) := by decide +kernel
theorem dX6_mend_5 : decode cX6_mend 5 = .ok (.getfield 10, 3) := by decide +kernel
theorem dX6_mend_8 : decode cX6_mend 8 = .ok (.invokevirtual 41, 3) := by decide +kernel
theorem dX6_mend_11 : decode cX6_mend 11 = .ok (.aload_n 0, 1) := by decide +kernel
theorem dX6_mend_12 : decode cX6_mend 12 = .ok (.getfield 30, 3) := by decide +kernel
theorem dX6_mend_15 : decode cX6_mend 15 = .ok (.aload_n 0, 1) := by decide +kernel
theorem dX6_mend_16 : decode cX6_mend 16 = .ok (.getfield 10, 3) := by decide +kernel
theorem dX6_mend_19 : decode cX6_mend 19 = .ok (.iload_n 1, 1) := by decide +kernel
theorem dX6_mend_20 : decode cX6_mend 20 = .ok (.iload_n 2, 1) := by decide +kernel
theorem dX6_mend_21 : decode cX6_mend 21 = .ok (.invokevirtual 66, 3) := by decide +kernel
theorem dX6_mend_24 : decode cX6_mend 24 = .ok (.invokevirtual 49, 3) := by decide +kernel
theorem dX6_mend_27 : decode cX6_mend 27 = .ok (.ireturn, 1) := by decide +kernel
theorem dX6_cough_0 : decode cX6_cough 0 = .ok (.aload_n 0, 1) := by decide +kernel
theorem dX6_cough_1 : decode cX6_cough 1 = .ok (.getfield 30, 3) := by decide +kernel
theorem dX6_cough_4 : decode cX6_cough 4 = .ok (.aload_n 0, 1) := by decide +kernel
theorem dX6_cough_5 : decode cX6_cough 5 = .ok (.getfield 10, 3) := by decide +kernel
theorem dX6_cough_8 : decode cX6_cough 8 = .ok (.invokevirtual 41, 3) := by decide +kernel
theorem dX6_cough_11 : decode cX6_cough 11 = .ok (.aload_n 0, 1) := by decide +kernel
theorem dX6_cough_12 : decode cX6_cough 12 = .ok (.getfield 30, 3) := by decide +kernel
theorem dX6_cough_15 : decode cX6_cough 15 = .ok (.aload_n 0, 1) := by decide +kernel
theorem dX6_cough_16 : decode cX6_cough 16 = .ok (.getfield 10, 3) := by decide +kernel
theorem dX6_cough_19 : decode cX6_cough 19 = .ok (.iload_n 1, 1) := by decide +kernel
theorem dX6_cough_20 : decode cX6_cough 20 = .ok (.invokevirtual 69, 3) := by decide +kernel
theorem dX6_cough_23 : decode cX6_cough 23 = .ok (.invokevirtual 49, 3) := by decide +kernel
theorem dX6_cough_26 : decode cX6_cough 26 = .ok (.ireturn, 1) := by decide +kernel
theorem dX6_ticks_0 : decode cX6_ticks 0 = .ok (.aload_n 0, 1) := by decide +kernel
theorem dX6_ticks_1 : decode cX6_ticks 1 = .ok (.getfield 30, 3) := by decide +kernel
theorem dX6_ticks_4 : decode cX6_ticks 4 = .ok (.aload_n 0, 1) := by decide +kernel
theorem dX6_ticks_5 : decode cX6_ticks 5 = .ok (.getfield 10, 3) := by decide +kernel
theorem dX6_ticks_8 : decode cX6_ticks 8 = .ok (.invokevirtual 41, 3) := by decide +kernel
theorem dX6_ticks_11 : decode cX6_ticks 11 = .ok (.aload_n 0, 1) := by decide +kernel
theorem dX6_ticks_12 : decode cX6_ticks 12 = .ok (.getfield 30, 3) := by decide +kernel
theorem dX6_ticks_15 : decode cX6_ticks 15 = .ok (.aload_n 0, 1) := by decide +kernel
theorem dX6_ticks_16 : decode cX6_ticks 16 = .ok (.getfield 10, 3) := by decide +kernel
theorem dX6_ticks_19 : decode cX6_ticks 19 = .ok (.iload_n 1, 1) := by decide +kernel
theorem dX6_ticks_20 : decode cX6_ticks 20 = .ok (.invokevirtual 72, 3) := by decide +kernel
theorem dX6_ticks_23 : decode cX6_ticks 23 = .ok (.invokevirtual 49, 3) := by decide +kernel
theorem dX6_ticks_26 : decode cX6_ticks 26 = .ok (.ireturn, 1) := by decide +kernel
theorem dX6_ofLamp_0 : decode cX6_ofLamp 0 = .ok (.aload_n 0, 1) := by decide +kernel
theorem dX6_ofLamp_1 : decode cX6_ofLamp 1 = .ok (.getfield 10, 3) := by decide +kernel
theorem dX6_ofLamp_4 : decode cX6_ofLamp 4 = .ok (.iload_n 1, 1) := by decide +kernel
theorem dX6_ofLamp_5 : decode cX6_ofLamp 5 = .ok (.invokevirtual 75, 3) := by decide +kernel
theorem dX6_ofLamp_8 : decode cX6_ofLamp 8 = .ok (.ifCond .eq 19, 3) := by decide +kernel
theorem dX6_ofLamp_11 : decode cX6_ofLamp 11 = .ok (.aload_n 0, 1) := by decide +kernel
theorem dX6_ofLamp_12 : decode cX6_ofLamp 12 = .ok (.getfield 10, 3) := by decide +kernel
theorem dX6_ofLamp_15 : decode cX6_ofLamp 15 = .ok (.getfield 79, 3) := by decide +kernel
theorem dX6_ofLamp_18 : decode cX6_ofLamp 18 = .ok (.iload_n 1, 1) := by decide +kernel
theorem dX6_ofLamp_19 : decode cX6_ofLamp 19 = .ok (.aaload, 1) := by decide +kernel
theorem dX6_ofLamp_20 : decode cX6_ofLamp 20 = .ok (.iload_n 2, 1) := by decide +kernel
theorem dX6_ofLamp_21 : decode cX6_ofLamp 21 = .ok (.invokevirtual 83, 3) := by decide +kernel
theorem dX6_ofLamp_24 : decode cX6_ofLamp 24 = .ok (.goto 4, 3) := by decide +kernel
theorem dX6_ofLamp_27 : decode cX6_ofLamp 27 = .ok (.iconst (-1), 1) := by decide +kernel
theorem dX6_ofLamp_28 : decode cX6_ofLamp 28 = .ok (.ireturn, 1) := by decide +kernel
theorem dX6_ofWalker_0 : decode cX6_ofWalker 0 = .ok (.aload_n 0, 1) := by decide +kernel
theorem dX6_ofWalker_1 : decode cX6_ofWalker 1 = .ok (.getfield 10, 3) := by decide +kernel
theorem dX6_ofWalker_4 : decode cX6_ofWalker 4 = .ok (.iload_n 1, 1) := by decide +kernel
theorem dX6_ofWalker_5 : decode cX6_ofWalker 5 = .ok (.invokevirtual 88, 3) := by decide +kernel
theorem dX6_ofWalker_8 : decode cX6_ofWalker 8 = .ok (.ifCond .eq 23, 3) := by decide +kernel
theorem dX6_ofWalker_11 : decode cX6_ofWalker 11 = .ok (.aload_n 0, 1) := by decide +kernel
theorem dX6_ofWalker_12 : decode cX6_ofWalker 12 = .ok (.getfield 10, 3) := by decide +kernel
theorem dX6_ofWalker_15 : decode cX6_ofWalker 15 = .ok (.aload_n 0, 1) := by decide +kernel
theorem dX6_ofWalker_16 : decode cX6_ofWalker 16 = .ok (.getfield 10, 3) := by decide +kernel
theorem dX6_ofWalker_19 : decode cX6_ofWalker 19 = .ok (.getfield 91, 3) := by decide +kernel
theorem dX6_ofWalker_22 : decode cX6_ofWalker 22 = .ok (.iload_n 1, 1) := by decide +kernel
theorem dX6_ofWalker_23 : decode cX6_ofWalker 23 = .ok (.aaload, 1) := by decide +kernel
theorem dX6_ofWalker_24 : decode cX6_ofWalker 24 = .ok (.iload_n 2, 1) := by decide +kernel
theorem dX6_ofWalker_25 : decode cX6_ofWalker 25 = .ok (.invokevirtual 95, 3) := by decide +kernel
theorem dX6_ofWalker_28 : decode cX6_ofWalker 28 = .ok (.goto 4, 3) := by decide +kernel
theorem dX6_ofWalker_31 : decode cX6_ofWalker 31 = .ok (.iconst (-1), 1) := by decide +kernel
theorem dX6_ofWalker_32 : decode cX6_ofWalker 32 = .ok (.ireturn, 1) := by decide +kernel
theorem dX6_ofHouse_0 : decode cX6_ofHouse 0 = .ok (.aload_n 0, 1) := by decide +kernel
theorem dX6_ofHouse_1 : decode cX6_ofHouse 1 = .ok (.getfield 10, 3) := by decide +kernel
theorem dX6_ofHouse_4 : decode cX6_ofHouse 4 = .ok (.iload_n 1, 1) := by decide +kernel
theorem dX6_ofHouse_5 : decode cX6_ofHouse 5 = .ok (.invokevirtual 99, 3) := by decide +kernel
theorem dX6_ofHouse_8 : decode cX6_ofHouse 8 = .ok (.ifCond .eq 23, 3) := by decide +kernel
theorem dX6_ofHouse_11 : decode cX6_ofHouse 11 = .ok (.aload_n 0, 1) := by decide +kernel
theorem dX6_ofHouse_12 : decode cX6_ofHouse 12 = .ok (.getfield 10, 3) := by decide +kernel
theorem dX6_ofHouse_15 : decode cX6_ofHouse 15 = .ok (.aload_n 0, 1) := by decide +kernel
theorem dX6_ofHouse_16 : decode cX6_ofHouse 16 = .ok (.getfield 10, 3) := by decide +kernel
theorem dX6_ofHouse_19 : decode cX6_ofHouse 19 = .ok (.getfield 102, 3) := by decide +kernel
theorem dX6_ofHouse_22 : decode cX6_ofHouse 22 = .ok (.iload_n 1, 1) := by decide +kernel
theorem dX6_ofHouse_23 : decode cX6_ofHouse 23 = .ok (.aaload, 1) := by decide +kernel
theorem dX6_ofHouse_24 : decode cX6_ofHouse 24 = .ok (.iload_n 2, 1) := by decide +kernel
theorem dX6_ofHouse_25 : decode cX6_ofHouse 25 = .ok (.invokevirtual 106, 3) := by decide +kernel
theorem dX6_ofHouse_28 : decode cX6_ofHouse 28 = .ok (.goto 4, 3) := by decide +kernel
theorem dX6_ofHouse_31 : decode cX6_ofHouse 31 = .ok (.iconst (-1), 1) := by decide +kernel
theorem dX6_ofHouse_32 : decode cX6_ofHouse 32 = .ok (.ireturn, 1) := by decide +kernel
theorem dX6_lightAt_0 : decode cX6_lightAt 0 = .ok (.iload_n 1, 1) := by decide +kernel
theorem dX6_lightAt_1 : decode cX6_lightAt 1 = .ok (.invokestatic 110, 3) := by decide +kernel
theorem dX6_lightAt_4 : decode cX6_lightAt 4 = .ok (.ifCond .eq 14, 3) := by decide +kernel
theorem dX6_lightAt_7 : decode cX6_lightAt 7 = .ok (.aload_n 0, 1) := by decide +kernel
theorem dX6_lightAt_8 : decode cX6_lightAt 8 = .ok (.getfield 10, 3) := by decide +kernel
theorem dX6_lightAt_11 : decode cX6_lightAt 11 = .ok (.iload_n 1, 1) := by decide +kernel
theorem dX6_lightAt_12 : decode cX6_lightAt 12 = .ok (.invokevirtual 113, 3) := by decide +kernel
theorem dX6_lightAt_15 : decode cX6_lightAt 15 = .ok (.goto 4, 3) := by decide +kernel
theorem dX6_lightAt_18 : decode cX6_lightAt 18 = .ok (.iconst (-1), 1) := by decide +kernel
theorem dX6_lightAt_19 : decode cX6_lightAt 19 = .ok (.ireturn, 1) := by decide +kernel
theorem dX6_hearers_0 : decode cX6_hearers 0 = .ok (.aload_n 0, 1) := by decide +kernel
theorem dX6_hearers_1 : decode cX6_hearers 1 = .ok (.getfield 10, 3) := by decide +kernel
theorem dX6_hearers_4 : decode cX6_hearers 4 = .ok (.iload_n 1, 1) := by decide +kernel
theorem dX6_hearers_5 : decode cX6_hearers 5 = .ok (.invokevirtual 75, 3) := by decide +kernel
theorem dX6_hearers_8 : decode cX6_hearers 8 = .ok (.ifCond .eq 14, 3) := by decide +kernel
theorem dX6_hearers_11 : decode cX6_hearers 11 = .ok (.aload_n 0, 1) := by decide +kernel
theorem dX6_hearers_12 : decode cX6_hearers 12 = .ok (.getfield 10, 3) := by decide +kernel
theorem dX6_hearers_15 : decode cX6_hearers 15 = .ok (.iload_n 1, 1) := by decide +kernel
theorem dX6_hearers_16 : decode cX6_hearers 16 = .ok (.invokevirtual 116, 3) := by decide +kernel
theorem dX6_hearers_19 : decode cX6_hearers 19 = .ok (.goto 4, 3) := by decide +kernel
theorem dX6_hearers_22 : decode cX6_hearers 22 = .ok (.iconst (-1), 1) := by decide +kernel
theorem dX6_hearers_23 : decode cX6_hearers 23 = .ok (.ireturn, 1) := by decide +kernel
theorem dX6_count_0 : decode cX6_count 0 = .ok (.iload_n 1, 1) := by decide +kernel
theorem dX6_count_1 : decode cX6_count 1 = .ok (.bipush 11, 2) := by decide +kernel
theorem dX6_count_3 : decode cX6_count 3 = .ok (.bipush 16, 2) := by decide +kernel
theorem dX6_count_5 : decode cX6_count 5 = .ok (.invokestatic 119, 3) := by decide +kernel
theorem dX6_count_8 : decode cX6_count 8 = .ok (.ifCond .eq 16, 3) := by decide +kernel
theorem dX6_count_11 : decode cX6_count 11 = .ok (.aload_n 0, 1) := by decide +kernel
theorem dX6_count_12 : decode cX6_count 12 = .ok (.getfield 10, 3) := by decide +kernel
theorem dX6_count_15 : decode cX6_count 15 = .ok (.getfield 123, 3) := by decide +kernel
theorem dX6_count_18 : decode cX6_count 18 = .ok (.iload_n 1, 1) := by decide +kernel
theorem dX6_count_19 : decode cX6_count 19 = .ok (.bipush 11, 2) := by decide +kernel
theorem dX6_count_21 : decode cX6_count 21 = .ok (.isub, 1) := by decide +kernel
theorem dX6_count_22 : decode cX6_count 22 = .ok (.iaload, 1) := by decide +kernel
theorem dX6_count_23 : decode cX6_count 23 = .ok (.ireturn, 1) := by decide +kernel
theorem dX6_count_24 : decode cX6_count 24 = .ok (.iload_n 1, 1) := by decide +kernel
theorem dX6_count_25 : decode cX6_count 25 = .ok (.tableswitch 207 0 18 #[91, 99, 107, 115, 123, 131, 143, 155, 164, 173, 182, 207, 207, 207, 207, 207, 207, 191, 199], 91) := by decide +kernel
theorem dX6_count_116 : decode cX6_count 116 = .ok (.aload_n 0, 1) := by decide +kernel
theorem dX6_count_117 : decode cX6_count 117 = .ok (.getfield 10, 3) := by decide +kernel
theorem dX6_count_120 : decode cX6_count 120 = .ok (.getfield 127, 3) := by decide +kernel
theorem dX6_count_123 : decode cX6_count 123 = .ok (.ireturn, 1) := by decide +kernel
theorem dX6_count_124 : decode cX6_count 124 = .ok (.aload_n 0, 1) := by decide +kernel
theorem dX6_count_125 : decode cX6_count 125 = .ok (.getfield 10, 3) := by decide +kernel
theorem dX6_count_128 : decode cX6_count 128 = .ok (.getfield 131, 3) := by decide +kernel
theorem dX6_count_131 : decode cX6_count 131 = .ok (.ireturn, 1) := by decide +kernel
theorem dX6_count_132 : decode cX6_count 132 = .ok (.aload_n 0, 1) := by decide +kernel
theorem dX6_count_133 : decode cX6_count 133 = .ok (.getfield 10, 3) := by decide +kernel
theorem dX6_count_136 : decode cX6_count 136 = .ok (.getfield 134, 3) := by decide +kernel
theorem dX6_count_139 : decode cX6_count 139 = .ok (.ireturn, 1) := by decide +kernel
theorem dX6_count_140 : decode cX6_count 140 = .ok (.aload_n 0, 1) := by decide +kernel
theorem dX6_count_141 : decode cX6_count 141 = .ok (.getfield 10, 3) := by decide +kernel
theorem dX6_count_144 : decode cX6_count 144 = .ok (.getfield 137, 3) := by decide +kernel
theorem dX6_count_147 : decode cX6_count 147 = .ok (.ireturn, 1) := by decide +kernel
theorem dX6_count_148 : decode cX6_count 148 = .ok (.aload_n 0, 1) := by decide +kernel
theorem dX6_count_149 : decode cX6_count 149 = .ok (.getfield 10, 3) := by decide +kernel
theorem dX6_count_152 : decode cX6_count 152 = .ok (.invokevirtual 140, 3) := by decide +kernel
theorem dX6_count_155 : decode cX6_count 155 = .ok (.ireturn, 1) := by decide +kernel
theorem dX6_count_156 : decode cX6_count 156 = .ok (.aload_n 0, 1) := by decide +kernel
theorem dX6_count_157 : decode cX6_count 157 = .ok (.getfield 10, 3) := by decide +kernel
theorem dX6_count_160 : decode cX6_count 160 = .ok (.iconst 2, 1) := by decide +kernel
theorem dX6_count_161 : decode cX6_count 161 = .ok (.invokevirtual 144, 3) := by decide +kernel
theorem dX6_count_164 : decode cX6_count 164 = .ok (.invokestatic 147, 3) := by decide +kernel
theorem dX6_count_167 : decode cX6_count 167 = .ok (.ireturn, 1) := by decide +kernel
theorem dX6_count_168 : decode cX6_count 168 = .ok (.aload_n 0, 1) := by decide +kernel
theorem dX6_count_169 : decode cX6_count 169 = .ok (.getfield 10, 3) := by decide +kernel
theorem dX6_count_172 : decode cX6_count 172 = .ok (.iconst 1, 1) := by decide +kernel
theorem dX6_count_173 : decode cX6_count 173 = .ok (.invokevirtual 144, 3) := by decide +kernel
theorem dX6_count_176 : decode cX6_count 176 = .ok (.invokestatic 147, 3) := by decide +kernel
theorem dX6_count_179 : decode cX6_count 179 = .ok (.ireturn, 1) := by decide +kernel
theorem dX6_count_180 : decode cX6_count 180 = .ok (.aload_n 0, 1) := by decide +kernel
theorem dX6_count_181 : decode cX6_count 181 = .ok (.getfield 10, 3) := by decide +kernel
theorem dX6_count_184 : decode cX6_count 184 = .ok (.iconst 1, 1) := by decide +kernel
theorem dX6_count_185 : decode cX6_count 185 = .ok (.invokevirtual 152, 3) := by decide +kernel
theorem dX6_count_188 : decode cX6_count 188 = .ok (.ireturn, 1) := by decide +kernel
theorem dX6_count_189 : decode cX6_count 189 = .ok (.aload_n 0, 1) := by decide +kernel
theorem dX6_count_190 : decode cX6_count 190 = .ok (.getfield 10, 3) := by decide +kernel
theorem dX6_count_193 : decode cX6_count 193 = .ok (.iconst 0, 1) := by decide +kernel
theorem dX6_count_194 : decode cX6_count 194 = .ok (.invokevirtual 152, 3) := by decide +kernel
theorem dX6_count_197 : decode cX6_count 197 = .ok (.ireturn, 1) := by decide +kernel
theorem dX6_count_198 : decode cX6_count 198 = .ok (.aload_n 0, 1) := by decide +kernel
theorem dX6_count_199 : decode cX6_count 199 = .ok (.getfield 10, 3) := by decide +kernel
theorem dX6_count_202 : decode cX6_count 202 = .ok (.iconst 2, 1) := by decide +kernel
theorem dX6_count_203 : decode cX6_count 203 = .ok (.invokevirtual 152, 3) := by decide +kernel
theorem dX6_count_206 : decode cX6_count 206 = .ok (.ireturn, 1) := by decide +kernel
theorem dX6_count_207 : decode cX6_count 207 = .ok (.aload_n 0, 1) := by decide +kernel
theorem dX6_count_208 : decode cX6_count 208 = .ok (.getfield 10, 3) := by decide +kernel
theorem dX6_count_211 : decode cX6_count 211 = .ok (.iconst 3, 1) := by decide +kernel
theorem dX6_count_212 : decode cX6_count 212 = .ok (.invokevirtual 152, 3) := by decide +kernel
theorem dX6_count_215 : decode cX6_count 215 = .ok (.ireturn, 1) := by decide +kernel
theorem dX6_count_216 : decode cX6_count 216 = .ok (.aload_n 0, 1) := by decide +kernel
theorem dX6_count_217 : decode cX6_count 217 = .ok (.getfield 37, 3) := by decide +kernel
theorem dX6_count_220 : decode cX6_count 220 = .ok (.getfield 155, 3) := by decide +kernel
theorem dX6_count_223 : decode cX6_count 223 = .ok (.ireturn, 1) := by decide +kernel
theorem dX6_count_224 : decode cX6_count 224 = .ok (.aload_n 0, 1) := by decide +kernel
theorem dX6_count_225 : decode cX6_count 225 = .ok (.getfield 30, 3) := by decide +kernel
theorem dX6_count_228 : decode cX6_count 228 = .ok (.getfield 158, 3) := by decide +kernel
theorem dX6_count_231 : decode cX6_count 231 = .ok (.ireturn, 1) := by decide +kernel
theorem dX6_count_232 : decode cX6_count 232 = .ok (.bipush (-2), 2) := by decide +kernel
theorem dX6_count_234 : decode cX6_count 234 = .ok (.ireturn, 1) := by decide +kernel
theorem dX6_homeIn_0 : decode cX6_homeIn 0 = .ok (.aload_n 0, 1) := by decide +kernel
theorem dX6_homeIn_1 : decode cX6_homeIn 1 = .ok (.getfield 10, 3) := by decide +kernel
theorem dX6_homeIn_4 : decode cX6_homeIn 4 = .ok (.iload_n 1, 1) := by decide +kernel
theorem dX6_homeIn_5 : decode cX6_homeIn 5 = .ok (.invokevirtual 88, 3) := by decide +kernel
theorem dX6_homeIn_8 : decode cX6_homeIn 8 = .ok (.ifCond .ne 5, 3) := by decide +kernel
theorem dX6_homeIn_11 : decode cX6_homeIn 11 = .ok (.iconst (-1), 1) := by decide +kernel
theorem dX6_homeIn_12 : decode cX6_homeIn 12 = .ok (.ireturn, 1) := by decide +kernel
theorem dX6_homeIn_13 : decode cX6_homeIn 13 = .ok (.aload_n 0, 1) := by decide +kernel
theorem dX6_homeIn_14 : decode cX6_homeIn 14 = .ok (.getfield 16, 3) := by decide +kernel
theorem dX6_homeIn_17 : decode cX6_homeIn 17 = .ok (.getfield 91, 3) := by decide +kernel
theorem dX6_homeIn_20 : decode cX6_homeIn 20 = .ok (.iload_n 1, 1) := by decide +kernel
theorem dX6_homeIn_21 : decode cX6_homeIn 21 = .ok (.aaload, 1) := by decide +kernel
theorem dX6_homeIn_22 : decode cX6_homeIn 22 = .ok (.astore_n 2, 1) := by decide +kernel
theorem dX6_homeIn_23 : decode cX6_homeIn 23 = .ok (.aload_n 2, 1) := by decide +kernel
theorem dX6_homeIn_24 : decode cX6_homeIn 24 = .ok (.aload_n 0, 1) := by decide +kernel
theorem dX6_homeIn_25 : decode cX6_homeIn 25 = .ok (.getfield 10, 3) := by decide +kernel
theorem dX6_homeIn_28 : decode cX6_homeIn 28 = .ok (.getfield 91, 3) := by decide +kernel
theorem dX6_homeIn_31 : decode cX6_homeIn 31 = .ok (.iload_n 1, 1) := by decide +kernel
theorem dX6_homeIn_32 : decode cX6_homeIn 32 = .ok (.aaload, 1) := by decide +kernel
theorem dX6_homeIn_33 : decode cX6_homeIn 33 = .ok (.invokevirtual 161, 3) := by decide +kernel
theorem dX6_homeIn_36 : decode cX6_homeIn 36 = .ok (.iconst 0, 1) := by decide +kernel
theorem dX6_homeIn_37 : decode cX6_homeIn 37 = .ok (.istore_n 3, 1) := by decide +kernel
theorem dX6_homeIn_38 : decode cX6_homeIn 38 = .ok (.iload_n 3, 1) := by decide +kernel
theorem dX6_homeIn_39 : decode cX6_homeIn 39 = .ok (.sipush 500, 3) := by decide +kernel
theorem dX6_homeIn_42 : decode cX6_homeIn 42 = .ok (.if_icmp .gt 22, 3) := by decide +kernel
theorem dX6_homeIn_45 : decode cX6_homeIn 45 = .ok (.aload_n 2, 1) := by decide +kernel
theorem dX6_homeIn_46 : decode cX6_homeIn 46 = .ok (.getfield 167, 3) := by decide +kernel
theorem dX6_homeIn_49 : decode cX6_homeIn 49 = .ok (.ifCond .eq 5, 3) := by decide +kernel
theorem dX6_homeIn_52 : decode cX6_homeIn 52 = .ok (.iload_n 3, 1) := by decide +kernel
theorem dX6_homeIn_53 : decode cX6_homeIn 53 = .ok (.ireturn, 1) := by decide +kernel
theorem dX6_homeIn_54 : decode cX6_homeIn 54 = .ok (.aload_n 2, 1) := by decide +kernel
theorem dX6_homeIn_55 : decode cX6_homeIn 55 = .ok (.invokevirtual 171, 3) := by decide +kernel
theorem dX6_homeIn_58 : decode cX6_homeIn 58 = .ok (.iinc 3 1, 3) := by decide +kernel
theorem dX6_homeIn_61 : decode cX6_homeIn 61 = .ok (.goto (-23), 3) := by decide +kernel
theorem dX6_homeIn_64 : decode cX6_homeIn 64 = .ok (.bipush (-6), 2) := by decide +kernel
theorem dX6_homeIn_66 : decode cX6_homeIn 66 = .ok (.ireturn, 1) := by decide +kernel
theorem dX6_brings_0 : decode cX6_brings 0 = .ok (.iload_n 1, 1) := by decide +kernel
theorem dX6_brings_1 : decode cX6_brings 1 = .ok (.invokestatic 174, 3) := by decide +kernel
theorem dX6_brings_4 : decode cX6_brings 4 = .ok (.ifCond .eq 12, 3) := by decide +kernel
theorem dX6_brings_7 : decode cX6_brings 7 = .ok (.iload_n 2, 1) := by decide +kernel
theorem dX6_brings_8 : decode cX6_brings 8 = .ok (.iconst 0, 1) := by decide +kernel
theorem dX6_brings_9 : decode cX6_brings 9 = .ok (.iconst 3, 1) := by decide +kernel
theorem dX6_brings_10 : decode cX6_brings 10 = .ok (.invokestatic 119, 3) := by decide +kernel
theorem dX6_brings_13 : decode cX6_brings 13 = .ok (.ifCond .ne 6, 3) := by decide +kernel
theorem dX6_brings_16 : decode cX6_brings 16 = .ok (.bipush (-2), 2) := by decide +kernel
theorem dX6_brings_18 : decode cX6_brings 18 = .ok (.ireturn, 1) := by decide +kernel
theorem dX6_brings_19 : decode cX6_brings 19 = .ok (.aload_n 0, 1) := by decide +kernel
theorem dX6_brings_20 : decode cX6_brings 20 = .ok (.getfield 16, 3) := by decide +kernel
theorem dX6_brings_23 : decode cX6_brings 23 = .ok (.aload_n 0, 1) := by decide +kernel
theorem dX6_brings_24 : decode cX6_brings 24 = .ok (.getfield 10, 3) := by decide +kernel
theorem dX6_brings_27 : decode cX6_brings 27 = .ok (.invokevirtual 177, 3) := by decide +kernel
theorem dX6_brings_30 : decode cX6_brings 30 = .ok (.aload_n 0, 1) := by decide +kernel
theorem dX6_brings_31 : decode cX6_brings 31 = .ok (.getfield 16, 3) := by decide +kernel
theorem dX6_brings_34 : decode cX6_brings 34 = .ok (.iload_n 1, 1) := by decide +kernel
theorem dX6_brings_35 : decode cX6_brings 35 = .ok (.invokevirtual 72, 3) := by decide +kernel
theorem dX6_brings_38 : decode cX6_brings 38 = .ok (.pop, 1) := by decide +kernel
theorem dX6_brings_39 : decode cX6_brings 39 = .ok (.aload_n 0, 1) := by decide +kernel
theorem dX6_brings_40 : decode cX6_brings 40 = .ok (.iload_n 2, 1) := by decide +kernel
theorem dX6_brings_41 : decode cX6_brings 41 = .ok (.invokevirtual 180, 3) := by decide +kernel
theorem dX6_brings_44 : decode cX6_brings 44 = .ok (.ireturn, 1) := by decide +kernel
theorem dX6_bestReach_0 : decode cX6_bestReach 0 = .ok (.iload_n 1, 1) := by decide +kernel
theorem dX6_bestReach_1 : decode cX6_bestReach 1 = .ok (.invokestatic 174, 3) := by decide +kernel
theorem dX6_bestReach_4 : decode cX6_bestReach 4 = .ok (.ifCond .ne 6, 3) := by decide +kernel
theorem dX6_bestReach_7 : decode cX6_bestReach 7 = .ok (.bipush (-2), 2) := by decide +kernel
theorem dX6_bestReach_9 : decode cX6_bestReach 9 = .ok (.ireturn, 1) := by decide +kernel
theorem dX6_bestReach_10 : decode cX6_bestReach 10 = .ok (.bipush (-6), 2) := by decide +kernel
theorem dX6_bestReach_12 : decode cX6_bestReach 12 = .ok (.istore_n 2, 1) := by decide +kernel
theorem dX6_bestReach_13 : decode cX6_bestReach 13 = .ok (.iconst 0, 1) := by decide +kernel
theorem dX6_bestReach_14 : decode cX6_bestReach 14 = .ok (.istore_n 3, 1) := by decide +kernel
theorem dX6_bestReach_15 : decode cX6_bestReach 15 = .ok (.iconst 0, 1) := by decide +kernel
theorem dX6_bestReach_16 : decode cX6_bestReach 16 = .ok (.istore 4, 2) := by decide +kernel
theorem dX6_bestReach_18 : decode cX6_bestReach 18 = .ok (.getstatic 183, 3) := by decide +kernel
theorem dX6_bestReach_21 : decode cX6_bestReach 21 = .ok (.iconst 1, 1) := by decide +kernel
theorem dX6_bestReach_22 : decode cX6_bestReach 22 = .ok (.iaload, 1) := by decide +kernel
theorem dX6_bestReach_23 : decode cX6_bestReach 23 = .ok (.istore 5, 2) := by decide +kernel
theorem dX6_bestReach_25 : decode cX6_bestReach 25 = .ok (.iload 5, 2) := by decide +kernel
theorem dX6_bestReach_27 : decode cX6_bestReach 27 = .ok (.istore 6, 2) := by decide +kernel
theorem dX6_bestReach_29 : decode cX6_bestReach 29 = .ok (.iload 6, 2) := by decide +kernel
theorem dX6_bestReach_31 : decode cX6_bestReach 31 = .ok (.getstatic 186, 3) := by decide +kernel
theorem dX6_bestReach_34 : decode cX6_bestReach 34 = .ok (.iconst 1, 1) := by decide +kernel
theorem dX6_bestReach_35 : decode cX6_bestReach 35 = .ok (.iaload, 1) := by decide +kernel
theorem dX6_bestReach_36 : decode cX6_bestReach 36 = .ok (.if_icmp .gt 111, 3) := by decide +kernel
theorem dX6_bestReach_39 : decode cX6_bestReach 39 = .ok (.iload 6, 2) := by decide +kernel
theorem dX6_bestReach_41 : decode cX6_bestReach 41 = .ok (.iload 5, 2) := by decide +kernel
theorem dX6_bestReach_43 : decode cX6_bestReach 43 = .ok (.if_icmp .le 18, 3) := by decide +kernel
theorem dX6_bestReach_46 : decode cX6_bestReach 46 = .ok (.aload_n 0, 1) := by decide +kernel
theorem dX6_bestReach_47 : decode cX6_bestReach 47 = .ok (.getfield 10, 3) := by decide +kernel
theorem dX6_bestReach_50 : decode cX6_bestReach 50 = .ok (.iload 6, 2) := by decide +kernel
theorem dX6_bestReach_52 : decode cX6_bestReach 52 = .ok (.invokevirtual 189, 3) := by decide +kernel
theorem dX6_bestReach_55 : decode cX6_bestReach 55 = .ok (.ifCond .ne 6, 3) := by decide +kernel
theorem dX6_bestReach_58 : decode cX6_bestReach 58 = .ok (.goto 83, 3) := by decide +kernel
theorem dX6_bestReach_61 : decode cX6_bestReach 61 = .ok (.aload_n 0, 1) := by decide +kernel
theorem dX6_bestReach_62 : decode cX6_bestReach 62 = .ok (.getfield 16, 3) := by decide +kernel
theorem dX6_bestReach_65 : decode cX6_bestReach 65 = .ok (.aload_n 0, 1) := by decide +kernel
theorem dX6_bestReach_66 : decode cX6_bestReach 66 = .ok (.getfield 10, 3) := by decide +kernel
theorem dX6_bestReach_69 : decode cX6_bestReach 69 = .ok (.invokevirtual 177, 3) := by decide +kernel
theorem dX6_bestReach_72 : decode cX6_bestReach 72 = .ok (.aload_n 0, 1) := by decide +kernel
theorem dX6_bestReach_73 : decode cX6_bestReach 73 = .ok (.getfield 16, 3) := by decide +kernel
theorem dX6_bestReach_76 : decode cX6_bestReach 76 = .ok (.iconst 1, 1) := by decide +kernel
theorem dX6_bestReach_77 : decode cX6_bestReach 77 = .ok (.iload 6, 2) := by decide +kernel
theorem dX6_bestReach_79 : decode cX6_bestReach 79 = .ok (.invokevirtual 45, 3) := by decide +kernel
theorem dX6_bestReach_82 : decode cX6_bestReach 82 = .ok (.pop, 1) := by decide +kernel
theorem dX6_bestReach_83 : decode cX6_bestReach 83 = .ok (.aload_n 0, 1) := by decide +kernel
theorem dX6_bestReach_84 : decode cX6_bestReach 84 = .ok (.getfield 16, 3) := by decide +kernel
theorem dX6_bestReach_87 : decode cX6_bestReach 87 = .ok (.iload_n 1, 1) := by decide +kernel
theorem dX6_bestReach_88 : decode cX6_bestReach 88 = .ok (.invokevirtual 72, 3) := by decide +kernel
theorem dX6_bestReach_91 : decode cX6_bestReach 91 = .ok (.pop, 1) := by decide +kernel
theorem dX6_bestReach_92 : decode cX6_bestReach 92 = .ok (.aload_n 0, 1) := by decide +kernel
theorem dX6_bestReach_93 : decode cX6_bestReach 93 = .ok (.iconst 0, 1) := by decide +kernel
theorem dX6_bestReach_94 : decode cX6_bestReach 94 = .ok (.invokevirtual 180, 3) := by decide +kernel
theorem dX6_bestReach_97 : decode cX6_bestReach 97 = .ok (.istore 7, 2) := by decide +kernel
theorem dX6_bestReach_99 : decode cX6_bestReach 99 = .ok (.aload_n 0, 1) := by decide +kernel
theorem dX6_bestReach_100 : decode cX6_bestReach 100 = .ok (.iconst 1, 1) := by decide +kernel
theorem dX6_bestReach_101 : decode cX6_bestReach 101 = .ok (.invokevirtual 180, 3) := by decide +kernel
theorem dX6_bestReach_104 : decode cX6_bestReach 104 = .ok (.istore 8, 2) := by decide +kernel
theorem dX6_bestReach_106 : decode cX6_bestReach 106 = .ok (.iload_n 2, 1) := by decide +kernel
theorem dX6_bestReach_107 : decode cX6_bestReach 107 = .ok (.bipush (-6), 2) := by decide +kernel
theorem dX6_bestReach_109 : decode cX6_bestReach 109 = .ok (.if_icmp .eq 22, 3) := by decide +kernel
theorem dX6_bestReach_112 : decode cX6_bestReach 112 = .ok (.iload 7, 2) := by decide +kernel
theorem dX6_bestReach_114 : decode cX6_bestReach 114 = .ok (.iload_n 3, 1) := by decide +kernel
theorem dX6_bestReach_115 : decode cX6_bestReach 115 = .ok (.if_icmp .lt 16, 3) := by decide +kernel
theorem dX6_bestReach_118 : decode cX6_bestReach 118 = .ok (.iload 7, 2) := by decide +kernel
theorem dX6_bestReach_120 : decode cX6_bestReach 120 = .ok (.iload_n 3, 1) := by decide +kernel
theorem dX6_bestReach_121 : decode cX6_bestReach 121 = .ok (.if_icmp .ne 20, 3) := by decide +kernel
theorem dX6_bestReach_124 : decode cX6_bestReach 124 = .ok (.iload 8, 2) := by decide +kernel
theorem dX6_bestReach_126 : decode cX6_bestReach 126 = .ok (.iload 4, 2) := by decide +kernel
theorem dX6_bestReach_128 : decode cX6_bestReach 128 = .ok (.if_icmp .ge 13, 3) := by decide +kernel
theorem dX6_bestReach_131 : decode cX6_bestReach 131 = .ok (.iload 6, 2) := by decide +kernel
theorem dX6_bestReach_133 : decode cX6_bestReach 133 = .ok (.istore_n 2, 1) := by decide +kernel
theorem dX6_bestReach_134 : decode cX6_bestReach 134 = .ok (.iload 7, 2) := by decide +kernel
theorem dX6_bestReach_136 : decode cX6_bestReach 136 = .ok (.istore_n 3, 1) := by decide +kernel
theorem dX6_bestReach_137 : decode cX6_bestReach 137 = .ok (.iload 8, 2) := by decide +kernel
theorem dX6_bestReach_139 : decode cX6_bestReach 139 = .ok (.istore 4, 2) := by decide +kernel
theorem dX6_bestReach_141 : decode cX6_bestReach 141 = .ok (.iinc 6 1, 3) := by decide +kernel
theorem dX6_bestReach_144 : decode cX6_bestReach 144 = .ok (.goto (-115), 3) := by decide +kernel
theorem dX6_bestReach_147 : decode cX6_bestReach 147 = .ok (.iload_n 2, 1) := by decide +kernel
theorem dX6_bestReach_148 : decode cX6_bestReach 148 = .ok (.ireturn, 1) := by decide +kernel
theorem dX6_needless_0 : decode cX6_needless 0 = .ok (.aload_n 0, 1) := by decide +kernel
theorem dX6_needless_1 : decode cX6_needless 1 = .ok (.getfield 16, 3) := by decide +kernel
theorem dX6_needless_4 : decode cX6_needless 4 = .ok (.aload_n 0, 1) := by decide +kernel
theorem dX6_needless_5 : decode cX6_needless 5 = .ok (.getfield 10, 3) := by decide +kernel
theorem dX6_needless_8 : decode cX6_needless 8 = .ok (.invokevirtual 177, 3) := by decide +kernel
theorem dX6_needless_11 : decode cX6_needless 11 = .ok (.aload_n 0, 1) := by decide +kernel
theorem dX6_needless_12 : decode cX6_needless 12 = .ok (.getfield 16, 3) := by decide +kernel
theorem dX6_needless_15 : decode cX6_needless 15 = .ok (.bipush 100, 2) := by decide +kernel
theorem dX6_needless_17 : decode cX6_needless 17 = .ok (.invokevirtual 72, 3) := by decide +kernel
theorem dX6_needless_20 : decode cX6_needless 20 = .ok (.pop, 1) := by decide +kernel
theorem dX6_needless_21 : decode cX6_needless 21 = .ok (.aload_n 0, 1) := by decide +kernel
theorem dX6_needless_22 : decode cX6_needless 22 = .ok (.iconst 0, 1) := by decide +kernel
theorem dX6_needless_23 : decode cX6_needless 23 = .ok (.invokevirtual 180, 3) := by decide +kernel
theorem dX6_needless_26 : decode cX6_needless 26 = .ok (.istore_n 1, 1) := by decide +kernel
theorem dX6_needless_27 : decode cX6_needless 27 = .ok (.iconst 0, 1) := by decide +kernel
theorem dX6_needless_28 : decode cX6_needless 28 = .ok (.istore_n 2, 1) := by decide +kernel
theorem dX6_needless_29 : decode cX6_needless 29 = .ok (.iconst 0, 1) := by decide +kernel
theorem dX6_needless_30 : decode cX6_needless 30 = .ok (.istore_n 3, 1) := by decide +kernel
theorem dX6_needless_31 : decode cX6_needless 31 = .ok (.iload_n 3, 1) := by decide +kernel
theorem dX6_needless_32 : decode cX6_needless 32 = .ok (.aload_n 0, 1) := by decide +kernel
theorem dX6_needless_33 : decode cX6_needless 33 = .ok (.getfield 10, 3) := by decide +kernel
theorem dX6_needless_36 : decode cX6_needless 36 = .ok (.getfield 131, 3) := by decide +kernel
theorem dX6_needless_39 : decode cX6_needless 39 = .ok (.if_icmp .ge 55, 3) := by decide +kernel
theorem dX6_needless_42 : decode cX6_needless 42 = .ok (.aload_n 0, 1) := by decide +kernel
theorem dX6_needless_43 : decode cX6_needless 43 = .ok (.getfield 16, 3) := by decide +kernel
theorem dX6_needless_46 : decode cX6_needless 46 = .ok (.aload_n 0, 1) := by decide +kernel
theorem dX6_needless_47 : decode cX6_needless 47 = .ok (.getfield 10, 3) := by decide +kernel
theorem dX6_needless_50 : decode cX6_needless 50 = .ok (.invokevirtual 177, 3) := by decide +kernel
theorem dX6_needless_53 : decode cX6_needless 53 = .ok (.aload_n 0, 1) := by decide +kernel
theorem dX6_needless_54 : decode cX6_needless 54 = .ok (.getfield 16, 3) := by decide +kernel
theorem dX6_needless_57 : decode cX6_needless 57 = .ok (.iload_n 3, 1) := by decide +kernel
theorem dX6_needless_58 : decode cX6_needless 58 = .ok (.iconst 2, 1) := by decide +kernel
theorem dX6_needless_59 : decode cX6_needless 59 = .ok (.invokevirtual 66, 3) := by decide +kernel
theorem dX6_needless_62 : decode cX6_needless 62 = .ok (.pop, 1) := by decide +kernel
theorem dX6_needless_63 : decode cX6_needless 63 = .ok (.aload_n 0, 1) := by decide +kernel
theorem dX6_needless_64 : decode cX6_needless 64 = .ok (.getfield 16, 3) := by decide +kernel
theorem dX6_needless_67 : decode cX6_needless 67 = .ok (.bipush 100, 2) := by decide +kernel
theorem dX6_needless_69 : decode cX6_needless 69 = .ok (.invokevirtual 72, 3) := by decide +kernel
theorem dX6_needless_72 : decode cX6_needless 72 = .ok (.pop, 1) := by decide +kernel
theorem dX6_needless_73 : decode cX6_needless 73 = .ok (.aload_n 0, 1) := by decide +kernel
theorem dX6_needless_74 : decode cX6_needless 74 = .ok (.iconst 0, 1) := by decide +kernel
theorem dX6_needless_75 : decode cX6_needless 75 = .ok (.invokevirtual 180, 3) := by decide +kernel
theorem dX6_needless_78 : decode cX6_needless 78 = .ok (.iload_n 1, 1) := by decide +kernel
theorem dX6_needless_79 : decode cX6_needless 79 = .ok (.if_icmp .gt 9, 3) := by decide +kernel
theorem dX6_needless_82 : decode cX6_needless 82 = .ok (.iload_n 2, 1) := by decide +kernel
theorem dX6_needless_83 : decode cX6_needless 83 = .ok (.iconst 1, 1) := by decide +kernel
theorem dX6_needless_84 : decode cX6_needless 84 = .ok (.iload_n 3, 1) := by decide +kernel
theorem dX6_needless_85 : decode cX6_needless 85 = .ok (.ishl, 1) := by decide +kernel
theorem dX6_needless_86 : decode cX6_needless 86 = .ok (.ior, 1) := by decide +kernel
theorem dX6_needless_87 : decode cX6_needless 87 = .ok (.istore_n 2, 1) := by decide +kernel
theorem dX6_needless_88 : decode cX6_needless 88 = .ok (.iinc 3 1, 3) := by decide +kernel
theorem dX6_needless_91 : decode cX6_needless 91 = .ok (.goto (-60), 3) := by decide +kernel
theorem dX6_needless_94 : decode cX6_needless 94 = .ok (.iload_n 2, 1) := by decide +kernel
theorem dX6_needless_95 : decode cX6_needless 95 = .ok (.ireturn, 1) := by decide +kernel
theorem dX6_broughtByTrial_0 : decode cX6_broughtByTrial 0 = .ok (.aload_n 0, 1) := by decide +kernel
theorem dX6_broughtByTrial_1 : decode cX6_broughtByTrial 1 = .ok (.getfield 16, 3) := by decide +kernel
theorem dX6_broughtByTrial_4 : decode cX6_broughtByTrial 4 = .ok (.iload_n 1, 1) := by decide +kernel
theorem dX6_broughtByTrial_5 : decode cX6_broughtByTrial 5 = .ok (.invokevirtual 152, 3) := by decide +kernel
theorem dX6_broughtByTrial_8 : decode cX6_broughtByTrial 8 = .ok (.aload_n 0, 1) := by decide +kernel
theorem dX6_broughtByTrial_9 : decode cX6_broughtByTrial 9 = .ok (.getfield 10, 3) := by decide +kernel
theorem dX6_broughtByTrial_12 : decode cX6_broughtByTrial 12 = .ok (.iload_n 1, 1) := by decide +kernel
theorem dX6_broughtByTrial_13 : decode cX6_broughtByTrial 13 = .ok (.invokevirtual 152, 3) := by decide +kernel
theorem dX6_broughtByTrial_16 : decode cX6_broughtByTrial 16 = .ok (.isub, 1) := by decide +kernel
theorem dX6_broughtByTrial_17 : decode cX6_broughtByTrial 17 = .ok (.ireturn, 1) := by decide +kernel
theorem dX6_put_0 : decode cX6_put 0 = .ok (.lload_n 1, 1) := by decide +kernel
theorem dX6_put_1 : decode cX6_put 1 = .ok (.invokestatic 192, 3) := by decide +kernel
theorem dX6_put_4 : decode cX6_put 4 = .ok (.istore_n 3, 1) := by decide +kernel
theorem dX6_put_5 : decode cX6_put 5 = .ok (.iload_n 3, 1) := by decide +kernel
theorem dX6_put_6 : decode cX6_put 6 = .ok (.ifCond .ne 6, 3) := by decide +kernel
theorem dX6_put_9 : decode cX6_put 9 = .ok (.bipush (-2), 2) := by decide +kernel
theorem dX6_put_11 : decode cX6_put 11 = .ok (.ireturn, 1) := by decide +kernel
theorem dX6_put_12 : decode cX6_put 12 = .ok (.aload_n 0, 1) := by decide +kernel
theorem dX6_put_13 : decode cX6_put 13 = .ok (.getfield 37, 3) := by decide +kernel
theorem dX6_put_16 : decode cX6_put 16 = .ok (.getfield 155, 3) := by decide +kernel
theorem dX6_put_19 : decode cX6_put 19 = .ok (.iload_n 3, 1) := by decide +kernel
theorem dX6_put_20 : decode cX6_put 20 = .ok (.iadd, 1) := by decide +kernel
theorem dX6_put_21 : decode cX6_put 21 = .ok (.bipush 80, 2) := by decide +kernel
theorem dX6_put_23 : decode cX6_put 23 = .ok (.if_icmp .le 6, 3) := by decide +kernel
theorem dX6_put_26 : decode cX6_put 26 = .ok (.bipush (-4), 2) := by decide +kernel
theorem dX6_put_28 : decode cX6_put 28 = .ok (.ireturn, 1) := by decide +kernel
theorem dX6_put_29 : decode cX6_put 29 = .ok (.iload_n 3, 1) := by decide +kernel
theorem dX6_put_30 : decode cX6_put 30 = .ok (.iconst 1, 1) := by decide +kernel
theorem dX6_put_31 : decode cX6_put 31 = .ok (.isub, 1) := by decide +kernel
theorem dX6_put_32 : decode cX6_put 32 = .ok (.istore 4, 2) := by decide +kernel
theorem dX6_put_34 : decode cX6_put 34 = .ok (.iload 4, 2) := by decide +kernel
theorem dX6_put_36 : decode cX6_put 36 = .ok (.ifCond .lt 29, 3) := by decide +kernel
theorem dX6_put_39 : decode cX6_put 39 = .ok (.aload_n 0, 1) := by decide +kernel
theorem dX6_put_40 : decode cX6_put 40 = .ok (.getfield 37, 3) := by decide +kernel
theorem dX6_put_43 : decode cX6_put 43 = .ok (.lload_n 1, 1) := by decide +kernel
theorem dX6_put_44 : decode cX6_put 44 = .ok (.bipush 8, 2) := by decide +kernel
theorem dX6_put_46 : decode cX6_put 46 = .ok (.iload 4, 2) := by decide +kernel
theorem dX6_put_48 : decode cX6_put 48 = .ok (.imul, 1) := by decide +kernel
theorem dX6_put_49 : decode cX6_put 49 = .ok (.lushr, 1) := by decide +kernel
theorem dX6_put_50 : decode cX6_put 50 = .ok (.ldc2_w 196, 3) := by decide +kernel
theorem dX6_put_53 : decode cX6_put 53 = .ok (.land, 1) := by decide +kernel
theorem dX6_put_54 : decode cX6_put 54 = .ok (.l2i, 1) := by decide +kernel
theorem dX6_put_55 : decode cX6_put 55 = .ok (.i2c, 1) := by decide +kernel
theorem dX6_put_56 : decode cX6_put 56 = .ok (.invokevirtual 198, 3) := by decide +kernel
theorem dX6_put_59 : decode cX6_put 59 = .ok (.iinc 4 (-1), 3) := by decide +kernel
theorem dX6_put_62 : decode cX6_put 62 = .ok (.goto (-28), 3) := by decide +kernel
theorem dX6_put_65 : decode cX6_put 65 = .ok (.aload_n 0, 1) := by decide +kernel
theorem dX6_put_66 : decode cX6_put 66 = .ok (.getfield 37, 3) := by decide +kernel
theorem dX6_put_69 : decode cX6_put 69 = .ok (.getfield 155, 3) := by decide +kernel
theorem dX6_put_72 : decode cX6_put 72 = .ok (.ireturn, 1) := by decide +kernel
theorem dX6_wipe_0 : decode cX6_wipe 0 = .ok (.aload_n 0, 1) := by decide +kernel
theorem dX6_wipe_1 : decode cX6_wipe 1 = .ok (.getfield 37, 3) := by decide +kernel
theorem dX6_wipe_4 : decode cX6_wipe 4 = .ok (.getfield 155, 3) := by decide +kernel
theorem dX6_wipe_7 : decode cX6_wipe 7 = .ok (.istore_n 1, 1) := by decide +kernel
theorem dX6_wipe_8 : decode cX6_wipe 8 = .ok (.aload_n 0, 1) := by decide +kernel
theorem dX6_wipe_9 : decode cX6_wipe 9 = .ok (.getfield 37, 3) := by decide +kernel
theorem dX6_wipe_12 : decode cX6_wipe 12 = .ok (.invokevirtual 202, 3) := by decide +kernel
theorem dX6_wipe_15 : decode cX6_wipe 15 = .ok (.iload_n 1, 1) := by decide +kernel
theorem dX6_wipe_16 : decode cX6_wipe 16 = .ok (.ireturn, 1) := by decide +kernel
theorem dX6_fault_0 : decode cX6_fault 0 = .ok (.aload_n 0, 1) := by decide +kernel
theorem dX6_fault_1 : decode cX6_fault 1 = .ok (.getfield 37, 3) := by decide +kernel
theorem dX6_fault_4 : decode cX6_fault 4 = .ok (.invokevirtual 205, 3) := by decide +kernel
theorem dX6_fault_7 : decode cX6_fault 7 = .ok (.ireturn, 1) := by decide +kernel
theorem dX6_carryOut_0 : decode cX6_carryOut 0 = .ok (.aload_n 0, 1) := by decide +kernel
theorem dX6_carryOut_1 : decode cX6_carryOut 1 = .ok (.getfield 37, 3) := by decide +kernel
theorem dX6_carryOut_4 : decode cX6_carryOut 4 = .ok (.invokevirtual 205, 3) := by decide +kernel
theorem dX6_carryOut_7 : decode cX6_carryOut 7 = .ok (.bipush (-6), 2) := by decide +kernel
theorem dX6_carryOut_9 : decode cX6_carryOut 9 = .ok (.if_icmp .eq 6, 3) := by decide +kernel
theorem dX6_carryOut_12 : decode cX6_carryOut 12 = .ok (.bipush (-3), 2) := by decide +kernel
theorem dX6_carryOut_14 : decode cX6_carryOut 14 = .ok (.ireturn, 1) := by decide +kernel
theorem dX6_carryOut_15 : decode cX6_carryOut 15 = .ok (.aload_n 0, 1) := by decide +kernel
theorem dX6_carryOut_16 : decode cX6_carryOut 16 = .ok (.getfield 30, 3) := by decide +kernel
theorem dX6_carryOut_19 : decode cX6_carryOut 19 = .ok (.aload_n 0, 1) := by decide +kernel
theorem dX6_carryOut_20 : decode cX6_carryOut 20 = .ok (.getfield 10, 3) := by decide +kernel
theorem dX6_carryOut_23 : decode cX6_carryOut 23 = .ok (.invokevirtual 41, 3) := by decide +kernel
theorem dX6_carryOut_26 : decode cX6_carryOut 26 = .ok (.iconst 0, 1) := by decide +kernel
theorem dX6_carryOut_27 : decode cX6_carryOut 27 = .ok (.istore_n 1, 1) := by decide +kernel
theorem dX6_carryOut_28 : decode cX6_carryOut 28 = .ok (.aload_n 0, 1) := by decide +kernel
theorem dX6_carryOut_29 : decode cX6_carryOut 29 = .ok (.getfield 37, 3) := by decide +kernel
theorem dX6_carryOut_32 : decode cX6_carryOut 32 = .ok (.invokevirtual 208, 3) := by decide +kernel
theorem dX6_carryOut_35 : decode cX6_carryOut 35 = .ok (.iload_n 1, 1) := by decide +kernel
theorem dX6_carryOut_36 : decode cX6_carryOut 36 = .ok (.bipush 80, 2) := by decide +kernel
theorem dX6_carryOut_38 : decode cX6_carryOut 38 = .ok (.if_icmp .ge 26, 3) := by decide +kernel
theorem dX6_carryOut_41 : decode cX6_carryOut 41 = .ok (.aload_n 0, 1) := by decide +kernel
theorem dX6_carryOut_42 : decode cX6_carryOut 42 = .ok (.getfield 37, 3) := by decide +kernel
theorem dX6_carryOut_45 : decode cX6_carryOut 45 = .ok (.invokevirtual 211, 3) := by decide +kernel
theorem dX6_carryOut_48 : decode cX6_carryOut 48 = .ok (.ifCond .eq 16, 3) := by decide +kernel
theorem dX6_carryOut_51 : decode cX6_carryOut 51 = .ok (.aload_n 0, 1) := by decide +kernel
theorem dX6_carryOut_52 : decode cX6_carryOut 52 = .ok (.invokevirtual 215, 3) := by decide +kernel
theorem dX6_carryOut_55 : decode cX6_carryOut 55 = .ok (.ifCond .lt 9, 3) := by decide +kernel
theorem dX6_carryOut_58 : decode cX6_carryOut 58 = .ok (.iinc 1 1, 3) := by decide +kernel
theorem dX6_carryOut_61 : decode cX6_carryOut 61 = .ok (.goto (-26), 3) := by decide +kernel
theorem dX6_carryOut_64 : decode cX6_carryOut 64 = .ok (.aload_n 0, 1) := by decide +kernel
theorem dX6_carryOut_65 : decode cX6_carryOut 65 = .ok (.getfield 37, 3) := by decide +kernel
theorem dX6_carryOut_68 : decode cX6_carryOut 68 = .ok (.invokevirtual 202, 3) := by decide +kernel
theorem dX6_carryOut_71 : decode cX6_carryOut 71 = .ok (.aload_n 0, 1) := by decide +kernel
theorem dX6_carryOut_72 : decode cX6_carryOut 72 = .ok (.getfield 30, 3) := by decide +kernel
theorem dX6_carryOut_75 : decode cX6_carryOut 75 = .ok (.iload_n 1, 1) := by decide +kernel
theorem dX6_carryOut_76 : decode cX6_carryOut 76 = .ok (.invokevirtual 49, 3) := by decide +kernel
theorem dX6_carryOut_79 : decode cX6_carryOut 79 = .ok (.ireturn, 1) := by decide +kernel
theorem dX6_carryOrder_0 : decode cX6_carryOrder 0 = .ok (.aload_n 0, 1) := by decide +kernel
theorem dX6_carryOrder_1 : decode cX6_carryOrder 1 = .ok (.getfield 37, 3) := by decide +kernel
theorem dX6_carryOrder_4 : decode cX6_carryOrder 4 = .ok (.getfield 218, 3) := by decide +kernel
theorem dX6_carryOrder_7 : decode cX6_carryOrder 7 = .ok (.lookupswitch 106 #[(99, 46), (109, 63), (116, 89), (119, 41)], 41) := by decide +kernel
theorem dX6_carryOrder_48 : decode cX6_carryOrder 48 = .ok (.aload_n 0, 1) := by decide +kernel
theorem dX6_carryOrder_49 : decode cX6_carryOrder 49 = .ok (.invokevirtual 221, 3) := by decide +kernel
theorem dX6_carryOrder_52 : decode cX6_carryOrder 52 = .ok (.ireturn, 1) := by decide +kernel
theorem dX6_carryOrder_53 : decode cX6_carryOrder 53 = .ok (.aload_n 0, 1) := by decide +kernel
theorem dX6_carryOrder_54 : decode cX6_carryOrder 54 = .ok (.getfield 10, 3) := by decide +kernel
theorem dX6_carryOrder_57 : decode cX6_carryOrder 57 = .ok (.aload_n 0, 1) := by decide +kernel
theorem dX6_carryOrder_58 : decode cX6_carryOrder 58 = .ok (.getfield 37, 3) := by decide +kernel
theorem dX6_carryOrder_61 : decode cX6_carryOrder 61 = .ok (.getfield 224, 3) := by decide +kernel
theorem dX6_carryOrder_64 : decode cX6_carryOrder 64 = .ok (.iconst 0, 1) := by decide +kernel
theorem dX6_carryOrder_65 : decode cX6_carryOrder 65 = .ok (.iaload, 1) := by decide +kernel
theorem dX6_carryOrder_66 : decode cX6_carryOrder 66 = .ok (.invokevirtual 69, 3) := by decide +kernel
theorem dX6_carryOrder_69 : decode cX6_carryOrder 69 = .ok (.ireturn, 1) := by decide +kernel
theorem dX6_carryOrder_70 : decode cX6_carryOrder 70 = .ok (.aload_n 0, 1) := by decide +kernel
theorem dX6_carryOrder_71 : decode cX6_carryOrder 71 = .ok (.getfield 10, 3) := by decide +kernel
theorem dX6_carryOrder_74 : decode cX6_carryOrder 74 = .ok (.aload_n 0, 1) := by decide +kernel
theorem dX6_carryOrder_75 : decode cX6_carryOrder 75 = .ok (.getfield 37, 3) := by decide +kernel
theorem dX6_carryOrder_78 : decode cX6_carryOrder 78 = .ok (.getfield 224, 3) := by decide +kernel
theorem dX6_carryOrder_81 : decode cX6_carryOrder 81 = .ok (.iconst 0, 1) := by decide +kernel
theorem dX6_carryOrder_82 : decode cX6_carryOrder 82 = .ok (.iaload, 1) := by decide +kernel
theorem dX6_carryOrder_83 : decode cX6_carryOrder 83 = .ok (.aload_n 0, 1) := by decide +kernel
theorem dX6_carryOrder_84 : decode cX6_carryOrder 84 = .ok (.getfield 37, 3) := by decide +kernel
theorem dX6_carryOrder_87 : decode cX6_carryOrder 87 = .ok (.getfield 224, 3) := by decide +kernel
theorem dX6_carryOrder_90 : decode cX6_carryOrder 90 = .ok (.iconst 1, 1) := by decide +kernel
theorem dX6_carryOrder_91 : decode cX6_carryOrder 91 = .ok (.iaload, 1) := by decide +kernel
theorem dX6_carryOrder_92 : decode cX6_carryOrder 92 = .ok (.invokevirtual 66, 3) := by decide +kernel
theorem dX6_carryOrder_95 : decode cX6_carryOrder 95 = .ok (.ireturn, 1) := by decide +kernel
theorem dX6_carryOrder_96 : decode cX6_carryOrder 96 = .ok (.aload_n 0, 1) := by decide +kernel
theorem dX6_carryOrder_97 : decode cX6_carryOrder 97 = .ok (.getfield 10, 3) := by decide +kernel
theorem dX6_carryOrder_100 : decode cX6_carryOrder 100 = .ok (.aload_n 0, 1) := by decide +kernel
theorem dX6_carryOrder_101 : decode cX6_carryOrder 101 = .ok (.getfield 37, 3) := by decide +kernel
theorem dX6_carryOrder_104 : decode cX6_carryOrder 104 = .ok (.getfield 224, 3) := by decide +kernel
theorem dX6_carryOrder_107 : decode cX6_carryOrder 107 = .ok (.iconst 0, 1) := by decide +kernel
theorem dX6_carryOrder_108 : decode cX6_carryOrder 108 = .ok (.iaload, 1) := by decide +kernel
theorem dX6_carryOrder_109 : decode cX6_carryOrder 109 = .ok (.invokevirtual 72, 3) := by decide +kernel
theorem dX6_carryOrder_112 : decode cX6_carryOrder 112 = .ok (.ireturn, 1) := by decide +kernel
theorem dX6_carryOrder_113 : decode cX6_carryOrder 113 = .ok (.bipush (-3), 2) := by decide +kernel
theorem dX6_carryOrder_115 : decode cX6_carryOrder 115 = .ok (.ireturn, 1) := by decide +kernel
theorem dX6_carryWalkerIn_0 : decode cX6_carryWalkerIn 0 = .ok (.aload_n 0, 1) := by decide +kernel
theorem dX6_carryWalkerIn_1 : decode cX6_carryWalkerIn 1 = .ok (.getfield 10, 3) := by decide +kernel
theorem dX6_carryWalkerIn_4 : decode cX6_carryWalkerIn 4 = .ok (.aload_n 0, 1) := by decide +kernel
theorem dX6_carryWalkerIn_5 : decode cX6_carryWalkerIn 5 = .ok (.getfield 37, 3) := by decide +kernel
theorem dX6_carryWalkerIn_8 : decode cX6_carryWalkerIn 8 = .ok (.getfield 224, 3) := by decide +kernel
theorem dX6_carryWalkerIn_11 : decode cX6_carryWalkerIn 11 = .ok (.iconst 0, 1) := by decide +kernel
theorem dX6_carryWalkerIn_12 : decode cX6_carryWalkerIn 12 = .ok (.iaload, 1) := by decide +kernel
theorem dX6_carryWalkerIn_13 : decode cX6_carryWalkerIn 13 = .ok (.aload_n 0, 1) := by decide +kernel
theorem dX6_carryWalkerIn_14 : decode cX6_carryWalkerIn 14 = .ok (.getfield 37, 3) := by decide +kernel
theorem dX6_carryWalkerIn_17 : decode cX6_carryWalkerIn 17 = .ok (.getfield 224, 3) := by decide +kernel
theorem dX6_carryWalkerIn_20 : decode cX6_carryWalkerIn 20 = .ok (.iconst 1, 1) := by decide +kernel
theorem dX6_carryWalkerIn_21 : decode cX6_carryWalkerIn 21 = .ok (.iaload, 1) := by decide +kernel
theorem dX6_carryWalkerIn_22 : decode cX6_carryWalkerIn 22 = .ok (.invokevirtual 59, 3) := by decide +kernel
theorem dX6_carryWalkerIn_25 : decode cX6_carryWalkerIn 25 = .ok (.istore_n 1, 1) := by decide +kernel
theorem dX6_carryWalkerIn_26 : decode cX6_carryWalkerIn 26 = .ok (.iload_n 1, 1) := by decide +kernel
theorem dX6_carryWalkerIn_27 : decode cX6_carryWalkerIn 27 = .ok (.istore_n 2, 1) := by decide +kernel
theorem dX6_carryWalkerIn_28 : decode cX6_carryWalkerIn 28 = .ok (.iconst 2, 1) := by decide +kernel
theorem dX6_carryWalkerIn_29 : decode cX6_carryWalkerIn 29 = .ok (.istore_n 3, 1) := by decide +kernel
theorem dX6_carryWalkerIn_30 : decode cX6_carryWalkerIn 30 = .ok (.iload_n 3, 1) := by decide +kernel
theorem dX6_carryWalkerIn_31 : decode cX6_carryWalkerIn 31 = .ok (.iconst 1, 1) := by decide +kernel
theorem dX6_carryWalkerIn_32 : decode cX6_carryWalkerIn 32 = .ok (.iadd, 1) := by decide +kernel
theorem dX6_carryWalkerIn_33 : decode cX6_carryWalkerIn 33 = .ok (.aload_n 0, 1) := by decide +kernel
theorem dX6_carryWalkerIn_34 : decode cX6_carryWalkerIn 34 = .ok (.getfield 37, 3) := by decide +kernel
theorem dX6_carryWalkerIn_37 : decode cX6_carryWalkerIn 37 = .ok (.getfield 227, 3) := by decide +kernel
theorem dX6_carryWalkerIn_40 : decode cX6_carryWalkerIn 40 = .ok (.if_icmp .ge 42, 3) := by decide +kernel
theorem dX6_carryWalkerIn_43 : decode cX6_carryWalkerIn 43 = .ok (.iload_n 2, 1) := by decide +kernel
theorem dX6_carryWalkerIn_44 : decode cX6_carryWalkerIn 44 = .ok (.ifCond .lt 38, 3) := by decide +kernel
theorem dX6_carryWalkerIn_47 : decode cX6_carryWalkerIn 47 = .ok (.aload_n 0, 1) := by decide +kernel
theorem dX6_carryWalkerIn_48 : decode cX6_carryWalkerIn 48 = .ok (.getfield 10, 3) := by decide +kernel
theorem dX6_carryWalkerIn_51 : decode cX6_carryWalkerIn 51 = .ok (.iload_n 1, 1) := by decide +kernel
theorem dX6_carryWalkerIn_52 : decode cX6_carryWalkerIn 52 = .ok (.aload_n 0, 1) := by decide +kernel
theorem dX6_carryWalkerIn_53 : decode cX6_carryWalkerIn 53 = .ok (.getfield 37, 3) := by decide +kernel
theorem dX6_carryWalkerIn_56 : decode cX6_carryWalkerIn 56 = .ok (.getfield 224, 3) := by decide +kernel
theorem dX6_carryWalkerIn_59 : decode cX6_carryWalkerIn 59 = .ok (.iload_n 3, 1) := by decide +kernel
theorem dX6_carryWalkerIn_60 : decode cX6_carryWalkerIn 60 = .ok (.iaload, 1) := by decide +kernel
theorem dX6_carryWalkerIn_61 : decode cX6_carryWalkerIn 61 = .ok (.aload_n 0, 1) := by decide +kernel
theorem dX6_carryWalkerIn_62 : decode cX6_carryWalkerIn 62 = .ok (.getfield 37, 3) := by decide +kernel
theorem dX6_carryWalkerIn_65 : decode cX6_carryWalkerIn 65 = .ok (.getfield 224, 3) := by decide +kernel
theorem dX6_carryWalkerIn_68 : decode cX6_carryWalkerIn 68 = .ok (.iload_n 3, 1) := by decide +kernel
theorem dX6_carryWalkerIn_69 : decode cX6_carryWalkerIn 69 = .ok (.iconst 1, 1) := by decide +kernel
theorem dX6_carryWalkerIn_70 : decode cX6_carryWalkerIn 70 = .ok (.iadd, 1) := by decide +kernel
theorem dX6_carryWalkerIn_71 : decode cX6_carryWalkerIn 71 = .ok (.iaload, 1) := by decide +kernel
theorem dX6_carryWalkerIn_72 : decode cX6_carryWalkerIn 72 = .ok (.invokevirtual 62, 3) := by decide +kernel
theorem dX6_carryWalkerIn_75 : decode cX6_carryWalkerIn 75 = .ok (.istore_n 2, 1) := by decide +kernel
theorem dX6_carryWalkerIn_76 : decode cX6_carryWalkerIn 76 = .ok (.iinc 3 2, 3) := by decide +kernel
theorem dX6_carryWalkerIn_79 : decode cX6_carryWalkerIn 79 = .ok (.goto (-49), 3) := by decide +kernel
theorem dX6_carryWalkerIn_82 : decode cX6_carryWalkerIn 82 = .ok (.iload_n 2, 1) := by decide +kernel
theorem dX6_carryWalkerIn_83 : decode cX6_carryWalkerIn 83 = .ok (.ireturn, 1) := by decide +kernel
theorem dX6_countSigns_0 : decode cX6_countSigns 0 = .ok (.lload_n 0, 1) := by decide +kernel
theorem dX6_countSigns_1 : decode cX6_countSigns 1 = .ok (.lstore_n 2, 1) := by decide +kernel
theorem dX6_countSigns_2 : decode cX6_countSigns 2 = .ok (.iconst 0, 1) := by decide +kernel
theorem dX6_countSigns_3 : decode cX6_countSigns 3 = .ok (.istore 4, 2) := by decide +kernel
theorem dX6_countSigns_5 : decode cX6_countSigns 5 = .ok (.iconst 0, 1) := by decide +kernel
theorem dX6_countSigns_6 : decode cX6_countSigns 6 = .ok (.istore 5, 2) := by decide +kernel
theorem dX6_countSigns_8 : decode cX6_countSigns 8 = .ok (.iload 5, 2) := by decide +kernel
theorem dX6_countSigns_10 : decode cX6_countSigns 10 = .ok (.bipush 8, 2) := by decide +kernel
theorem dX6_countSigns_12 : decode cX6_countSigns 12 = .ok (.if_icmp .ge 41, 3) := by decide +kernel
theorem dX6_countSigns_15 : decode cX6_countSigns 15 = .ok (.lload_n 2, 1) := by decide +kernel
theorem dX6_countSigns_16 : decode cX6_countSigns 16 = .ok (.lconst 0, 1) := by decide +kernel
theorem dX6_countSigns_17 : decode cX6_countSigns 17 = .ok (.lcmp, 1) := by decide +kernel
theorem dX6_countSigns_18 : decode cX6_countSigns 18 = .ok (.ifCond .eq 35, 3) := by decide +kernel
theorem dX6_countSigns_21 : decode cX6_countSigns 21 = .ok (.lload_n 2, 1) := by decide +kernel
theorem dX6_countSigns_22 : decode cX6_countSigns 22 = .ok (.ldc2_w 196, 3) := by decide +kernel
theorem dX6_countSigns_25 : decode cX6_countSigns 25 = .ok (.land, 1) := by decide +kernel
theorem dX6_countSigns_26 : decode cX6_countSigns 26 = .ok (.l2i, 1) := by decide +kernel
theorem dX6_countSigns_27 : decode cX6_countSigns 27 = .ok (.bipush 33, 2) := by decide +kernel
theorem dX6_countSigns_29 : decode cX6_countSigns 29 = .ok (.bipush 126, 2) := by decide +kernel
theorem dX6_countSigns_31 : decode cX6_countSigns 31 = .ok (.invokestatic 119, 3) := by decide +kernel
theorem dX6_countSigns_34 : decode cX6_countSigns 34 = .ok (.ifCond .ne 5, 3) := by decide +kernel
theorem dX6_countSigns_37 : decode cX6_countSigns 37 = .ok (.iconst 0, 1) := by decide +kernel
theorem dX6_countSigns_38 : decode cX6_countSigns 38 = .ok (.ireturn, 1) := by decide +kernel
theorem dX6_countSigns_39 : decode cX6_countSigns 39 = .ok (.iinc 4 1, 3) := by decide +kernel
theorem dX6_countSigns_42 : decode cX6_countSigns 42 = .ok (.lload_n 2, 1) := by decide +kernel
theorem dX6_countSigns_43 : decode cX6_countSigns 43 = .ok (.bipush 8, 2) := by decide +kernel
theorem dX6_countSigns_45 : decode cX6_countSigns 45 = .ok (.lushr, 1) := by decide +kernel
theorem dX6_countSigns_46 : decode cX6_countSigns 46 = .ok (.lstore_n 2, 1) := by decide +kernel
theorem dX6_countSigns_47 : decode cX6_countSigns 47 = .ok (.iinc 5 1, 3) := by decide +kernel
theorem dX6_countSigns_50 : decode cX6_countSigns 50 = .ok (.goto (-42), 3) := by decide +kernel
theorem dX6_countSigns_53 : decode cX6_countSigns 53 = .ok (.iload 4, 2) := by decide +kernel
theorem dX6_countSigns_55 : decode cX6_countSigns 55 = .ok (.ireturn, 1) := by decide +kernel
theorem dX6_undo_0 : decode cX6_undo 0 = .ok (.aload_n 0, 1) := by decide +kernel
theorem dX6_undo_1 : decode cX6_undo 1 = .ok (.getfield 30, 3) := by decide +kernel
theorem dX6_undo_4 : decode cX6_undo 4 = .ok (.aload_n 0, 1) := by decide +kernel
theorem dX6_undo_5 : decode cX6_undo 5 = .ok (.getfield 10, 3) := by decide +kernel
theorem dX6_undo_8 : decode cX6_undo 8 = .ok (.invokevirtual 230, 3) := by decide +kernel
theorem dX6_undo_11 : decode cX6_undo 11 = .ok (.ireturn, 1) := by decide +kernel
theorem dX6_save_0 : decode cX6_save 0 = .ok (.iload_n 1, 1) := by decide +kernel
theorem dX6_save_1 : decode cX6_save 1 = .ok (.iconst 0, 1) := by decide +kernel
theorem dX6_save_2 : decode cX6_save 2 = .ok (.iconst 1, 1) := by decide +kernel
theorem dX6_save_3 : decode cX6_save 3 = .ok (.invokestatic 119, 3) := by decide +kernel
theorem dX6_save_6 : decode cX6_save 6 = .ok (.ifCond .ne 6, 3) := by decide +kernel
theorem dX6_save_9 : decode cX6_save 9 = .ok (.bipush (-2), 2) := by decide +kernel
theorem dX6_save_11 : decode cX6_save 11 = .ok (.ireturn, 1) := by decide +kernel
theorem dX6_save_12 : decode cX6_save 12 = .ok (.aload_n 0, 1) := by decide +kernel
theorem dX6_save_13 : decode cX6_save 13 = .ok (.getfield 19, 3) := by decide +kernel
theorem dX6_save_16 : decode cX6_save 16 = .ok (.iload_n 1, 1) := by decide +kernel
theorem dX6_save_17 : decode cX6_save 17 = .ok (.aaload, 1) := by decide +kernel
theorem dX6_save_18 : decode cX6_save 18 = .ok (.aload_n 0, 1) := by decide +kernel
theorem dX6_save_19 : decode cX6_save 19 = .ok (.getfield 10, 3) := by decide +kernel
theorem dX6_save_22 : decode cX6_save 22 = .ok (.invokevirtual 177, 3) := by decide +kernel
theorem dX6_save_25 : decode cX6_save 25 = .ok (.aload_n 0, 1) := by decide +kernel
theorem dX6_save_26 : decode cX6_save 26 = .ok (.getfield 23, 3) := by decide +kernel
theorem dX6_save_29 : decode cX6_save 29 = .ok (.iload_n 1, 1) := by decide +kernel
theorem dX6_save_30 : decode cX6_save 30 = .ok (.iconst 1, 1) := by decide +kernel
theorem dX6_save_31 : decode cX6_save 31 = .ok (.bastore, 1) := by decide +kernel
theorem dX6_save_32 : decode cX6_save 32 = .ok (.aload_n 0, 1) := by decide +kernel
theorem dX6_save_33 : decode cX6_save 33 = .ok (.getfield 10, 3) := by decide +kernel
theorem dX6_save_36 : decode cX6_save 36 = .ok (.getfield 127, 3) := by decide +kernel
theorem dX6_save_39 : decode cX6_save 39 = .ok (.ireturn, 1) := by decide +kernel
theorem dX6_restore_0 : decode cX6_restore 0 = .ok (.iload_n 1, 1) := by decide +kernel
theorem dX6_restore_1 : decode cX6_restore 1 = .ok (.iconst 0, 1) := by decide +kernel
theorem dX6_restore_2 : decode cX6_restore 2 = .ok (.iconst 1, 1) := by decide +kernel
theorem dX6_restore_3 : decode cX6_restore 3 = .ok (.invokestatic 119, 3) := by decide +kernel
theorem dX6_restore_6 : decode cX6_restore 6 = .ok (.ifCond .ne 6, 3) := by decide +kernel
theorem dX6_restore_9 : decode cX6_restore 9 = .ok (.bipush (-2), 2) := by decide +kernel
theorem dX6_restore_11 : decode cX6_restore 11 = .ok (.ireturn, 1) := by decide +kernel
theorem dX6_restore_12 : decode cX6_restore 12 = .ok (.aload_n 0, 1) := by decide +kernel
theorem dX6_restore_13 : decode cX6_restore 13 = .ok (.getfield 23, 3) := by decide +kernel
theorem dX6_restore_16 : decode cX6_restore 16 = .ok (.iload_n 1, 1) := by decide +kernel
theorem dX6_restore_17 : decode cX6_restore 17 = .ok (.baload, 1) := by decide +kernel
theorem dX6_restore_18 : decode cX6_restore 18 = .ok (.ifCond .ne 6, 3) := by decide +kernel
theorem dX6_restore_21 : decode cX6_restore 21 = .ok (.bipush (-5), 2) := by decide +kernel
theorem dX6_restore_23 : decode cX6_restore 23 = .ok (.ireturn, 1) := by decide +kernel
theorem dX6_restore_24 : decode cX6_restore 24 = .ok (.aload_n 0, 1) := by decide +kernel
theorem dX6_restore_25 : decode cX6_restore 25 = .ok (.getfield 30, 3) := by decide +kernel
theorem dX6_restore_28 : decode cX6_restore 28 = .ok (.aload_n 0, 1) := by decide +kernel
theorem dX6_restore_29 : decode cX6_restore 29 = .ok (.getfield 10, 3) := by decide +kernel
theorem dX6_restore_32 : decode cX6_restore 32 = .ok (.invokevirtual 41, 3) := by decide +kernel
theorem dX6_restore_35 : decode cX6_restore 35 = .ok (.aload_n 0, 1) := by decide +kernel
theorem dX6_restore_36 : decode cX6_restore 36 = .ok (.getfield 10, 3) := by decide +kernel
theorem dX6_restore_39 : decode cX6_restore 39 = .ok (.aload_n 0, 1) := by decide +kernel
theorem dX6_restore_40 : decode cX6_restore 40 = .ok (.getfield 19, 3) := by decide +kernel
theorem dX6_restore_43 : decode cX6_restore 43 = .ok (.iload_n 1, 1) := by decide +kernel
theorem dX6_restore_44 : decode cX6_restore 44 = .ok (.aaload, 1) := by decide +kernel
theorem dX6_restore_45 : decode cX6_restore 45 = .ok (.invokevirtual 177, 3) := by decide +kernel
theorem dX6_restore_48 : decode cX6_restore 48 = .ok (.aload_n 0, 1) := by decide +kernel
theorem dX6_restore_49 : decode cX6_restore 49 = .ok (.getfield 30, 3) := by decide +kernel
theorem dX6_restore_52 : decode cX6_restore 52 = .ok (.aload_n 0, 1) := by decide +kernel
theorem dX6_restore_53 : decode cX6_restore 53 = .ok (.getfield 10, 3) := by decide +kernel
theorem dX6_restore_56 : decode cX6_restore 56 = .ok (.getfield 127, 3) := by decide +kernel
theorem dX6_restore_59 : decode cX6_restore 59 = .ok (.invokevirtual 49, 3) := by decide +kernel
theorem dX6_restore_62 : decode cX6_restore 62 = .ok (.ireturn, 1) := by decide +kernel
theorem dX6_within_0 : decode cX6_within 0 = .ok (.iload_n 0, 1) := by decide +kernel
theorem dX6_within_1 : decode cX6_within 1 = .ok (.iload_n 1, 1) := by decide +kernel
theorem dX6_within_2 : decode cX6_within 2 = .ok (.if_icmp .lt 12, 3) := by decide +kernel
theorem dX6_within_5 : decode cX6_within 5 = .ok (.iload_n 0, 1) := by decide +kernel
theorem dX6_within_6 : decode cX6_within 6 = .ok (.iload_n 2, 1) := by decide +kernel
theorem dX6_within_7 : decode cX6_within 7 = .ok (.if_icmp .gt 7, 3) := by decide +kernel
theorem dX6_within_10 : decode cX6_within 10 = .ok (.iconst 1, 1) := by decide +kernel
theorem dX6_within_11 : decode cX6_within 11 = .ok (.goto 4, 3) := by decide +kernel
theorem dX6_within_14 : decode cX6_within 14 = .ok (.iconst 0, 1) := by decide +kernel
theorem dX6_within_15 : decode cX6_within 15 = .ok (.ireturn, 1) := by decide +kernel
theorem dX6_isStep_0 : decode cX6_isStep 0 = .ok (.iload_n 0, 1) := by decide +kernel
theorem dX6_isStep_1 : decode cX6_isStep 1 = .ok (.iconst 0, 1) := by decide +kernel
theorem dX6_isStep_2 : decode cX6_isStep 2 = .ok (.bipush 99, 2) := by decide +kernel
theorem dX6_isStep_4 : decode cX6_isStep 4 = .ok (.invokestatic 119, 3) := by decide +kernel
theorem dX6_isStep_7 : decode cX6_isStep 7 = .ok (.ireturn, 1) := by decide +kernel
theorem dX6_isTicks_0 : decode cX6_isTicks 0 = .ok (.iload_n 0, 1) := by decide +kernel
theorem dX6_isTicks_1 : decode cX6_isTicks 1 = .ok (.iconst 1, 1) := by decide +kernel
theorem dX6_isTicks_2 : decode cX6_isTicks 2 = .ok (.sipush 200, 3) := by decide +kernel
theorem dX6_isTicks_5 : decode cX6_isTicks 5 = .ok (.invokestatic 119, 3) := by decide +kernel
theorem dX6_isTicks_8 : decode cX6_isTicks 8 = .ok (.ireturn, 1) := by decide +kernel
theorem dX7_init_0 : decode cX7_init 0 = .ok (.aload_n 0, 1) := by decide +kernel
theorem dX7_init_1 : decode cX7_init 1 = .ok (.invokespecial 1, 3) := by decide +kernel
theorem dX7_init_4 : decode cX7_init 4 = .ok (.aload_n 0, 1) := by decide +kernel
theorem dX7_init_5 : decode cX7_init 5 = .ok (.sipush 440, 3) := by decide +kernel
theorem dX7_init_8 : decode cX7_init 8 = .ok (.newarray .int, 2) := by decide +kernel
theorem dX7_init_10 : decode cX7_init 10 = .ok (.putfield 7, 3) := by decide +kernel
theorem dX7_init_13 : decode cX7_init 13 = .ok (.aload_n 0, 1) := by decide +kernel
theorem dX7_init_14 : decode cX7_init 14 = .ok (.sipush 2640, 3) := by decide +kernel
theorem dX7_init_17 : decode cX7_init 17 = .ok (.newarray .int, 2) := by decide +kernel
theorem dX7_init_19 : decode cX7_init 19 = .ok (.putfield 13, 3) := by decide +kernel
theorem dX7_init_22 : decode cX7_init 22 = .ok (.aload_n 0, 1) := by decide +kernel
theorem dX7_init_23 : decode cX7_init 23 = .ok (.sipush 880, 3) := by decide +kernel
theorem dX7_init_26 : decode cX7_init 26 = .ok (.newarray .int, 2) := by decide +kernel
theorem dX7_init_28 : decode cX7_init 28 = .ok (.putfield 16, 3) := by decide +kernel
theorem dX7_init_31 : decode cX7_init 31 = .ok (.aload_n 0, 1) := by decide +kernel
theorem dX7_init_32 : decode cX7_init 32 = .ok (.iconst 2, 1) := by decide +kernel
theorem dX7_init_33 : decode cX7_init 33 = .ok (.newarray .boolean, 2) := by decide +kernel
theorem dX7_init_35 : decode cX7_init 35 = .ok (.putfield 19, 3) := by decide +kernel
theorem dX7_init_38 : decode cX7_init 38 = .ok (.aload_n 0, 1) := by decide +kernel
theorem dX7_init_39 : decode cX7_init 39 = .ok (.sipush 440, 3) := by decide +kernel
theorem dX7_init_42 : decode cX7_init 42 = .ok (.newarray .int, 2) := by decide +kernel
theorem dX7_init_44 : decode cX7_init 44 = .ok (.putfield 23, 3) := by decide +kernel
theorem dX7_init_47 : decode cX7_init 47 = .ok (.aload_n 0, 1) := by decide +kernel
theorem dX7_init_48 : decode cX7_init 48 = .ok (.bipush 16, 2) := by decide +kernel
theorem dX7_init_50 : decode cX7_init 50 = .ok (.newarray .int, 2) := by decide +kernel
theorem dX7_init_52 : decode cX7_init 52 = .ok (.putfield 26, 3) := by decide +kernel
theorem dX7_init_55 : decode cX7_init 55 = .ok (.aload_n 0, 1) := by decide +kernel
theorem dX7_init_56 : decode cX7_init 56 = .ok (.bipush 16, 2) := by decide +kernel
theorem dX7_init_58 : decode cX7_init 58 = .ok (.newarray .int, 2) := by decide +kernel
theorem dX7_init_60 : decode cX7_init 60 = .ok (.putfield 29, 3) := by decide +kernel
theorem dX7_init_63 : decode cX7_init 63 = .ok (.aload_n 0, 1) := by decide +kernel
theorem dX7_init_64 : decode cX7_init 64 = .ok (.bipush 80, 2) := by decide +kernel
theorem dX7_init_66 : decode cX7_init 66 = .ok (.newarray .int, 2) := by decide +kernel
theorem dX7_init_68 : decode cX7_init 68 = .ok (.putfield 32, 3) := by decide +kernel
theorem dX7_init_71 : decode cX7_init 71 = .ok (.aload_n 0, 1) := by decide +kernel
theorem dX7_init_72 : decode cX7_init 72 = .ok (.bipush 29, 2) := by decide +kernel
theorem dX7_init_74 : decode cX7_init 74 = .ok (.newarray .int, 2) := by decide +kernel
theorem dX7_init_76 : decode cX7_init 76 = .ok (.putfield 35, 3) := by decide +kernel
theorem dX7_init_79 : decode cX7_init 79 = .ok (.aload_n 0, 1) := by decide +kernel
theorem dX7_init_80 : decode cX7_init 80 = .ok (.bipush 30, 2) := by decide +kernel
theorem dX7_init_82 : decode cX7_init 82 = .ok (.newarray .int, 2) := by decide +kernel
theorem dX7_init_84 : decode cX7_init 84 = .ok (.putfield 38, 3) := by decide +kernel
theorem dX7_init_87 : decode cX7_init 87 = .ok (.aload_n 0, 1) := by decide +kernel
theorem dX7_init_88 : decode cX7_init 88 = .ok (.bipush 92, 2) := by decide +kernel
theorem dX7_init_90 : decode cX7_init 90 = .ok (.newarray .int, 2) := by decide +kernel
theorem dX7_init_92 : decode cX7_init 92 = .ok (.putfield 41, 3) := by decide +kernel
theorem dX7_init_95 : decode cX7_init 95 = .ok (.aload_n 0, 1) := by decide +kernel
theorem dX7_init_96 : decode cX7_init 96 = .ok (.getfield 7, 3) := by decide +kernel
theorem dX7_init_99 : decode cX7_init 99 = .ok (.iconst 0, 1) := by decide +kernel
theorem dX7_init_100 : decode cX7_init 100 = .ok (.iconst 3, 1) := by decide +kernel
theorem dX7_init_101 : decode cX7_init 101 = .ok (.iastore, 1) := by decide +kernel
theorem dX7_init_102 : decode cX7_init 102 = .ok (.aload_n 0, 1) := by decide +kernel
theorem dX7_init_103 : decode cX7_init 103 = .ok (.getfield 7, 3) := by decide +kernel
theorem dX7_init_106 : decode cX7_init 106 = .ok (.iconst 1, 1) := by decide +kernel
theorem dX7_init_107 : decode cX7_init 107 = .ok (.bipush 14, 2) := by decide +kernel
theorem dX7_init_109 : decode cX7_init 109 = .ok (.iastore, 1) := by decide +kernel
theorem dX7_init_110 : decode cX7_init 110 = .ok (.aload_n 0, 1) := by decide +kernel
theorem dX7_init_111 : decode cX7_init 111 = .ok (.getfield 7, 3) := by decide +kernel
theorem dX7_init_114 : decode cX7_init 114 = .ok (.iconst 2, 1) := by decide +kernel
theorem dX7_init_115 : decode cX7_init 115 = .ok (.bipush 8, 2) := by decide +kernel
theorem dX7_init_117 : decode cX7_init 117 = .ok (.iastore, 1) := by decide +kernel
theorem dX7_init_118 : decode cX7_init 118 = .ok (.aload_n 0, 1) := by decide +kernel
theorem dX7_init_119 : decode cX7_init 119 = .ok (.getfield 7, 3) := by decide +kernel
theorem dX7_init_122 : decode cX7_init 122 = .ok (.iconst 3, 1) := by decide +kernel
theorem dX7_init_123 : decode cX7_init 123 = .ok (.bipush 6, 2) := by decide +kernel
theorem dX7_init_125 : decode cX7_init 125 = .ok (.iastore, 1) := by decide +kernel
theorem dX7_init_126 : decode cX7_init 126 = .ok (.aload_n 0, 1) := by decide +kernel
theorem dX7_init_127 : decode cX7_init 127 = .ok (.getfield 7, 3) := by decide +kernel
theorem dX7_init_130 : decode cX7_init 130 = .ok (.iconst 4, 1) := by decide +kernel
theorem dX7_init_131 : decode cX7_init 131 = .ok (.iconst 2, 1) := by decide +kernel
theorem dX7_init_132 : decode cX7_init 132 = .ok (.iastore, 1) := by decide +kernel
theorem dX7_init_133 : decode cX7_init 133 = .ok (.aload_n 0, 1) := by decide +kernel
theorem dX7_init_134 : decode cX7_init 134 = .ok (.getfield 7, 3) := by decide +kernel
theorem dX7_init_137 : decode cX7_init 137 = .ok (.iconst 5, 1) := by decide +kernel
theorem dX7_init_138 : decode cX7_init 138 = .ok (.iconst 2, 1) := by decide +kernel
theorem dX7_init_139 : decode cX7_init 139 = .ok (.iastore, 1) := by decide +kernel
theorem dX7_init_140 : decode cX7_init 140 = .ok (.return_, 1) := by decide +kernel
theorem dX7_in_0 : decode cX7_in 0 = .ok (.iload_n 0, 1) := by decide +kernel
theorem dX7_in_1 : decode cX7_in 1 = .ok (.iload_n 1, 1) := by decide +kernel
theorem dX7_in_2 : decode cX7_in 2 = .ok (.if_icmp .lt 12, 3) := by decide +kernel
theorem dX7_in_5 : decode cX7_in 5 = .ok (.iload_n 0, 1) := by decide +kernel
theorem dX7_in_6 : decode cX7_in 6 = .ok (.iload_n 2, 1) := by decide +kernel
theorem dX7_in_7 : decode cX7_in 7 = .ok (.if_icmp .gt 7, 3) := by decide +kernel
theorem dX7_in_10 : decode cX7_in 10 = .ok (.iconst 1, 1) := by decide +kernel
theorem dX7_in_11 : decode cX7_in 11 = .ok (.goto 4, 3) := by decide +kernel
theorem dX7_in_14 : decode cX7_in 14 = .ok (.iconst 0, 1) := by decide +kernel
theorem dX7_in_15 : decode cX7_in 15 = .ok (.ireturn, 1) := by decide +kernel
theorem dX7_far_0 : decode cX7_far 0 = .ok (.iload_n 0, 1) := by decide +kernel
theorem dX7_far_1 : decode cX7_far 1 = .ok (.iload_n 1, 1) := by decide +kernel
theorem dX7_far_2 : decode cX7_far 2 = .ok (.if_icmp .ge 9, 3) := by decide +kernel
theorem dX7_far_5 : decode cX7_far 5 = .ok (.iload_n 1, 1) := by decide +kernel
theorem dX7_far_6 : decode cX7_far 6 = .ok (.iload_n 0, 1) := by decide +kernel
theorem dX7_far_7 : decode cX7_far 7 = .ok (.isub, 1) := by decide +kernel
theorem dX7_far_8 : decode cX7_far 8 = .ok (.goto 6, 3) := by decide +kernel
theorem dX7_far_11 : decode cX7_far 11 = .ok (.iload_n 0, 1) := by decide +kernel
theorem dX7_far_12 : decode cX7_far 12 = .ok (.iload_n 1, 1) := by decide +kernel
theorem dX7_far_13 : decode cX7_far 13 = .ok (.isub, 1) := by decide +kernel
theorem dX7_far_14 : decode cX7_far 14 = .ok (.ireturn, 1) := by decide +kernel
theorem dX7_isStep_0 : decode cX7_isStep 0 = .ok (.iload_n 0, 1) := by decide +kernel
theorem dX7_isStep_1 : decode cX7_isStep 1 = .ok (.iconst 0, 1) := by decide +kernel
theorem dX7_isStep_2 : decode cX7_isStep 2 = .ok (.bipush 99, 2) := by decide +kernel
theorem dX7_isStep_4 : decode cX7_isStep 4 = .ok (.invokestatic 44, 3) := by decide +kernel
theorem dX7_isStep_7 : decode cX7_isStep 7 = .ok (.ireturn, 1) := by decide +kernel
theorem dX7_ofL_0 : decode cX7_ofL 0 = .ok (.aload_n 0, 1) := by decide +kernel
theorem dX7_ofL_1 : decode cX7_ofL 1 = .ok (.getfield 7, 3) := by decide +kernel
theorem dX7_ofL_4 : decode cX7_ofL 4 = .ok (.bipush 10, 2) := by decide +kernel
theorem dX7_ofL_6 : decode cX7_ofL 6 = .ok (.bipush 13, 2) := by decide +kernel
theorem dX7_ofL_8 : decode cX7_ofL 8 = .ok (.iload_n 1, 1) := by decide +kernel
theorem dX7_ofL_9 : decode cX7_ofL 9 = .ok (.imul, 1) := by decide +kernel
theorem dX7_ofL_10 : decode cX7_ofL 10 = .ok (.iadd, 1) := by decide +kernel
theorem dX7_ofL_11 : decode cX7_ofL 11 = .ok (.iload_n 2, 1) := by decide +kernel
theorem dX7_ofL_12 : decode cX7_ofL 12 = .ok (.iadd, 1) := by decide +kernel
theorem dX7_ofL_13 : decode cX7_ofL 13 = .ok (.iaload, 1) := by decide +kernel
theorem dX7_ofL_14 : decode cX7_ofL 14 = .ok (.ireturn, 1) := by decide +kernel
theorem dX7_layL_0 : decode cX7_layL 0 = .ok (.aload_n 0, 1) := by decide +kernel
theorem dX7_layL_1 : decode cX7_layL 1 = .ok (.getfield 7, 3) := by decide +kernel
theorem dX7_layL_4 : decode cX7_layL 4 = .ok (.bipush 10, 2) := by decide +kernel
theorem dX7_layL_6 : decode cX7_layL 6 = .ok (.bipush 13, 2) := by decide +kernel
theorem dX7_layL_8 : decode cX7_layL 8 = .ok (.iload_n 1, 1) := by decide +kernel
theorem dX7_layL_9 : decode cX7_layL 9 = .ok (.imul, 1) := by decide +kernel
theorem dX7_layL_10 : decode cX7_layL 10 = .ok (.iadd, 1) := by decide +kernel
theorem dX7_layL_11 : decode cX7_layL 11 = .ok (.iload_n 2, 1) := by decide +kernel
theorem dX7_layL_12 : decode cX7_layL 12 = .ok (.iadd, 1) := by decide +kernel
theorem dX7_layL_13 : decode cX7_layL 13 = .ok (.iload_n 3, 1) := by decide +kernel
theorem dX7_layL_14 : decode cX7_layL 14 = .ok (.iastore, 1) := by decide +kernel
theorem dX7_layL_15 : decode cX7_layL 15 = .ok (.return_, 1) := by decide +kernel
theorem dX7_moreL_0 : decode cX7_moreL 0 = .ok (.aload_n 0, 1) := by decide +kernel
theorem dX7_moreL_1 : decode cX7_moreL 1 = .ok (.getfield 7, 3) := by decide +kernel
theorem dX7_moreL_4 : decode cX7_moreL 4 = .ok (.bipush 10, 2) := by decide +kernel
theorem dX7_moreL_6 : decode cX7_moreL 6 = .ok (.bipush 13, 2) := by decide +kernel
theorem dX7_moreL_8 : decode cX7_moreL 8 = .ok (.iload_n 1, 1) := by decide +kernel
theorem dX7_moreL_9 : decode cX7_moreL 9 = .ok (.imul, 1) := by decide +kernel
theorem dX7_moreL_10 : decode cX7_moreL 10 = .ok (.iadd, 1) := by decide +kernel
theorem dX7_moreL_11 : decode cX7_moreL 11 = .ok (.iload_n 2, 1) := by decide +kernel
theorem dX7_moreL_12 : decode cX7_moreL 12 = .ok (.iadd, 1) := by decide +kernel
theorem dX7_moreL_13 : decode cX7_moreL 13 = .ok (.dup2, 1) := by decide +kernel
theorem dX7_moreL_14 : decode cX7_moreL 14 = .ok (.iaload, 1) := by decide +kernel
theorem dX7_moreL_15 : decode cX7_moreL 15 = .ok (.iload_n 3, 1) := by decide +kernel
theorem dX7_moreL_16 : decode cX7_moreL 16 = .ok (.iadd, 1) := by decide +kernel
theorem dX7_moreL_17 : decode cX7_moreL 17 = .ok (.iastore, 1) := by decide +kernel
theorem dX7_moreL_18 : decode cX7_moreL 18 = .ok (.return_, 1) := by decide +kernel
theorem dX7_ofW_0 : decode cX7_ofW 0 = .ok (.aload_n 0, 1) := by decide +kernel
theorem dX7_ofW_1 : decode cX7_ofW 1 = .ok (.getfield 7, 3) := by decide +kernel
theorem dX7_ofW_4 : decode cX7_ofW 4 = .ok (.sipush 242, 3) := by decide +kernel
theorem dX7_ofW_7 : decode cX7_ofW 7 = .ok (.bipush 22, 2) := by decide +kernel
theorem dX7_ofW_9 : decode cX7_ofW 9 = .ok (.iload_n 1, 1) := by decide +kernel
theorem dX7_ofW_10 : decode cX7_ofW 10 = .ok (.imul, 1) := by decide +kernel
theorem dX7_ofW_11 : decode cX7_ofW 11 = .ok (.iadd, 1) := by decide +kernel
theorem dX7_ofW_12 : decode cX7_ofW 12 = .ok (.iload_n 2, 1) := by decide +kernel
theorem dX7_ofW_13 : decode cX7_ofW 13 = .ok (.iadd, 1) := by decide +kernel
theorem dX7_ofW_14 : decode cX7_ofW 14 = .ok (.iaload, 1) := by decide +kernel
theorem dX7_ofW_15 : decode cX7_ofW 15 = .ok (.ireturn, 1) := by decide +kernel
theorem dX7_layW_0 : decode cX7_layW 0 = .ok (.aload_n 0, 1) := by decide +kernel
theorem dX7_layW_1 : decode cX7_layW 1 = .ok (.getfield 7, 3) := by decide +kernel
theorem dX7_layW_4 : decode cX7_layW 4 = .ok (.sipush 242, 3) := by decide +kernel
theorem dX7_layW_7 : decode cX7_layW 7 = .ok (.bipush 22, 2) := by decide +kernel
theorem dX7_layW_9 : decode cX7_layW 9 = .ok (.iload_n 1, 1) := by decide +kernel
theorem dX7_layW_10 : decode cX7_layW 10 = .ok (.imul, 1) := by decide +kernel
theorem dX7_layW_11 : decode cX7_layW 11 = .ok (.iadd, 1) := by decide +kernel
theorem dX7_layW_12 : decode cX7_layW 12 = .ok (.iload_n 2, 1) := by decide +kernel
theorem dX7_layW_13 : decode cX7_layW 13 = .ok (.iadd, 1) := by decide +kernel
theorem dX7_layW_14 : decode cX7_layW 14 = .ok (.iload_n 3, 1) := by decide +kernel
theorem dX7_layW_15 : decode cX7_layW 15 = .ok (.iastore, 1) := by decide +kernel
theorem dX7_layW_16 : decode cX7_layW 16 = .ok (.return_, 1) := by decide +kernel
theorem dX7_ofH_0 : decode cX7_ofH 0 = .ok (.aload_n 0, 1) := by decide +kernel
theorem dX7_ofH_1 : decode cX7_ofH 1 = .ok (.getfield 7, 3) := by decide +kernel
theorem dX7_ofH_4 : decode cX7_ofH 4 = .ok (.sipush 218, 3) := by decide +kernel
theorem dX7_ofH_7 : decode cX7_ofH 7 = .ok (.iconst 3, 1) := by decide +kernel
theorem dX7_ofH_8 : decode cX7_ofH 8 = .ok (.iload_n 1, 1) := by decide +kernel
theorem dX7_ofH_9 : decode cX7_ofH 9 = .ok (.imul, 1) := by decide +kernel
theorem dX7_ofH_10 : decode cX7_ofH 10 = .ok (.iadd, 1) := by decide +kernel
theorem dX7_ofH_11 : decode cX7_ofH 11 = .ok (.iload_n 2, 1) := by decide +kernel
theorem dX7_ofH_12 : decode cX7_ofH 12 = .ok (.iadd, 1) := by decide +kernel
theorem dX7_ofH_13 : decode cX7_ofH 13 = .ok (.iaload, 1) := by decide +kernel
theorem dX7_ofH_14 : decode cX7_ofH 14 = .ok (.ireturn, 1) := by decide +kernel
theorem dX7_isLamp_0 : decode cX7_isLamp 0 = .ok (.iload_n 1, 1) := by decide +kernel
theorem dX7_isLamp_1 : decode cX7_isLamp 1 = .ok (.iconst 0, 1) := by decide +kernel
theorem dX7_isLamp_2 : decode cX7_isLamp 2 = .ok (.aload_n 0, 1) := by decide +kernel
theorem dX7_isLamp_3 : decode cX7_isLamp 3 = .ok (.getfield 7, 3) := by decide +kernel
theorem dX7_isLamp_6 : decode cX7_isLamp 6 = .ok (.bipush 7, 2) := by decide +kernel
theorem dX7_isLamp_8 : decode cX7_isLamp 8 = .ok (.iaload, 1) := by decide +kernel
theorem dX7_isLamp_9 : decode cX7_isLamp 9 = .ok (.iconst 1, 1) := by decide +kernel
theorem dX7_isLamp_10 : decode cX7_isLamp 10 = .ok (.isub, 1) := by decide +kernel
theorem dX7_isLamp_11 : decode cX7_isLamp 11 = .ok (.invokestatic 44, 3) := by decide +kernel
theorem dX7_isLamp_14 : decode cX7_isLamp 14 = .ok (.ireturn, 1) := by decide +kernel
theorem dX7_isWalker_0 : decode cX7_isWalker 0 = .ok (.iload_n 1, 1) := by decide +kernel
theorem dX7_isWalker_1 : decode cX7_isWalker 1 = .ok (.iconst 0, 1) := by decide +kernel
theorem dX7_isWalker_2 : decode cX7_isWalker 2 = .ok (.aload_n 0, 1) := by decide +kernel
theorem dX7_isWalker_3 : decode cX7_isWalker 3 = .ok (.getfield 7, 3) := by decide +kernel
theorem dX7_isWalker_6 : decode cX7_isWalker 6 = .ok (.bipush 9, 2) := by decide +kernel
theorem dX7_isWalker_8 : decode cX7_isWalker 8 = .ok (.iaload, 1) := by decide +kernel
theorem dX7_isWalker_9 : decode cX7_isWalker 9 = .ok (.iconst 1, 1) := by decide +kernel
theorem dX7_isWalker_10 : decode cX7_isWalker 10 = .ok (.isub, 1) := by decide +kernel
theorem dX7_isWalker_11 : decode cX7_isWalker 11 = .ok (.invokestatic 44, 3) := by decide +kernel
theorem dX7_isWalker_14 : decode cX7_isWalker 14 = .ok (.ireturn, 1) := by decide +kernel
theorem dX7_isInStreet_0 : decode cX7_isInStreet 0 = .ok (.aload_n 0, 1) := by decide +kernel
theorem dX7_isInStreet_1 : decode cX7_isInStreet 1 = .ok (.iload_n 1, 1) := by decide +kernel
theorem dX7_isInStreet_2 : decode cX7_isInStreet 2 = .ok (.iconst 2, 1) := by decide +kernel
theorem dX7_isInStreet_3 : decode cX7_isInStreet 3 = .ok (.invokevirtual 48, 3) := by decide +kernel
theorem dX7_isInStreet_6 : decode cX7_isInStreet 6 = .ok (.ifCond .ne 7, 3) := by decide +kernel
theorem dX7_isInStreet_9 : decode cX7_isInStreet 9 = .ok (.iconst 1, 1) := by decide +kernel
theorem dX7_isInStreet_10 : decode cX7_isInStreet 10 = .ok (.goto 4, 3) := by decide +kernel
theorem dX7_isInStreet_13 : decode cX7_isInStreet 13 = .ok (.iconst 0, 1) := by decide +kernel
theorem dX7_isInStreet_14 : decode cX7_isInStreet 14 = .ok (.ireturn, 1) := by decide +kernel
theorem dX7_keep_0 : decode cX7_keep 0 = .ok (.aload_n 0, 1) := by decide +kernel
theorem dX7_keep_1 : decode cX7_keep 1 = .ok (.getfield 52, 3) := by decide +kernel
theorem dX7_keep_4 : decode cX7_keep 4 = .ok (.bipush 6, 2) := by decide +kernel
theorem dX7_keep_6 : decode cX7_keep 6 = .ok (.if_icmp .ne 26, 3) := by decide +kernel
theorem dX7_keep_9 : decode cX7_keep 9 = .ok (.aload_n 0, 1) := by decide +kernel
theorem dX7_keep_10 : decode cX7_keep 10 = .ok (.aload_n 0, 1) := by decide +kernel
theorem dX7_keep_11 : decode cX7_keep 11 = .ok (.getfield 56, 3) := by decide +kernel
theorem dX7_keep_14 : decode cX7_keep 14 = .ok (.iconst 1, 1) := by decide +kernel
theorem dX7_keep_15 : decode cX7_keep 15 = .ok (.iadd, 1) := by decide +kernel
theorem dX7_keep_16 : decode cX7_keep 16 = .ok (.bipush 6, 2) := by decide +kernel
theorem dX7_keep_18 : decode cX7_keep 18 = .ok (.irem, 1) := by decide +kernel
theorem dX7_keep_19 : decode cX7_keep 19 = .ok (.putfield 56, 3) := by decide +kernel
theorem dX7_keep_22 : decode cX7_keep 22 = .ok (.aload_n 0, 1) := by decide +kernel
theorem dX7_keep_23 : decode cX7_keep 23 = .ok (.dup, 1) := by decide +kernel
theorem dX7_keep_24 : decode cX7_keep 24 = .ok (.getfield 52, 3) := by decide +kernel
theorem dX7_keep_27 : decode cX7_keep 27 = .ok (.iconst 1, 1) := by decide +kernel
theorem dX7_keep_28 : decode cX7_keep 28 = .ok (.isub, 1) := by decide +kernel
theorem dX7_keep_29 : decode cX7_keep 29 = .ok (.putfield 52, 3) := by decide +kernel
theorem dX7_keep_32 : decode cX7_keep 32 = .ok (.aload_n 0, 1) := by decide +kernel
theorem dX7_keep_33 : decode cX7_keep 33 = .ok (.getfield 56, 3) := by decide +kernel
theorem dX7_keep_36 : decode cX7_keep 36 = .ok (.aload_n 0, 1) := by decide +kernel
theorem dX7_keep_37 : decode cX7_keep 37 = .ok (.getfield 52, 3) := by decide +kernel
theorem dX7_keep_40 : decode cX7_keep 40 = .ok (.iadd, 1) := by decide +kernel
theorem dX7_keep_41 : decode cX7_keep 41 = .ok (.bipush 6, 2) := by decide +kernel
theorem dX7_keep_43 : decode cX7_keep 43 = .ok (.irem, 1) := by decide +kernel
theorem dX7_keep_44 : decode cX7_keep 44 = .ok (.istore_n 1, 1) := by decide +kernel
theorem dX7_keep_45 : decode cX7_keep 45 = .ok (.iconst 0, 1) := by decide +kernel
theorem dX7_keep_46 : decode cX7_keep 46 = .ok (.istore_n 2, 1) := by decide +kernel
theorem dX7_keep_47 : decode cX7_keep 47 = .ok (.iload_n 2, 1) := by decide +kernel
theorem dX7_keep_48 : decode cX7_keep 48 = .ok (.sipush 440, 3) := by decide +kernel
theorem dX7_keep_51 : decode cX7_keep 51 = .ok (.if_icmp .ge 27, 3) := by decide +kernel
theorem dX7_keep_54 : decode cX7_keep 54 = .ok (.aload_n 0, 1) := by decide +kernel
theorem dX7_keep_55 : decode cX7_keep 55 = .ok (.getfield 13, 3) := by decide +kernel
theorem dX7_keep_58 : decode cX7_keep 58 = .ok (.sipush 440, 3) := by decide +kernel
theorem dX7_keep_61 : decode cX7_keep 61 = .ok (.iload_n 1, 1) := by decide +kernel
theorem dX7_keep_62 : decode cX7_keep 62 = .ok (.imul, 1) := by decide +kernel
theorem dX7_keep_63 : decode cX7_keep 63 = .ok (.iload_n 2, 1) := by decide +kernel
theorem dX7_keep_64 : decode cX7_keep 64 = .ok (.iadd, 1) := by decide +kernel
theorem dX7_keep_65 : decode cX7_keep 65 = .ok (.aload_n 0, 1) := by decide +kernel
theorem dX7_keep_66 : decode cX7_keep 66 = .ok (.getfield 7, 3) := by decide +kernel
theorem dX7_keep_69 : decode cX7_keep 69 = .ok (.iload_n 2, 1) := by decide +kernel
theorem dX7_keep_70 : decode cX7_keep 70 = .ok (.iaload, 1) := by decide +kernel
theorem dX7_keep_71 : decode cX7_keep 71 = .ok (.iastore, 1) := by decide +kernel
theorem dX7_keep_72 : decode cX7_keep 72 = .ok (.iinc 2 1, 3) := by decide +kernel
theorem dX7_keep_75 : decode cX7_keep 75 = .ok (.goto (-28), 3) := by decide +kernel
theorem dX7_keep_78 : decode cX7_keep 78 = .ok (.aload_n 0, 1) := by decide +kernel
theorem dX7_keep_79 : decode cX7_keep 79 = .ok (.dup, 1) := by decide +kernel
theorem dX7_keep_80 : decode cX7_keep 80 = .ok (.getfield 52, 3) := by decide +kernel
theorem dX7_keep_83 : decode cX7_keep 83 = .ok (.iconst 1, 1) := by decide +kernel
theorem dX7_keep_84 : decode cX7_keep 84 = .ok (.iadd, 1) := by decide +kernel
theorem dX7_keep_85 : decode cX7_keep 85 = .ok (.putfield 52, 3) := by decide +kernel
theorem dX7_keep_88 : decode cX7_keep 88 = .ok (.return_, 1) := by decide +kernel
theorem dX7_keepIf_0 : decode cX7_keepIf 0 = .ok (.iload_n 1, 1) := by decide +kernel
theorem dX7_keepIf_1 : decode cX7_keepIf 1 = .ok (.ifCond .eq 7, 3) := by decide +kernel
theorem dX7_keepIf_4 : decode cX7_keepIf 4 = .ok (.aload_n 0, 1) := by decide +kernel
theorem dX7_keepIf_5 : decode cX7_keepIf 5 = .ok (.invokevirtual 59, 3) := by decide +kernel
theorem dX7_keepIf_8 : decode cX7_keepIf 8 = .ok (.return_, 1) := by decide +kernel
theorem dX7_layAside_0 : decode cX7_layAside 0 = .ok (.iconst 0, 1) := by decide +kernel
theorem dX7_layAside_1 : decode cX7_layAside 1 = .ok (.istore_n 1, 1) := by decide +kernel
theorem dX7_layAside_2 : decode cX7_layAside 2 = .ok (.iload_n 1, 1) := by decide +kernel
theorem dX7_layAside_3 : decode cX7_layAside 3 = .ok (.sipush 440, 3) := by decide +kernel
theorem dX7_layAside_6 : decode cX7_layAside 6 = .ok (.if_icmp .ge 21, 3) := by decide +kernel
theorem dX7_layAside_9 : decode cX7_layAside 9 = .ok (.aload_n 0, 1) := by decide +kernel
theorem dX7_layAside_10 : decode cX7_layAside 10 = .ok (.getfield 23, 3) := by decide +kernel
theorem dX7_layAside_13 : decode cX7_layAside 13 = .ok (.iload_n 1, 1) := by decide +kernel
theorem dX7_layAside_14 : decode cX7_layAside 14 = .ok (.aload_n 0, 1) := by decide +kernel
theorem dX7_layAside_15 : decode cX7_layAside 15 = .ok (.getfield 7, 3) := by decide +kernel
theorem dX7_layAside_18 : decode cX7_layAside 18 = .ok (.iload_n 1, 1) := by decide +kernel
theorem dX7_layAside_19 : decode cX7_layAside 19 = .ok (.iaload, 1) := by decide +kernel
theorem dX7_layAside_20 : decode cX7_layAside 20 = .ok (.iastore, 1) := by decide +kernel
theorem dX7_layAside_21 : decode cX7_layAside 21 = .ok (.iinc 1 1, 3) := by decide +kernel
theorem dX7_layAside_24 : decode cX7_layAside 24 = .ok (.goto (-22), 3) := by decide +kernel
theorem dX7_layAside_27 : decode cX7_layAside 27 = .ok (.return_, 1) := by decide +kernel
theorem dX7_layBack_0 : decode cX7_layBack 0 = .ok (.iconst 0, 1) := by decide +kernel
theorem dX7_layBack_1 : decode cX7_layBack 1 = .ok (.istore_n 1, 1) := by decide +kernel
theorem dX7_layBack_2 : decode cX7_layBack 2 = .ok (.iload_n 1, 1) := by decide +kernel
theorem dX7_layBack_3 : decode cX7_layBack 3 = .ok (.sipush 440, 3) := by decide +kernel
theorem dX7_layBack_6 : decode cX7_layBack 6 = .ok (.if_icmp .ge 21, 3) := by decide +kernel
theorem dX7_layBack_9 : decode cX7_layBack 9 = .ok (.aload_n 0, 1) := by decide +kernel
theorem dX7_layBack_10 : decode cX7_layBack 10 = .ok (.getfield 7, 3) := by decide +kernel
theorem dX7_layBack_13 : decode cX7_layBack 13 = .ok (.iload_n 1, 1) := by decide +kernel
theorem dX7_layBack_14 : decode cX7_layBack 14 = .ok (.aload_n 0, 1) := by decide +kernel
theorem dX7_layBack_15 : decode cX7_layBack 15 = .ok (.getfield 23, 3) := by decide +kernel
theorem dX7_layBack_18 : decode cX7_layBack 18 = .ok (.iload_n 1, 1) := by decide +kernel
theorem dX7_layBack_19 : decode cX7_layBack 19 = .ok (.iaload, 1) := by decide +kernel
theorem dX7_layBack_20 : decode cX7_layBack 20 = .ok (.iastore, 1) := by decide +kernel
theorem dX7_layBack_21 : decode cX7_layBack 21 = .ok (.iinc 1 1, 3) := by decide +kernel
theorem dX7_layBack_24 : decode cX7_layBack 24 = .ok (.goto (-22), 3) := by decide +kernel
theorem dX7_layBack_27 : decode cX7_layBack 27 = .ok (.return_, 1) := by decide +kernel
theorem dX7_lights_0 : decode cX7_lights 0 = .ok (.aload_n 0, 1) := by decide +kernel
theorem dX7_lights_1 : decode cX7_lights 1 = .ok (.iload_n 1, 1) := by decide +kernel
theorem dX7_lights_2 : decode cX7_lights 2 = .ok (.iconst 0, 1) := by decide +kernel
theorem dX7_lights_3 : decode cX7_lights 3 = .ok (.invokevirtual 62, 3) := by decide +kernel
theorem dX7_lights_6 : decode cX7_lights 6 = .ok (.iload_n 2, 1) := by decide +kernel
theorem dX7_lights_7 : decode cX7_lights 7 = .ok (.invokestatic 65, 3) := by decide +kernel
theorem dX7_lights_10 : decode cX7_lights 10 = .ok (.istore_n 3, 1) := by decide +kernel
theorem dX7_lights_11 : decode cX7_lights 11 = .ok (.aload_n 0, 1) := by decide +kernel
theorem dX7_lights_12 : decode cX7_lights 12 = .ok (.iload_n 1, 1) := by decide +kernel
theorem dX7_lights_13 : decode cX7_lights 13 = .ok (.iconst 2, 1) := by decide +kernel
theorem dX7_lights_14 : decode cX7_lights 14 = .ok (.invokevirtual 62, 3) := by decide +kernel
theorem dX7_lights_17 : decode cX7_lights 17 = .ok (.istore 4, 2) := by decide +kernel
theorem dX7_lights_19 : decode cX7_lights 19 = .ok (.iload 4, 2) := by decide +kernel
theorem dX7_lights_21 : decode cX7_lights 21 = .ok (.iconst 2, 1) := by decide +kernel
theorem dX7_lights_22 : decode cX7_lights 22 = .ok (.if_icmp .ne 13, 3) := by decide +kernel
theorem dX7_lights_25 : decode cX7_lights 25 = .ok (.iload_n 3, 1) := by decide +kernel
theorem dX7_lights_26 : decode cX7_lights 26 = .ok (.aload_n 0, 1) := by decide +kernel
theorem dX7_lights_27 : decode cX7_lights 27 = .ok (.iload_n 1, 1) := by decide +kernel
theorem dX7_lights_28 : decode cX7_lights 28 = .ok (.iconst 1, 1) := by decide +kernel
theorem dX7_lights_29 : decode cX7_lights 29 = .ok (.invokevirtual 62, 3) := by decide +kernel
theorem dX7_lights_32 : decode cX7_lights 32 = .ok (.if_icmp .le 21, 3) := by decide +kernel
theorem dX7_lights_35 : decode cX7_lights 35 = .ok (.iload 4, 2) := by decide +kernel
theorem dX7_lights_37 : decode cX7_lights 37 = .ok (.iconst 1, 1) := by decide +kernel
theorem dX7_lights_38 : decode cX7_lights 38 = .ok (.if_icmp .ne 19, 3) := by decide +kernel
theorem dX7_lights_41 : decode cX7_lights 41 = .ok (.iload_n 3, 1) := by decide +kernel
theorem dX7_lights_42 : decode cX7_lights 42 = .ok (.aload_n 0, 1) := by decide +kernel
theorem dX7_lights_43 : decode cX7_lights 43 = .ok (.iload_n 1, 1) := by decide +kernel
theorem dX7_lights_44 : decode cX7_lights 44 = .ok (.iconst 1, 1) := by decide +kernel
theorem dX7_lights_45 : decode cX7_lights 45 = .ok (.invokevirtual 62, 3) := by decide +kernel
theorem dX7_lights_48 : decode cX7_lights 48 = .ok (.iconst 2, 1) := by decide +kernel
theorem dX7_lights_49 : decode cX7_lights 49 = .ok (.idiv, 1) := by decide +kernel
theorem dX7_lights_50 : decode cX7_lights 50 = .ok (.if_icmp .gt 7, 3) := by decide +kernel
theorem dX7_lights_53 : decode cX7_lights 53 = .ok (.iconst 1, 1) := by decide +kernel
theorem dX7_lights_54 : decode cX7_lights 54 = .ok (.goto 4, 3) := by decide +kernel
theorem dX7_lights_57 : decode cX7_lights 57 = .ok (.iconst 0, 1) := by decide +kernel
theorem dX7_lights_58 : decode cX7_lights 58 = .ok (.ireturn, 1) := by decide +kernel
theorem dX7_lightOn_0 : decode cX7_lightOn 0 = .ok (.iconst 0, 1) := by decide +kernel
theorem dX7_lightOn_1 : decode cX7_lightOn 1 = .ok (.istore_n 2, 1) := by decide +kernel
theorem dX7_lightOn_2 : decode cX7_lightOn 2 = .ok (.iconst 0, 1) := by decide +kernel
theorem dX7_lightOn_3 : decode cX7_lightOn 3 = .ok (.istore_n 3, 1) := by decide +kernel
theorem dX7_lightOn_4 : decode cX7_lightOn 4 = .ok (.iload_n 3, 1) := by decide +kernel
theorem dX7_lightOn_5 : decode cX7_lightOn 5 = .ok (.aload_n 0, 1) := by decide +kernel
theorem dX7_lightOn_6 : decode cX7_lightOn 6 = .ok (.getfield 7, 3) := by decide +kernel
theorem dX7_lightOn_9 : decode cX7_lightOn 9 = .ok (.bipush 7, 2) := by decide +kernel
theorem dX7_lightOn_11 : decode cX7_lightOn 11 = .ok (.iaload, 1) := by decide +kernel
theorem dX7_lightOn_12 : decode cX7_lightOn 12 = .ok (.if_icmp .ge 28, 3) := by decide +kernel
theorem dX7_lightOn_15 : decode cX7_lightOn 15 = .ok (.iload_n 2, 1) := by decide +kernel
theorem dX7_lightOn_16 : decode cX7_lightOn 16 = .ok (.aload_n 0, 1) := by decide +kernel
theorem dX7_lightOn_17 : decode cX7_lightOn 17 = .ok (.iload_n 3, 1) := by decide +kernel
theorem dX7_lightOn_18 : decode cX7_lightOn 18 = .ok (.iload_n 1, 1) := by decide +kernel
theorem dX7_lightOn_19 : decode cX7_lightOn 19 = .ok (.invokevirtual 68, 3) := by decide +kernel
theorem dX7_lightOn_22 : decode cX7_lightOn 22 = .ok (.ifCond .eq 9, 3) := by decide +kernel
theorem dX7_lightOn_25 : decode cX7_lightOn 25 = .ok (.iconst 1, 1) := by decide +kernel
theorem dX7_lightOn_26 : decode cX7_lightOn 26 = .ok (.iload_n 3, 1) := by decide +kernel
theorem dX7_lightOn_27 : decode cX7_lightOn 27 = .ok (.ishl, 1) := by decide +kernel
theorem dX7_lightOn_28 : decode cX7_lightOn 28 = .ok (.goto 4, 3) := by decide +kernel
theorem dX7_lightOn_31 : decode cX7_lightOn 31 = .ok (.iconst 0, 1) := by decide +kernel
theorem dX7_lightOn_32 : decode cX7_lightOn 32 = .ok (.ior, 1) := by decide +kernel
theorem dX7_lightOn_33 : decode cX7_lightOn 33 = .ok (.istore_n 2, 1) := by decide +kernel
theorem dX7_lightOn_34 : decode cX7_lightOn 34 = .ok (.iinc 3 1, 3) := by decide +kernel
theorem dX7_lightOn_37 : decode cX7_lightOn 37 = .ok (.goto (-33), 3) := by decide +kernel
theorem dX7_lightOn_40 : decode cX7_lightOn 40 = .ok (.iload_n 2, 1) := by decide +kernel
theorem dX7_lightOn_41 : decode cX7_lightOn 41 = .ok (.ireturn, 1) := by decide +kernel
