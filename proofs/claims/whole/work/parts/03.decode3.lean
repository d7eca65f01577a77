theorem dX7_counted_0 : decode cX7_counted 0 = .ok (.iload_n 1, 1) := by decide +kernel
theorem dX7_counted_1 : decode cX7_counted 1 = .ok (.ifCond .ne 10, 3) := by decide +kernel
theorem dX7_counted_4 : decode cX7_counted 4 = .ok (.aload_n 0, 1) := by decide +kernel
theorem dX7_counted_5 : decode cX7_counted 5 = .ok (.invokevirtual 190, 3) := by decide +kernel
theorem dX7_counted_8 : decode cX7_counted 8 = .ok (.goto 35, 3) := by decide +kernel
theorem dX7_counted_11 : decode cX7_counted 11 = .ok (.iload_n 1, 1) := by decide +kernel
theorem dX7_counted_12 : decode cX7_counted 12 = .ok (.iconst 1, 1) := by decide +kernel
theorem dX7_counted_13 : decode cX7_counted 13 = .ok (.if_icmp .ne 12, 3) := by decide +kernel
theorem dX7_counted_16 : decode cX7_counted 16 = .ok (.aload_n 0, 1) := by decide +kernel
theorem dX7_counted_17 : decode cX7_counted 17 = .ok (.bipush 7, 2) := by decide +kernel
theorem dX7_counted_19 : decode cX7_counted 19 = .ok (.invokevirtual 187, 3) := by decide +kernel
theorem dX7_counted_22 : decode cX7_counted 22 = .ok (.goto 21, 3) := by decide +kernel
theorem dX7_counted_25 : decode cX7_counted 25 = .ok (.iload_n 1, 1) := by decide +kernel
theorem dX7_counted_26 : decode cX7_counted 26 = .ok (.iconst 2, 1) := by decide +kernel
theorem dX7_counted_27 : decode cX7_counted 27 = .ok (.if_icmp .ne 10, 3) := by decide +kernel
theorem dX7_counted_30 : decode cX7_counted 30 = .ok (.aload_n 0, 1) := by decide +kernel
theorem dX7_counted_31 : decode cX7_counted 31 = .ok (.invokevirtual 193, 3) := by decide +kernel
theorem dX7_counted_34 : decode cX7_counted 34 = .ok (.goto 9, 3) := by decide +kernel
theorem dX7_counted_37 : decode cX7_counted 37 = .ok (.aload_n 0, 1) := by decide +kernel
theorem dX7_counted_38 : decode cX7_counted 38 = .ok (.bipush 8, 2) := by decide +kernel
theorem dX7_counted_40 : decode cX7_counted 40 = .ok (.invokevirtual 187, 3) := by decide +kernel
theorem dX7_counted_43 : decode cX7_counted 43 = .ok (.ireturn, 1) := by decide +kernel
theorem dX7_brought_0 : decode cX7_brought 0 = .ok (.aload_n 0, 1) := by decide +kernel
theorem dX7_brought_1 : decode cX7_brought 1 = .ok (.invokevirtual 199, 3) := by decide +kernel
theorem dX7_brought_4 : decode cX7_brought 4 = .ok (.aload_n 0, 1) := by decide +kernel
theorem dX7_brought_5 : decode cX7_brought 5 = .ok (.iload_n 2, 1) := by decide +kernel
theorem dX7_brought_6 : decode cX7_brought 6 = .ok (.invokevirtual 205, 3) := by decide +kernel
theorem dX7_brought_9 : decode cX7_brought 9 = .ok (.istore_n 3, 1) := by decide +kernel
theorem dX7_brought_10 : decode cX7_brought 10 = .ok (.iconst 0, 1) := by decide +kernel
theorem dX7_brought_11 : decode cX7_brought 11 = .ok (.istore 4, 2) := by decide +kernel
theorem dX7_brought_13 : decode cX7_brought 13 = .ok (.iload 4, 2) := by decide +kernel
theorem dX7_brought_15 : decode cX7_brought 15 = .ok (.iload_n 1, 1) := by decide +kernel
theorem dX7_brought_16 : decode cX7_brought 16 = .ok (.if_icmp .ge 13, 3) := by decide +kernel
theorem dX7_brought_19 : decode cX7_brought 19 = .ok (.aload_n 0, 1) := by decide +kernel
theorem dX7_brought_20 : decode cX7_brought 20 = .ok (.invokevirtual 174, 3) := by decide +kernel
theorem dX7_brought_23 : decode cX7_brought 23 = .ok (.iinc 4 1, 3) := by decide +kernel
theorem dX7_brought_26 : decode cX7_brought 26 = .ok (.goto (-13), 3) := by decide +kernel
theorem dX7_brought_29 : decode cX7_brought 29 = .ok (.aload_n 0, 1) := by decide +kernel
theorem dX7_brought_30 : decode cX7_brought 30 = .ok (.iload_n 2, 1) := by decide +kernel
theorem dX7_brought_31 : decode cX7_brought 31 = .ok (.invokevirtual 205, 3) := by decide +kernel
theorem dX7_brought_34 : decode cX7_brought 34 = .ok (.iload_n 3, 1) := by decide +kernel
theorem dX7_brought_35 : decode cX7_brought 35 = .ok (.isub, 1) := by decide +kernel
theorem dX7_brought_36 : decode cX7_brought 36 = .ok (.istore 4, 2) := by decide +kernel
theorem dX7_brought_38 : decode cX7_brought 38 = .ok (.aload_n 0, 1) := by decide +kernel
theorem dX7_brought_39 : decode cX7_brought 39 = .ok (.invokevirtual 202, 3) := by decide +kernel
theorem dX7_brought_42 : decode cX7_brought 42 = .ok (.iload 4, 2) := by decide +kernel
theorem dX7_brought_44 : decode cX7_brought 44 = .ok (.ireturn, 1) := by decide +kernel
theorem dX7_brings_0 : decode cX7_brings 0 = .ok (.iload_n 1, 1) := by decide +kernel
theorem dX7_brings_1 : decode cX7_brings 1 = .ok (.iconst 1, 1) := by decide +kernel
theorem dX7_brings_2 : decode cX7_brings 2 = .ok (.sipush 200, 3) := by decide +kernel
theorem dX7_brings_5 : decode cX7_brings 5 = .ok (.invokestatic 44, 3) := by decide +kernel
theorem dX7_brings_8 : decode cX7_brings 8 = .ok (.ifCond .eq 21, 3) := by decide +kernel
theorem dX7_brings_11 : decode cX7_brings 11 = .ok (.iload_n 2, 1) := by decide +kernel
theorem dX7_brings_12 : decode cX7_brings 12 = .ok (.iconst 0, 1) := by decide +kernel
theorem dX7_brings_13 : decode cX7_brings 13 = .ok (.iconst 3, 1) := by decide +kernel
theorem dX7_brings_14 : decode cX7_brings 14 = .ok (.invokestatic 44, 3) := by decide +kernel
theorem dX7_brings_17 : decode cX7_brings 17 = .ok (.ifCond .eq 12, 3) := by decide +kernel
theorem dX7_brings_20 : decode cX7_brings 20 = .ok (.aload_n 0, 1) := by decide +kernel
theorem dX7_brings_21 : decode cX7_brings 21 = .ok (.iload_n 1, 1) := by decide +kernel
theorem dX7_brings_22 : decode cX7_brings 22 = .ok (.iload_n 2, 1) := by decide +kernel
theorem dX7_brings_23 : decode cX7_brings 23 = .ok (.invokevirtual 208, 3) := by decide +kernel
theorem dX7_brings_26 : decode cX7_brings 26 = .ok (.goto 5, 3) := by decide +kernel
theorem dX7_brings_29 : decode cX7_brings 29 = .ok (.bipush (-2), 2) := by decide +kernel
theorem dX7_brings_31 : decode cX7_brings 31 = .ok (.ireturn, 1) := by decide +kernel
theorem dX7_bestReach_0 : decode cX7_bestReach 0 = .ok (.iload_n 1, 1) := by decide +kernel
theorem dX7_bestReach_1 : decode cX7_bestReach 1 = .ok (.iconst 1, 1) := by decide +kernel
theorem dX7_bestReach_2 : decode cX7_bestReach 2 = .ok (.sipush 200, 3) := by decide +kernel
theorem dX7_bestReach_5 : decode cX7_bestReach 5 = .ok (.invokestatic 44, 3) := by decide +kernel
theorem dX7_bestReach_8 : decode cX7_bestReach 8 = .ok (.ifCond .ne 6, 3) := by decide +kernel
theorem dX7_bestReach_11 : decode cX7_bestReach 11 = .ok (.bipush (-2), 2) := by decide +kernel
theorem dX7_bestReach_13 : decode cX7_bestReach 13 = .ok (.ireturn, 1) := by decide +kernel
theorem dX7_bestReach_14 : decode cX7_bestReach 14 = .ok (.aload_n 0, 1) := by decide +kernel
theorem dX7_bestReach_15 : decode cX7_bestReach 15 = .ok (.getfield 7, 3) := by decide +kernel
theorem dX7_bestReach_18 : decode cX7_bestReach 18 = .ok (.iconst 1, 1) := by decide +kernel
theorem dX7_bestReach_19 : decode cX7_bestReach 19 = .ok (.iaload, 1) := by decide +kernel
theorem dX7_bestReach_20 : decode cX7_bestReach 20 = .ok (.istore_n 2, 1) := by decide +kernel
theorem dX7_bestReach_21 : decode cX7_bestReach 21 = .ok (.bipush (-6), 2) := by decide +kernel
theorem dX7_bestReach_23 : decode cX7_bestReach 23 = .ok (.istore_n 3, 1) := by decide +kernel
theorem dX7_bestReach_24 : decode cX7_bestReach 24 = .ok (.iconst 0, 1) := by decide +kernel
theorem dX7_bestReach_25 : decode cX7_bestReach 25 = .ok (.istore 4, 2) := by decide +kernel
theorem dX7_bestReach_27 : decode cX7_bestReach 27 = .ok (.iconst 0, 1) := by decide +kernel
theorem dX7_bestReach_28 : decode cX7_bestReach 28 = .ok (.istore 5, 2) := by decide +kernel
theorem dX7_bestReach_30 : decode cX7_bestReach 30 = .ok (.iconst 1, 1) := by decide +kernel
theorem dX7_bestReach_31 : decode cX7_bestReach 31 = .ok (.istore 6, 2) := by decide +kernel
theorem dX7_bestReach_33 : decode cX7_bestReach 33 = .ok (.iload 6, 2) := by decide +kernel
theorem dX7_bestReach_35 : decode cX7_bestReach 35 = .ok (.bipush 60, 2) := by decide +kernel
theorem dX7_bestReach_37 : decode cX7_bestReach 37 = .ok (.if_icmp .gt 84, 3) := by decide +kernel
theorem dX7_bestReach_40 : decode cX7_bestReach 40 = .ok (.aload_n 0, 1) := by decide +kernel
theorem dX7_bestReach_41 : decode cX7_bestReach 41 = .ok (.getfield 7, 3) := by decide +kernel
theorem dX7_bestReach_44 : decode cX7_bestReach 44 = .ok (.iconst 1, 1) := by decide +kernel
theorem dX7_bestReach_45 : decode cX7_bestReach 45 = .ok (.iload 6, 2) := by decide +kernel
theorem dX7_bestReach_47 : decode cX7_bestReach 47 = .ok (.iastore, 1) := by decide +kernel
theorem dX7_bestReach_48 : decode cX7_bestReach 48 = .ok (.aload_n 0, 1) := by decide +kernel
theorem dX7_bestReach_49 : decode cX7_bestReach 49 = .ok (.iload_n 1, 1) := by decide +kernel
theorem dX7_bestReach_50 : decode cX7_bestReach 50 = .ok (.iconst 0, 1) := by decide +kernel
theorem dX7_bestReach_51 : decode cX7_bestReach 51 = .ok (.invokevirtual 208, 3) := by decide +kernel
theorem dX7_bestReach_54 : decode cX7_bestReach 54 = .ok (.istore 7, 2) := by decide +kernel
theorem dX7_bestReach_56 : decode cX7_bestReach 56 = .ok (.iload_n 3, 1) := by decide +kernel
theorem dX7_bestReach_57 : decode cX7_bestReach 57 = .ok (.ifCond .lt 10, 3) := by decide +kernel
theorem dX7_bestReach_60 : decode cX7_bestReach 60 = .ok (.iload 7, 2) := by decide +kernel
theorem dX7_bestReach_62 : decode cX7_bestReach 62 = .ok (.iload 4, 2) := by decide +kernel
theorem dX7_bestReach_64 : decode cX7_bestReach 64 = .ok (.if_icmp .gt 12, 3) := by decide +kernel
theorem dX7_bestReach_67 : decode cX7_bestReach 67 = .ok (.aload_n 0, 1) := by decide +kernel
theorem dX7_bestReach_68 : decode cX7_bestReach 68 = .ok (.iload_n 1, 1) := by decide +kernel
theorem dX7_bestReach_69 : decode cX7_bestReach 69 = .ok (.iconst 1, 1) := by decide +kernel
theorem dX7_bestReach_70 : decode cX7_bestReach 70 = .ok (.invokevirtual 208, 3) := by decide +kernel
theorem dX7_bestReach_73 : decode cX7_bestReach 73 = .ok (.goto 4, 3) := by decide +kernel
theorem dX7_bestReach_76 : decode cX7_bestReach 76 = .ok (.iconst 0, 1) := by decide +kernel
theorem dX7_bestReach_77 : decode cX7_bestReach 77 = .ok (.istore 8, 2) := by decide +kernel
theorem dX7_bestReach_79 : decode cX7_bestReach 79 = .ok (.iload_n 3, 1) := by decide +kernel
theorem dX7_bestReach_80 : decode cX7_bestReach 80 = .ok (.ifCond .lt 24, 3) := by decide +kernel
theorem dX7_bestReach_83 : decode cX7_bestReach 83 = .ok (.iload 7, 2) := by decide +kernel
theorem dX7_bestReach_85 : decode cX7_bestReach 85 = .ok (.iload 4, 2) := by decide +kernel
theorem dX7_bestReach_87 : decode cX7_bestReach 87 = .ok (.if_icmp .lt 17, 3) := by decide +kernel
theorem dX7_bestReach_90 : decode cX7_bestReach 90 = .ok (.iload 7, 2) := by decide +kernel
theorem dX7_bestReach_92 : decode cX7_bestReach 92 = .ok (.iload 4, 2) := by decide +kernel
theorem dX7_bestReach_94 : decode cX7_bestReach 94 = .ok (.if_icmp .ne 21, 3) := by decide +kernel
theorem dX7_bestReach_97 : decode cX7_bestReach 97 = .ok (.iload 8, 2) := by decide +kernel
theorem dX7_bestReach_99 : decode cX7_bestReach 99 = .ok (.iload 5, 2) := by decide +kernel
theorem dX7_bestReach_101 : decode cX7_bestReach 101 = .ok (.if_icmp .ge 14, 3) := by decide +kernel
theorem dX7_bestReach_104 : decode cX7_bestReach 104 = .ok (.iload 6, 2) := by decide +kernel
theorem dX7_bestReach_106 : decode cX7_bestReach 106 = .ok (.istore_n 3, 1) := by decide +kernel
theorem dX7_bestReach_107 : decode cX7_bestReach 107 = .ok (.iload 7, 2) := by decide +kernel
theorem dX7_bestReach_109 : decode cX7_bestReach 109 = .ok (.istore 4, 2) := by decide +kernel
theorem dX7_bestReach_111 : decode cX7_bestReach 111 = .ok (.iload 8, 2) := by decide +kernel
theorem dX7_bestReach_113 : decode cX7_bestReach 113 = .ok (.istore 5, 2) := by decide +kernel
theorem dX7_bestReach_115 : decode cX7_bestReach 115 = .ok (.iinc 6 1, 3) := by decide +kernel
theorem dX7_bestReach_118 : decode cX7_bestReach 118 = .ok (.goto (-85), 3) := by decide +kernel
theorem dX7_bestReach_121 : decode cX7_bestReach 121 = .ok (.aload_n 0, 1) := by decide +kernel
theorem dX7_bestReach_122 : decode cX7_bestReach 122 = .ok (.getfield 7, 3) := by decide +kernel
theorem dX7_bestReach_125 : decode cX7_bestReach 125 = .ok (.iconst 1, 1) := by decide +kernel
theorem dX7_bestReach_126 : decode cX7_bestReach 126 = .ok (.iload_n 2, 1) := by decide +kernel
theorem dX7_bestReach_127 : decode cX7_bestReach 127 = .ok (.iastore, 1) := by decide +kernel
theorem dX7_bestReach_128 : decode cX7_bestReach 128 = .ok (.iload_n 3, 1) := by decide +kernel
theorem dX7_bestReach_129 : decode cX7_bestReach 129 = .ok (.ireturn, 1) := by decide +kernel
theorem dX7_darkWithout_0 : decode cX7_darkWithout 0 = .ok (.aload_n 0, 1) := by decide +kernel
theorem dX7_darkWithout_1 : decode cX7_darkWithout 1 = .ok (.invokevirtual 199, 3) := by decide +kernel
theorem dX7_darkWithout_4 : decode cX7_darkWithout 4 = .ok (.aload_n 0, 1) := by decide +kernel
theorem dX7_darkWithout_5 : decode cX7_darkWithout 5 = .ok (.invokevirtual 190, 3) := by decide +kernel
theorem dX7_darkWithout_8 : decode cX7_darkWithout 8 = .ok (.istore_n 2, 1) := by decide +kernel
theorem dX7_darkWithout_9 : decode cX7_darkWithout 9 = .ok (.aload_n 0, 1) := by decide +kernel
theorem dX7_darkWithout_10 : decode cX7_darkWithout 10 = .ok (.iload_n 1, 1) := by decide +kernel
theorem dX7_darkWithout_11 : decode cX7_darkWithout 11 = .ok (.iconst 2, 1) := by decide +kernel
theorem dX7_darkWithout_12 : decode cX7_darkWithout 12 = .ok (.invokevirtual 163, 3) := by decide +kernel
theorem dX7_darkWithout_15 : decode cX7_darkWithout 15 = .ok (.iconst 0, 1) := by decide +kernel
theorem dX7_darkWithout_16 : decode cX7_darkWithout 16 = .ok (.istore_n 3, 1) := by decide +kernel
theorem dX7_darkWithout_17 : decode cX7_darkWithout 17 = .ok (.iload_n 3, 1) := by decide +kernel
theorem dX7_darkWithout_18 : decode cX7_darkWithout 18 = .ok (.bipush 100, 2) := by decide +kernel
theorem dX7_darkWithout_20 : decode cX7_darkWithout 20 = .ok (.if_icmp .ge 13, 3) := by decide +kernel
theorem dX7_darkWithout_23 : decode cX7_darkWithout 23 = .ok (.aload_n 0, 1) := by decide +kernel
theorem dX7_darkWithout_24 : decode cX7_darkWithout 24 = .ok (.invokevirtual 174, 3) := by decide +kernel
theorem dX7_darkWithout_27 : decode cX7_darkWithout 27 = .ok (.iinc 3 1, 3) := by decide +kernel
theorem dX7_darkWithout_30 : decode cX7_darkWithout 30 = .ok (.goto (-13), 3) := by decide +kernel
theorem dX7_darkWithout_33 : decode cX7_darkWithout 33 = .ok (.aload_n 0, 1) := by decide +kernel
theorem dX7_darkWithout_34 : decode cX7_darkWithout 34 = .ok (.invokevirtual 190, 3) := by decide +kernel
theorem dX7_darkWithout_37 : decode cX7_darkWithout 37 = .ok (.iload_n 2, 1) := by decide +kernel
theorem dX7_darkWithout_38 : decode cX7_darkWithout 38 = .ok (.isub, 1) := by decide +kernel
theorem dX7_darkWithout_39 : decode cX7_darkWithout 39 = .ok (.istore_n 3, 1) := by decide +kernel
theorem dX7_darkWithout_40 : decode cX7_darkWithout 40 = .ok (.aload_n 0, 1) := by decide +kernel
theorem dX7_darkWithout_41 : decode cX7_darkWithout 41 = .ok (.invokevirtual 202, 3) := by decide +kernel
theorem dX7_darkWithout_44 : decode cX7_darkWithout 44 = .ok (.iload_n 3, 1) := by decide +kernel
theorem dX7_darkWithout_45 : decode cX7_darkWithout 45 = .ok (.ireturn, 1) := by decide +kernel
theorem dX7_needless_0 : decode cX7_needless 0 = .ok (.aload_n 0, 1) := by decide +kernel
theorem dX7_needless_1 : decode cX7_needless 1 = .ok (.bipush 100, 2) := by decide +kernel
theorem dX7_needless_3 : decode cX7_needless 3 = .ok (.iconst 0, 1) := by decide +kernel
theorem dX7_needless_4 : decode cX7_needless 4 = .ok (.invokevirtual 208, 3) := by decide +kernel
theorem dX7_needless_7 : decode cX7_needless 7 = .ok (.istore_n 1, 1) := by decide +kernel
theorem dX7_needless_8 : decode cX7_needless 8 = .ok (.iconst 0, 1) := by decide +kernel
theorem dX7_needless_9 : decode cX7_needless 9 = .ok (.istore_n 2, 1) := by decide +kernel
theorem dX7_needless_10 : decode cX7_needless 10 = .ok (.iconst 0, 1) := by decide +kernel
theorem dX7_needless_11 : decode cX7_needless 11 = .ok (.istore_n 3, 1) := by decide +kernel
theorem dX7_needless_12 : decode cX7_needless 12 = .ok (.iload_n 3, 1) := by decide +kernel
theorem dX7_needless_13 : decode cX7_needless 13 = .ok (.aload_n 0, 1) := by decide +kernel
theorem dX7_needless_14 : decode cX7_needless 14 = .ok (.getfield 7, 3) := by decide +kernel
theorem dX7_needless_17 : decode cX7_needless 17 = .ok (.bipush 7, 2) := by decide +kernel
theorem dX7_needless_19 : decode cX7_needless 19 = .ok (.iaload, 1) := by decide +kernel
theorem dX7_needless_20 : decode cX7_needless 20 = .ok (.if_icmp .ge 28, 3) := by decide +kernel
theorem dX7_needless_23 : decode cX7_needless 23 = .ok (.iload_n 2, 1) := by decide +kernel
theorem dX7_needless_24 : decode cX7_needless 24 = .ok (.aload_n 0, 1) := by decide +kernel
theorem dX7_needless_25 : decode cX7_needless 25 = .ok (.iload_n 3, 1) := by decide +kernel
theorem dX7_needless_26 : decode cX7_needless 26 = .ok (.invokevirtual 211, 3) := by decide +kernel
theorem dX7_needless_29 : decode cX7_needless 29 = .ok (.iload_n 1, 1) := by decide +kernel
theorem dX7_needless_30 : decode cX7_needless 30 = .ok (.if_icmp .gt 9, 3) := by decide +kernel
theorem dX7_needless_33 : decode cX7_needless 33 = .ok (.iconst 1, 1) := by decide +kernel
theorem dX7_needless_34 : decode cX7_needless 34 = .ok (.iload_n 3, 1) := by decide +kernel
theorem dX7_needless_35 : decode cX7_needless 35 = .ok (.ishl, 1) := by decide +kernel
theorem dX7_needless_36 : decode cX7_needless 36 = .ok (.goto 4, 3) := by decide +kernel
theorem dX7_needless_39 : decode cX7_needless 39 = .ok (.iconst 0, 1) := by decide +kernel
theorem dX7_needless_40 : decode cX7_needless 40 = .ok (.ior, 1) := by decide +kernel
theorem dX7_needless_41 : decode cX7_needless 41 = .ok (.istore_n 2, 1) := by decide +kernel
theorem dX7_needless_42 : decode cX7_needless 42 = .ok (.iinc 3 1, 3) := by decide +kernel
theorem dX7_needless_45 : decode cX7_needless 45 = .ok (.goto (-33), 3) := by decide +kernel
theorem dX7_needless_48 : decode cX7_needless 48 = .ok (.iload_n 2, 1) := by decide +kernel
theorem dX7_needless_49 : decode cX7_needless 49 = .ok (.ireturn, 1) := by decide +kernel
theorem dX7_put_0 : decode cX7_put 0 = .ok (.iconst 0, 1) := by decide +kernel
theorem dX7_put_1 : decode cX7_put 1 = .ok (.istore_n 3, 1) := by decide +kernel
theorem dX7_put_2 : decode cX7_put 2 = .ok (.lload_n 1, 1) := by decide +kernel
theorem dX7_put_3 : decode cX7_put 3 = .ok (.lstore 4, 2) := by decide +kernel
theorem dX7_put_5 : decode cX7_put 5 = .ok (.iload_n 3, 1) := by decide +kernel
theorem dX7_put_6 : decode cX7_put 6 = .ok (.bipush 8, 2) := by decide +kernel
theorem dX7_put_8 : decode cX7_put 8 = .ok (.if_icmp .ge 47, 3) := by decide +kernel
theorem dX7_put_11 : decode cX7_put 11 = .ok (.lload 4, 2) := by decide +kernel
theorem dX7_put_13 : decode cX7_put 13 = .ok (.ldc2_w 214, 3) := by decide +kernel
theorem dX7_put_16 : decode cX7_put 16 = .ok (.land, 1) := by decide +kernel
theorem dX7_put_17 : decode cX7_put 17 = .ok (.lconst 0, 1) := by decide +kernel
theorem dX7_put_18 : decode cX7_put 18 = .ok (.lcmp, 1) := by decide +kernel
theorem dX7_put_19 : decode cX7_put 19 = .ok (.ifCond .eq 36, 3) := by decide +kernel
theorem dX7_put_22 : decode cX7_put 22 = .ok (.lload 4, 2) := by decide +kernel
theorem dX7_put_24 : decode cX7_put 24 = .ok (.ldc2_w 214, 3) := by decide +kernel
theorem dX7_put_27 : decode cX7_put 27 = .ok (.land, 1) := by decide +kernel
theorem dX7_put_28 : decode cX7_put 28 = .ok (.l2i, 1) := by decide +kernel
theorem dX7_put_29 : decode cX7_put 29 = .ok (.bipush 33, 2) := by decide +kernel
theorem dX7_put_31 : decode cX7_put 31 = .ok (.bipush 126, 2) := by decide +kernel
theorem dX7_put_33 : decode cX7_put 33 = .ok (.invokestatic 44, 3) := by decide +kernel
theorem dX7_put_36 : decode cX7_put 36 = .ok (.ifCond .ne 6, 3) := by decide +kernel
theorem dX7_put_39 : decode cX7_put 39 = .ok (.bipush (-2), 2) := by decide +kernel
theorem dX7_put_41 : decode cX7_put 41 = .ok (.ireturn, 1) := by decide +kernel
theorem dX7_put_42 : decode cX7_put 42 = .ok (.iinc 3 1, 3) := by decide +kernel
theorem dX7_put_45 : decode cX7_put 45 = .ok (.lload 4, 2) := by decide +kernel
theorem dX7_put_47 : decode cX7_put 47 = .ok (.bipush 8, 2) := by decide +kernel
theorem dX7_put_49 : decode cX7_put 49 = .ok (.lushr, 1) := by decide +kernel
theorem dX7_put_50 : decode cX7_put 50 = .ok (.lstore 4, 2) := by decide +kernel
theorem dX7_put_52 : decode cX7_put 52 = .ok (.goto (-47), 3) := by decide +kernel
theorem dX7_put_55 : decode cX7_put 55 = .ok (.iload_n 3, 1) := by decide +kernel
theorem dX7_put_56 : decode cX7_put 56 = .ok (.ifCond .eq 10, 3) := by decide +kernel
theorem dX7_put_59 : decode cX7_put 59 = .ok (.lload 4, 2) := by decide +kernel
theorem dX7_put_61 : decode cX7_put 61 = .ok (.lconst 0, 1) := by decide +kernel
theorem dX7_put_62 : decode cX7_put 62 = .ok (.lcmp, 1) := by decide +kernel
theorem dX7_put_63 : decode cX7_put 63 = .ok (.ifCond .eq 6, 3) := by decide +kernel
theorem dX7_put_66 : decode cX7_put 66 = .ok (.bipush (-2), 2) := by decide +kernel
theorem dX7_put_68 : decode cX7_put 68 = .ok (.ireturn, 1) := by decide +kernel
theorem dX7_put_69 : decode cX7_put 69 = .ok (.aload_n 0, 1) := by decide +kernel
theorem dX7_put_70 : decode cX7_put 70 = .ok (.getfield 196, 3) := by decide +kernel
theorem dX7_put_73 : decode cX7_put 73 = .ok (.iload_n 3, 1) := by decide +kernel
theorem dX7_put_74 : decode cX7_put 74 = .ok (.iadd, 1) := by decide +kernel
theorem dX7_put_75 : decode cX7_put 75 = .ok (.bipush 80, 2) := by decide +kernel
theorem dX7_put_77 : decode cX7_put 77 = .ok (.if_icmp .le 6, 3) := by decide +kernel
theorem dX7_put_80 : decode cX7_put 80 = .ok (.bipush (-4), 2) := by decide +kernel
theorem dX7_put_82 : decode cX7_put 82 = .ok (.ireturn, 1) := by decide +kernel
theorem dX7_put_83 : decode cX7_put 83 = .ok (.iconst 0, 1) := by decide +kernel
theorem dX7_put_84 : decode cX7_put 84 = .ok (.istore 6, 2) := by decide +kernel
theorem dX7_put_86 : decode cX7_put 86 = .ok (.iload 6, 2) := by decide +kernel
theorem dX7_put_88 : decode cX7_put 88 = .ok (.iload_n 3, 1) := by decide +kernel
theorem dX7_put_89 : decode cX7_put 89 = .ok (.if_icmp .ge 37, 3) := by decide +kernel
theorem dX7_put_92 : decode cX7_put 92 = .ok (.aload_n 0, 1) := by decide +kernel
theorem dX7_put_93 : decode cX7_put 93 = .ok (.getfield 32, 3) := by decide +kernel
theorem dX7_put_96 : decode cX7_put 96 = .ok (.aload_n 0, 1) := by decide +kernel
theorem dX7_put_97 : decode cX7_put 97 = .ok (.getfield 196, 3) := by decide +kernel
theorem dX7_put_100 : decode cX7_put 100 = .ok (.iload 6, 2) := by decide +kernel
theorem dX7_put_102 : decode cX7_put 102 = .ok (.iadd, 1) := by decide +kernel
theorem dX7_put_103 : decode cX7_put 103 = .ok (.lload_n 1, 1) := by decide +kernel
theorem dX7_put_104 : decode cX7_put 104 = .ok (.bipush 8, 2) := by decide +kernel
theorem dX7_put_106 : decode cX7_put 106 = .ok (.iload_n 3, 1) := by decide +kernel
theorem dX7_put_107 : decode cX7_put 107 = .ok (.iconst 1, 1) := by decide +kernel
theorem dX7_put_108 : decode cX7_put 108 = .ok (.isub, 1) := by decide +kernel
theorem dX7_put_109 : decode cX7_put 109 = .ok (.iload 6, 2) := by decide +kernel
theorem dX7_put_111 : decode cX7_put 111 = .ok (.isub, 1) := by decide +kernel
theorem dX7_put_112 : decode cX7_put 112 = .ok (.imul, 1) := by decide +kernel
theorem dX7_put_113 : decode cX7_put 113 = .ok (.lshr, 1) := by decide +kernel
theorem dX7_put_114 : decode cX7_put 114 = .ok (.ldc2_w 214, 3) := by decide +kernel
theorem dX7_put_117 : decode cX7_put 117 = .ok (.land, 1) := by decide +kernel
theorem dX7_put_118 : decode cX7_put 118 = .ok (.l2i, 1) := by decide +kernel
theorem dX7_put_119 : decode cX7_put 119 = .ok (.iastore, 1) := by decide +kernel
theorem dX7_put_120 : decode cX7_put 120 = .ok (.iinc 6 1, 3) := by decide +kernel
theorem dX7_put_123 : decode cX7_put 123 = .ok (.goto (-37), 3) := by decide +kernel
theorem dX7_put_126 : decode cX7_put 126 = .ok (.aload_n 0, 1) := by decide +kernel
theorem dX7_put_127 : decode cX7_put 127 = .ok (.dup, 1) := by decide +kernel
theorem dX7_put_128 : decode cX7_put 128 = .ok (.getfield 196, 3) := by decide +kernel
theorem dX7_put_131 : decode cX7_put 131 = .ok (.iload_n 3, 1) := by decide +kernel
theorem dX7_put_132 : decode cX7_put 132 = .ok (.iadd, 1) := by decide +kernel
theorem dX7_put_133 : decode cX7_put 133 = .ok (.putfield 196, 3) := by decide +kernel
theorem dX7_put_136 : decode cX7_put 136 = .ok (.aload_n 0, 1) := by decide +kernel
theorem dX7_put_137 : decode cX7_put 137 = .ok (.getfield 196, 3) := by decide +kernel
theorem dX7_put_140 : decode cX7_put 140 = .ok (.ireturn, 1) := by decide +kernel
theorem dX7_wipe_0 : decode cX7_wipe 0 = .ok (.aload_n 0, 1) := by decide +kernel
theorem dX7_wipe_1 : decode cX7_wipe 1 = .ok (.getfield 196, 3) := by decide +kernel
theorem dX7_wipe_4 : decode cX7_wipe 4 = .ok (.istore_n 1, 1) := by decide +kernel
theorem dX7_wipe_5 : decode cX7_wipe 5 = .ok (.aload_n 0, 1) := by decide +kernel
theorem dX7_wipe_6 : decode cX7_wipe 6 = .ok (.iconst 0, 1) := by decide +kernel
theorem dX7_wipe_7 : decode cX7_wipe 7 = .ok (.putfield 196, 3) := by decide +kernel
theorem dX7_wipe_10 : decode cX7_wipe 10 = .ok (.iload_n 1, 1) := by decide +kernel
theorem dX7_wipe_11 : decode cX7_wipe 11 = .ok (.ireturn, 1) := by decide +kernel
theorem dX7_next_0 : decode cX7_next 0 = .ok (.aload_n 0, 1) := by decide +kernel
theorem dX7_next_1 : decode cX7_next 1 = .ok (.getfield 216, 3) := by decide +kernel
theorem dX7_next_4 : decode cX7_next 4 = .ok (.aload_n 0, 1) := by decide +kernel
theorem dX7_next_5 : decode cX7_next 5 = .ok (.getfield 196, 3) := by decide +kernel
theorem dX7_next_8 : decode cX7_next 8 = .ok (.if_icmp .ge 15, 3) := by decide +kernel
theorem dX7_next_11 : decode cX7_next 11 = .ok (.aload_n 0, 1) := by decide +kernel
theorem dX7_next_12 : decode cX7_next 12 = .ok (.getfield 32, 3) := by decide +kernel
theorem dX7_next_15 : decode cX7_next 15 = .ok (.aload_n 0, 1) := by decide +kernel
theorem dX7_next_16 : decode cX7_next 16 = .ok (.getfield 216, 3) := by decide +kernel
theorem dX7_next_19 : decode cX7_next 19 = .ok (.iaload, 1) := by decide +kernel
theorem dX7_next_20 : decode cX7_next 20 = .ok (.goto 4, 3) := by decide +kernel
theorem dX7_next_23 : decode cX7_next 23 = .ok (.iconst 0, 1) := by decide +kernel
theorem dX7_next_24 : decode cX7_next 24 = .ok (.ireturn, 1) := by decide +kernel
theorem dX7_takeSign_0 : decode cX7_takeSign 0 = .ok (.aload_n 0, 1) := by decide +kernel
theorem dX7_takeSign_1 : decode cX7_takeSign 1 = .ok (.aload_n 0, 1) := by decide +kernel
theorem dX7_takeSign_2 : decode cX7_takeSign 2 = .ok (.getfield 219, 3) := by decide +kernel
theorem dX7_takeSign_5 : decode cX7_takeSign 5 = .ok (.ifCond .ne 11, 3) := by decide +kernel
theorem dX7_takeSign_8 : decode cX7_takeSign 8 = .ok (.aload_n 0, 1) := by decide +kernel
theorem dX7_takeSign_9 : decode cX7_takeSign 9 = .ok (.invokevirtual 223, 3) := by decide +kernel
theorem dX7_takeSign_12 : decode cX7_takeSign 12 = .ok (.iload_n 1, 1) := by decide +kernel
theorem dX7_takeSign_13 : decode cX7_takeSign 13 = .ok (.if_icmp .eq 7, 3) := by decide +kernel
theorem dX7_takeSign_16 : decode cX7_takeSign 16 = .ok (.iconst 1, 1) := by decide +kernel
theorem dX7_takeSign_17 : decode cX7_takeSign 17 = .ok (.goto 4, 3) := by decide +kernel
theorem dX7_takeSign_20 : decode cX7_takeSign 20 = .ok (.iconst 0, 1) := by decide +kernel
theorem dX7_takeSign_21 : decode cX7_takeSign 21 = .ok (.putfield 219, 3) := by decide +kernel
theorem dX7_takeSign_24 : decode cX7_takeSign 24 = .ok (.aload_n 0, 1) := by decide +kernel
theorem dX7_takeSign_25 : decode cX7_takeSign 25 = .ok (.dup, 1) := by decide +kernel
theorem dX7_takeSign_26 : decode cX7_takeSign 26 = .ok (.getfield 216, 3) := by decide +kernel
theorem dX7_takeSign_29 : decode cX7_takeSign 29 = .ok (.aload_n 0, 1) := by decide +kernel
theorem dX7_takeSign_30 : decode cX7_takeSign 30 = .ok (.getfield 219, 3) := by decide +kernel
theorem dX7_takeSign_33 : decode cX7_takeSign 33 = .ok (.ifCond .eq 7, 3) := by decide +kernel
theorem dX7_takeSign_36 : decode cX7_takeSign 36 = .ok (.iconst 0, 1) := by decide +kernel
theorem dX7_takeSign_37 : decode cX7_takeSign 37 = .ok (.goto 4, 3) := by decide +kernel
theorem dX7_takeSign_40 : decode cX7_takeSign 40 = .ok (.iconst 1, 1) := by decide +kernel
theorem dX7_takeSign_41 : decode cX7_takeSign 41 = .ok (.iadd, 1) := by decide +kernel
theorem dX7_takeSign_42 : decode cX7_takeSign 42 = .ok (.putfield 216, 3) := by decide +kernel
theorem dX7_takeSign_45 : decode cX7_takeSign 45 = .ok (.return_, 1) := by decide +kernel
theorem dX7_enter_0 : decode cX7_enter 0 = .ok (.aload_n 0, 1) := by decide +kernel
theorem dX7_enter_1 : decode cX7_enter 1 = .ok (.getfield 41, 3) := by decide +kernel
theorem dX7_enter_4 : decode cX7_enter 4 = .ok (.aload_n 0, 1) := by decide +kernel
theorem dX7_enter_5 : decode cX7_enter 5 = .ok (.getfield 226, 3) := by decide +kernel
theorem dX7_enter_8 : decode cX7_enter 8 = .ok (.iload_n 1, 1) := by decide +kernel
theorem dX7_enter_9 : decode cX7_enter 9 = .ok (.iastore, 1) := by decide +kernel
theorem dX7_enter_10 : decode cX7_enter 10 = .ok (.aload_n 0, 1) := by decide +kernel
theorem dX7_enter_11 : decode cX7_enter 11 = .ok (.dup, 1) := by decide +kernel
theorem dX7_enter_12 : decode cX7_enter 12 = .ok (.getfield 226, 3) := by decide +kernel
theorem dX7_enter_15 : decode cX7_enter 15 = .ok (.iconst 1, 1) := by decide +kernel
theorem dX7_enter_16 : decode cX7_enter 16 = .ok (.iadd, 1) := by decide +kernel
theorem dX7_enter_17 : decode cX7_enter 17 = .ok (.putfield 226, 3) := by decide +kernel
theorem dX7_enter_20 : decode cX7_enter 20 = .ok (.return_, 1) := by decide +kernel
theorem dX7_takeNumber_0 : decode cX7_takeNumber 0 = .ok (.aload_n 0, 1) := by decide +kernel
theorem dX7_takeNumber_1 : decode cX7_takeNumber 1 = .ok (.aload_n 0, 1) := by decide +kernel
theorem dX7_takeNumber_2 : decode cX7_takeNumber 2 = .ok (.getfield 219, 3) := by decide +kernel
theorem dX7_takeNumber_5 : decode cX7_takeNumber 5 = .ok (.ifCond .ne 17, 3) := by decide +kernel
theorem dX7_takeNumber_8 : decode cX7_takeNumber 8 = .ok (.aload_n 0, 1) := by decide +kernel
theorem dX7_takeNumber_9 : decode cX7_takeNumber 9 = .ok (.invokevirtual 223, 3) := by decide +kernel
theorem dX7_takeNumber_12 : decode cX7_takeNumber 12 = .ok (.bipush 48, 2) := by decide +kernel
theorem dX7_takeNumber_14 : decode cX7_takeNumber 14 = .ok (.bipush 57, 2) := by decide +kernel
theorem dX7_takeNumber_16 : decode cX7_takeNumber 16 = .ok (.invokestatic 44, 3) := by decide +kernel
theorem dX7_takeNumber_19 : decode cX7_takeNumber 19 = .ok (.ifCond .ne 7, 3) := by decide +kernel
theorem dX7_takeNumber_22 : decode cX7_takeNumber 22 = .ok (.iconst 1, 1) := by decide +kernel
theorem dX7_takeNumber_23 : decode cX7_takeNumber 23 = .ok (.goto 4, 3) := by decide +kernel
theorem dX7_takeNumber_26 : decode cX7_takeNumber 26 = .ok (.iconst 0, 1) := by decide +kernel
theorem dX7_takeNumber_27 : decode cX7_takeNumber 27 = .ok (.putfield 219, 3) := by decide +kernel
theorem dX7_takeNumber_30 : decode cX7_takeNumber 30 = .ok (.aload_n 0, 1) := by decide +kernel
theorem dX7_takeNumber_31 : decode cX7_takeNumber 31 = .ok (.getfield 219, 3) := by decide +kernel
theorem dX7_takeNumber_34 : decode cX7_takeNumber 34 = .ok (.ifCond .eq 4, 3) := by decide +kernel
theorem dX7_takeNumber_37 : decode cX7_takeNumber 37 = .ok (.return_, 1) := by decide +kernel
theorem dX7_takeNumber_38 : decode cX7_takeNumber 38 = .ok (.aload_n 0, 1) := by decide +kernel
theorem dX7_takeNumber_39 : decode cX7_takeNumber 39 = .ok (.invokevirtual 223, 3) := by decide +kernel
theorem dX7_takeNumber_42 : decode cX7_takeNumber 42 = .ok (.bipush 48, 2) := by decide +kernel
theorem dX7_takeNumber_44 : decode cX7_takeNumber 44 = .ok (.isub, 1) := by decide +kernel
theorem dX7_takeNumber_45 : decode cX7_takeNumber 45 = .ok (.istore_n 1, 1) := by decide +kernel
theorem dX7_takeNumber_46 : decode cX7_takeNumber 46 = .ok (.aload_n 0, 1) := by decide +kernel
theorem dX7_takeNumber_47 : decode cX7_takeNumber 47 = .ok (.dup, 1) := by decide +kernel
theorem dX7_takeNumber_48 : decode cX7_takeNumber 48 = .ok (.getfield 216, 3) := by decide +kernel
theorem dX7_takeNumber_51 : decode cX7_takeNumber 51 = .ok (.iconst 1, 1) := by decide +kernel
theorem dX7_takeNumber_52 : decode cX7_takeNumber 52 = .ok (.iadd, 1) := by decide +kernel
theorem dX7_takeNumber_53 : decode cX7_takeNumber 53 = .ok (.putfield 216, 3) := by decide +kernel
theorem dX7_takeNumber_56 : decode cX7_takeNumber 56 = .ok (.aload_n 0, 1) := by decide +kernel
theorem dX7_takeNumber_57 : decode cX7_takeNumber 57 = .ok (.getfield 219, 3) := by decide +kernel
theorem dX7_takeNumber_60 : decode cX7_takeNumber 60 = .ok (.ifCond .ne 96, 3) := by decide +kernel
theorem dX7_takeNumber_63 : decode cX7_takeNumber 63 = .ok (.iload_n 1, 1) := by decide +kernel
theorem dX7_takeNumber_64 : decode cX7_takeNumber 64 = .ok (.ifCond .le 92, 3) := by decide +kernel
theorem dX7_takeNumber_67 : decode cX7_takeNumber 67 = .ok (.aload_n 0, 1) := by decide +kernel
theorem dX7_takeNumber_68 : decode cX7_takeNumber 68 = .ok (.invokevirtual 223, 3) := by decide +kernel
theorem dX7_takeNumber_71 : decode cX7_takeNumber 71 = .ok (.bipush 48, 2) := by decide +kernel
theorem dX7_takeNumber_73 : decode cX7_takeNumber 73 = .ok (.bipush 57, 2) := by decide +kernel
theorem dX7_takeNumber_75 : decode cX7_takeNumber 75 = .ok (.invokestatic 44, 3) := by decide +kernel
theorem dX7_takeNumber_78 : decode cX7_takeNumber 78 = .ok (.ifCond .eq 78, 3) := by decide +kernel
theorem dX7_takeNumber_81 : decode cX7_takeNumber 81 = .ok (.aload_n 0, 1) := by decide +kernel
theorem dX7_takeNumber_82 : decode cX7_takeNumber 82 = .ok (.bipush 10, 2) := by decide +kernel
theorem dX7_takeNumber_84 : decode cX7_takeNumber 84 = .ok (.iload_n 1, 1) := by decide +kernel
theorem dX7_takeNumber_85 : decode cX7_takeNumber 85 = .ok (.imul, 1) := by decide +kernel
theorem dX7_takeNumber_86 : decode cX7_takeNumber 86 = .ok (.aload_n 0, 1) := by decide +kernel
theorem dX7_takeNumber_87 : decode cX7_takeNumber 87 = .ok (.invokevirtual 223, 3) := by decide +kernel
theorem dX7_takeNumber_90 : decode cX7_takeNumber 90 = .ok (.iadd, 1) := by decide +kernel
theorem dX7_takeNumber_91 : decode cX7_takeNumber 91 = .ok (.bipush 48, 2) := by decide +kernel
theorem dX7_takeNumber_93 : decode cX7_takeNumber 93 = .ok (.isub, 1) := by decide +kernel
theorem dX7_takeNumber_94 : decode cX7_takeNumber 94 = .ok (.sipush 999, 3) := by decide +kernel
theorem dX7_takeNumber_97 : decode cX7_takeNumber 97 = .ok (.if_icmp .le 7, 3) := by decide +kernel
theorem dX7_takeNumber_100 : decode cX7_takeNumber 100 = .ok (.iconst 1, 1) := by decide +kernel
theorem dX7_takeNumber_101 : decode cX7_takeNumber 101 = .ok (.goto 4, 3) := by decide +kernel
theorem dX7_takeNumber_104 : decode cX7_takeNumber 104 = .ok (.iconst 0, 1) := by decide +kernel
theorem dX7_takeNumber_105 : decode cX7_takeNumber 105 = .ok (.putfield 219, 3) := by decide +kernel
theorem dX7_takeNumber_108 : decode cX7_takeNumber 108 = .ok (.aload_n 0, 1) := by decide +kernel
theorem dX7_takeNumber_109 : decode cX7_takeNumber 109 = .ok (.getfield 219, 3) := by decide +kernel
theorem dX7_takeNumber_112 : decode cX7_takeNumber 112 = .ok (.ifCond .eq 7, 3) := by decide +kernel
theorem dX7_takeNumber_115 : decode cX7_takeNumber 115 = .ok (.iload_n 1, 1) := by decide +kernel
theorem dX7_takeNumber_116 : decode cX7_takeNumber 116 = .ok (.goto 15, 3) := by decide +kernel
theorem dX7_takeNumber_119 : decode cX7_takeNumber 119 = .ok (.bipush 10, 2) := by decide +kernel
theorem dX7_takeNumber_121 : decode cX7_takeNumber 121 = .ok (.iload_n 1, 1) := by decide +kernel
theorem dX7_takeNumber_122 : decode cX7_takeNumber 122 = .ok (.imul, 1) := by decide +kernel
theorem dX7_takeNumber_123 : decode cX7_takeNumber 123 = .ok (.aload_n 0, 1) := by decide +kernel
theorem dX7_takeNumber_124 : decode cX7_takeNumber 124 = .ok (.invokevirtual 223, 3) := by decide +kernel
theorem dX7_takeNumber_127 : decode cX7_takeNumber 127 = .ok (.iadd, 1) := by decide +kernel
theorem dX7_takeNumber_128 : decode cX7_takeNumber 128 = .ok (.bipush 48, 2) := by decide +kernel
theorem dX7_takeNumber_130 : decode cX7_takeNumber 130 = .ok (.isub, 1) := by decide +kernel
theorem dX7_takeNumber_131 : decode cX7_takeNumber 131 = .ok (.istore_n 1, 1) := by decide +kernel
theorem dX7_takeNumber_132 : decode cX7_takeNumber 132 = .ok (.aload_n 0, 1) := by decide +kernel
theorem dX7_takeNumber_133 : decode cX7_takeNumber 133 = .ok (.dup, 1) := by decide +kernel
theorem dX7_takeNumber_134 : decode cX7_takeNumber 134 = .ok (.getfield 216, 3) := by decide +kernel
theorem dX7_takeNumber_137 : decode cX7_takeNumber 137 = .ok (.aload_n 0, 1) := by decide +kernel
theorem dX7_takeNumber_138 : decode cX7_takeNumber 138 = .ok (.getfield 219, 3) := by decide +kernel
theorem dX7_takeNumber_141 : decode cX7_takeNumber 141 = .ok (.ifCond .eq 7, 3) := by decide +kernel
theorem dX7_takeNumber_144 : decode cX7_takeNumber 144 = .ok (.iconst 0, 1) := by decide +kernel
theorem dX7_takeNumber_145 : decode cX7_takeNumber 145 = .ok (.goto 4, 3) := by decide +kernel
theorem dX7_takeNumber_148 : decode cX7_takeNumber 148 = .ok (.iconst 1, 1) := by decide +kernel
theorem dX7_takeNumber_149 : decode cX7_takeNumber 149 = .ok (.iadd, 1) := by decide +kernel
theorem dX7_takeNumber_150 : decode cX7_takeNumber 150 = .ok (.putfield 216, 3) := by decide +kernel
theorem dX7_takeNumber_153 : decode cX7_takeNumber 153 = .ok (.goto (-97), 3) := by decide +kernel
theorem dX7_takeNumber_156 : decode cX7_takeNumber 156 = .ok (.aload_n 0, 1) := by decide +kernel
theorem dX7_takeNumber_157 : decode cX7_takeNumber 157 = .ok (.iload_n 1, 1) := by decide +kernel
theorem dX7_takeNumber_158 : decode cX7_takeNumber 158 = .ok (.invokevirtual 229, 3) := by decide +kernel
theorem dX7_takeNumber_161 : decode cX7_takeNumber 161 = .ok (.return_, 1) := by decide +kernel
theorem dX7_takeWalker_0 : decode cX7_takeWalker 0 = .ok (.aload_n 0, 1) := by decide +kernel
theorem dX7_takeWalker_1 : decode cX7_takeWalker 1 = .ok (.invokevirtual 232, 3) := by decide +kernel
theorem dX7_takeWalker_4 : decode cX7_takeWalker 4 = .ok (.aload_n 0, 1) := by decide +kernel
theorem dX7_takeWalker_5 : decode cX7_takeWalker 5 = .ok (.bipush 47, 2) := by decide +kernel
theorem dX7_takeWalker_7 : decode cX7_takeWalker 7 = .ok (.invokevirtual 235, 3) := by decide +kernel
theorem dX7_takeWalker_10 : decode cX7_takeWalker 10 = .ok (.aload_n 0, 1) := by decide +kernel
theorem dX7_takeWalker_11 : decode cX7_takeWalker 11 = .ok (.invokevirtual 232, 3) := by decide +kernel
theorem dX7_takeWalker_14 : decode cX7_takeWalker 14 = .ok (.aload_n 0, 1) := by decide +kernel
theorem dX7_takeWalker_15 : decode cX7_takeWalker 15 = .ok (.getfield 219, 3) := by decide +kernel
theorem dX7_takeWalker_18 : decode cX7_takeWalker 18 = .ok (.ifCond .ne 67, 3) := by decide +kernel
theorem dX7_takeWalker_21 : decode cX7_takeWalker 21 = .ok (.aload_n 0, 1) := by decide +kernel
theorem dX7_takeWalker_22 : decode cX7_takeWalker 22 = .ok (.invokevirtual 223, 3) := by decide +kernel
theorem dX7_takeWalker_25 : decode cX7_takeWalker 25 = .ok (.bipush 62, 2) := by decide +kernel
theorem dX7_takeWalker_27 : decode cX7_takeWalker 27 = .ok (.if_icmp .ne 58, 3) := by decide +kernel
theorem dX7_takeWalker_30 : decode cX7_takeWalker 30 = .ok (.aload_n 0, 1) := by decide +kernel
theorem dX7_takeWalker_31 : decode cX7_takeWalker 31 = .ok (.dup, 1) := by decide +kernel
theorem dX7_takeWalker_32 : decode cX7_takeWalker 32 = .ok (.getfield 216, 3) := by decide +kernel
theorem dX7_takeWalker_35 : decode cX7_takeWalker 35 = .ok (.iconst 1, 1) := by decide +kernel
theorem dX7_takeWalker_36 : decode cX7_takeWalker 36 = .ok (.iadd, 1) := by decide +kernel
theorem dX7_takeWalker_37 : decode cX7_takeWalker 37 = .ok (.putfield 216, 3) := by decide +kernel
theorem dX7_takeWalker_40 : decode cX7_takeWalker 40 = .ok (.aload_n 0, 1) := by decide +kernel
theorem dX7_takeWalker_41 : decode cX7_takeWalker 41 = .ok (.invokevirtual 232, 3) := by decide +kernel
theorem dX7_takeWalker_44 : decode cX7_takeWalker 44 = .ok (.aload_n 0, 1) := by decide +kernel
theorem dX7_takeWalker_45 : decode cX7_takeWalker 45 = .ok (.getfield 219, 3) := by decide +kernel
theorem dX7_takeWalker_48 : decode cX7_takeWalker 48 = .ok (.ifCond .ne 29, 3) := by decide +kernel
theorem dX7_takeWalker_51 : decode cX7_takeWalker 51 = .ok (.aload_n 0, 1) := by decide +kernel
theorem dX7_takeWalker_52 : decode cX7_takeWalker 52 = .ok (.invokevirtual 223, 3) := by decide +kernel
theorem dX7_takeWalker_55 : decode cX7_takeWalker 55 = .ok (.bipush 42, 2) := by decide +kernel
theorem dX7_takeWalker_57 : decode cX7_takeWalker 57 = .ok (.if_icmp .ne 20, 3) := by decide +kernel
theorem dX7_takeWalker_60 : decode cX7_takeWalker 60 = .ok (.aload_n 0, 1) := by decide +kernel
theorem dX7_takeWalker_61 : decode cX7_takeWalker 61 = .ok (.dup, 1) := by decide +kernel
theorem dX7_takeWalker_62 : decode cX7_takeWalker 62 = .ok (.getfield 216, 3) := by decide +kernel
theorem dX7_takeWalker_65 : decode cX7_takeWalker 65 = .ok (.iconst 1, 1) := by decide +kernel
theorem dX7_takeWalker_66 : decode cX7_takeWalker 66 = .ok (.iadd, 1) := by decide +kernel
theorem dX7_takeWalker_67 : decode cX7_takeWalker 67 = .ok (.putfield 216, 3) := by decide +kernel
theorem dX7_takeWalker_70 : decode cX7_takeWalker 70 = .ok (.aload_n 0, 1) := by decide +kernel
theorem dX7_takeWalker_71 : decode cX7_takeWalker 71 = .ok (.invokevirtual 232, 3) := by decide +kernel
theorem dX7_takeWalker_74 : decode cX7_takeWalker 74 = .ok (.goto (-60), 3) := by decide +kernel
theorem dX7_takeWalker_77 : decode cX7_takeWalker 77 = .ok (.aload_n 0, 1) := by decide +kernel
theorem dX7_takeWalker_78 : decode cX7_takeWalker 78 = .ok (.iconst 0, 1) := by decide +kernel
theorem dX7_takeWalker_79 : decode cX7_takeWalker 79 = .ok (.invokevirtual 229, 3) := by decide +kernel
theorem dX7_takeWalker_82 : decode cX7_takeWalker 82 = .ok (.goto (-68), 3) := by decide +kernel
theorem dX7_takeWalker_85 : decode cX7_takeWalker 85 = .ok (.return_, 1) := by decide +kernel
theorem dX7_takeMend_0 : decode cX7_takeMend 0 = .ok (.aload_n 0, 1) := by decide +kernel
theorem dX7_takeMend_1 : decode cX7_takeMend 1 = .ok (.invokevirtual 232, 3) := by decide +kernel
theorem dX7_takeMend_4 : decode cX7_takeMend 4 = .ok (.aload_n 0, 1) := by decide +kernel
theorem dX7_takeMend_5 : decode cX7_takeMend 5 = .ok (.bipush 61, 2) := by decide +kernel
theorem dX7_takeMend_7 : decode cX7_takeMend 7 = .ok (.invokevirtual 235, 3) := by decide +kernel
theorem dX7_takeMend_10 : decode cX7_takeMend 10 = .ok (.aload_n 0, 1) := by decide +kernel
theorem dX7_takeMend_11 : decode cX7_takeMend 11 = .ok (.aload_n 0, 1) := by decide +kernel
theorem dX7_takeMend_12 : decode cX7_takeMend 12 = .ok (.getfield 219, 3) := by decide +kernel
theorem dX7_takeMend_15 : decode cX7_takeMend 15 = .ok (.ifCond .ne 17, 3) := by decide +kernel
theorem dX7_takeMend_18 : decode cX7_takeMend 18 = .ok (.aload_n 0, 1) := by decide +kernel
theorem dX7_takeMend_19 : decode cX7_takeMend 19 = .ok (.invokevirtual 223, 3) := by decide +kernel
theorem dX7_takeMend_22 : decode cX7_takeMend 22 = .ok (.bipush 48, 2) := by decide +kernel
theorem dX7_takeMend_24 : decode cX7_takeMend 24 = .ok (.bipush 50, 2) := by decide +kernel
theorem dX7_takeMend_26 : decode cX7_takeMend 26 = .ok (.invokestatic 44, 3) := by decide +kernel
theorem dX7_takeMend_29 : decode cX7_takeMend 29 = .ok (.ifCond .ne 7, 3) := by decide +kernel
theorem dX7_takeMend_32 : decode cX7_takeMend 32 = .ok (.iconst 1, 1) := by decide +kernel
theorem dX7_takeMend_33 : decode cX7_takeMend 33 = .ok (.goto 4, 3) := by decide +kernel
theorem dX7_takeMend_36 : decode cX7_takeMend 36 = .ok (.iconst 0, 1) := by decide +kernel
theorem dX7_takeMend_37 : decode cX7_takeMend 37 = .ok (.putfield 219, 3) := by decide +kernel
theorem dX7_takeMend_40 : decode cX7_takeMend 40 = .ok (.aload_n 0, 1) := by decide +kernel
theorem dX7_takeMend_41 : decode cX7_takeMend 41 = .ok (.getfield 219, 3) := by decide +kernel
theorem dX7_takeMend_44 : decode cX7_takeMend 44 = .ok (.ifCond .ne 24, 3) := by decide +kernel
theorem dX7_takeMend_47 : decode cX7_takeMend 47 = .ok (.aload_n 0, 1) := by decide +kernel
theorem dX7_takeMend_48 : decode cX7_takeMend 48 = .ok (.aload_n 0, 1) := by decide +kernel
theorem dX7_takeMend_49 : decode cX7_takeMend 49 = .ok (.invokevirtual 223, 3) := by decide +kernel
theorem dX7_takeMend_52 : decode cX7_takeMend 52 = .ok (.bipush 48, 2) := by decide +kernel
theorem dX7_takeMend_54 : decode cX7_takeMend 54 = .ok (.isub, 1) := by decide +kernel
theorem dX7_takeMend_55 : decode cX7_takeMend 55 = .ok (.invokevirtual 229, 3) := by decide +kernel
theorem dX7_takeMend_58 : decode cX7_takeMend 58 = .ok (.aload_n 0, 1) := by decide +kernel
theorem dX7_takeMend_59 : decode cX7_takeMend 59 = .ok (.dup, 1) := by decide +kernel
theorem dX7_takeMend_60 : decode cX7_takeMend 60 = .ok (.getfield 216, 3) := by decide +kernel
theorem dX7_takeMend_63 : decode cX7_takeMend 63 = .ok (.iconst 1, 1) := by decide +kernel
theorem dX7_takeMend_64 : decode cX7_takeMend 64 = .ok (.iadd, 1) := by decide +kernel
theorem dX7_takeMend_65 : decode cX7_takeMend 65 = .ok (.putfield 216, 3) := by decide +kernel
theorem dX7_takeMend_68 : decode cX7_takeMend 68 = .ok (.return_, 1) := by decide +kernel
theorem dX7_takeOrder_0 : decode cX7_takeOrder 0 = .ok (.aload_n 0, 1) := by decide +kernel
theorem dX7_takeOrder_1 : decode cX7_takeOrder 1 = .ok (.invokevirtual 223, 3) := by decide +kernel
theorem dX7_takeOrder_4 : decode cX7_takeOrder 4 = .ok (.istore_n 1, 1) := by decide +kernel
theorem dX7_takeOrder_5 : decode cX7_takeOrder 5 = .ok (.aload_n 0, 1) := by decide +kernel
theorem dX7_takeOrder_6 : decode cX7_takeOrder 6 = .ok (.dup, 1) := by decide +kernel
theorem dX7_takeOrder_7 : decode cX7_takeOrder 7 = .ok (.getfield 216, 3) := by decide +kernel
theorem dX7_takeOrder_10 : decode cX7_takeOrder 10 = .ok (.iconst 1, 1) := by decide +kernel
theorem dX7_takeOrder_11 : decode cX7_takeOrder 11 = .ok (.iadd, 1) := by decide +kernel
theorem dX7_takeOrder_12 : decode cX7_takeOrder 12 = .ok (.putfield 216, 3) := by decide +kernel
theorem dX7_takeOrder_15 : decode cX7_takeOrder 15 = .ok (.aload_n 0, 1) := by decide +kernel
theorem dX7_takeOrder_16 : decode cX7_takeOrder 16 = .ok (.getfield 38, 3) := by decide +kernel
theorem dX7_takeOrder_19 : decode cX7_takeOrder 19 = .ok (.aload_n 0, 1) := by decide +kernel
theorem dX7_takeOrder_20 : decode cX7_takeOrder 20 = .ok (.getfield 238, 3) := by decide +kernel
theorem dX7_takeOrder_23 : decode cX7_takeOrder 23 = .ok (.aload_n 0, 1) := by decide +kernel
theorem dX7_takeOrder_24 : decode cX7_takeOrder 24 = .ok (.getfield 226, 3) := by decide +kernel
theorem dX7_takeOrder_27 : decode cX7_takeOrder 27 = .ok (.iastore, 1) := by decide +kernel
theorem dX7_takeOrder_28 : decode cX7_takeOrder 28 = .ok (.iload_n 1, 1) := by decide +kernel
theorem dX7_takeOrder_29 : decode cX7_takeOrder 29 = .ok (.lookupswitch 64 #[(99, 57), (109, 50), (116, 57), (119, 43)], 43) := by decide +kernel
theorem dX7_takeOrder_72 : decode cX7_takeOrder 72 = .ok (.aload_n 0, 1) := by decide +kernel
theorem dX7_takeOrder_73 : decode cX7_takeOrder 73 = .ok (.invokevirtual 241, 3) := by decide +kernel
theorem dX7_takeOrder_76 : decode cX7_takeOrder 76 = .ok (.goto 32, 3) := by decide +kernel
theorem dX7_takeOrder_79 : decode cX7_takeOrder 79 = .ok (.aload_n 0, 1) := by decide +kernel
theorem dX7_takeOrder_80 : decode cX7_takeOrder 80 = .ok (.invokevirtual 244, 3) := by decide +kernel
theorem dX7_takeOrder_83 : decode cX7_takeOrder 83 = .ok (.goto 25, 3) := by decide +kernel
theorem dX7_takeOrder_86 : decode cX7_takeOrder 86 = .ok (.aload_n 0, 1) := by decide +kernel
theorem dX7_takeOrder_87 : decode cX7_takeOrder 87 = .ok (.invokevirtual 232, 3) := by decide +kernel
theorem dX7_takeOrder_90 : decode cX7_takeOrder 90 = .ok (.goto 18, 3) := by decide +kernel
theorem dX7_takeOrder_93 : decode cX7_takeOrder 93 = .ok (.aload_n 0, 1) := by decide +kernel
theorem dX7_takeOrder_94 : decode cX7_takeOrder 94 = .ok (.dup, 1) := by decide +kernel
theorem dX7_takeOrder_95 : decode cX7_takeOrder 95 = .ok (.getfield 216, 3) := by decide +kernel
theorem dX7_takeOrder_98 : decode cX7_takeOrder 98 = .ok (.iconst 1, 1) := by decide +kernel
theorem dX7_takeOrder_99 : decode cX7_takeOrder 99 = .ok (.isub, 1) := by decide +kernel
theorem dX7_takeOrder_100 : decode cX7_takeOrder 100 = .ok (.putfield 216, 3) := by decide +kernel
theorem dX7_takeOrder_103 : decode cX7_takeOrder 103 = .ok (.aload_n 0, 1) := by decide +kernel
theorem dX7_takeOrder_104 : decode cX7_takeOrder 104 = .ok (.iconst 1, 1) := by decide +kernel
theorem dX7_takeOrder_105 : decode cX7_takeOrder 105 = .ok (.putfield 219, 3) := by decide +kernel
theorem dX7_takeOrder_108 : decode cX7_takeOrder 108 = .ok (.aload_n 0, 1) := by decide +kernel
theorem dX7_takeOrder_109 : decode cX7_takeOrder 109 = .ok (.getfield 219, 3) := by decide +kernel
theorem dX7_takeOrder_112 : decode cX7_takeOrder 112 = .ok (.ifCond .ne 36, 3) := by decide +kernel
theorem dX7_takeOrder_115 : decode cX7_takeOrder 115 = .ok (.aload_n 0, 1) := by decide +kernel
theorem dX7_takeOrder_116 : decode cX7_takeOrder 116 = .ok (.getfield 35, 3) := by decide +kernel
theorem dX7_takeOrder_119 : decode cX7_takeOrder 119 = .ok (.aload_n 0, 1) := by decide +kernel
theorem dX7_takeOrder_120 : decode cX7_takeOrder 120 = .ok (.getfield 238, 3) := by decide +kernel
theorem dX7_takeOrder_123 : decode cX7_takeOrder 123 = .ok (.iload_n 1, 1) := by decide +kernel
theorem dX7_takeOrder_124 : decode cX7_takeOrder 124 = .ok (.iastore, 1) := by decide +kernel
theorem dX7_takeOrder_125 : decode cX7_takeOrder 125 = .ok (.aload_n 0, 1) := by decide +kernel
theorem dX7_takeOrder_126 : decode cX7_takeOrder 126 = .ok (.dup, 1) := by decide +kernel
theorem dX7_takeOrder_127 : decode cX7_takeOrder 127 = .ok (.getfield 238, 3) := by decide +kernel
theorem dX7_takeOrder_130 : decode cX7_takeOrder 130 = .ok (.iconst 1, 1) := by decide +kernel
theorem dX7_takeOrder_131 : decode cX7_takeOrder 131 = .ok (.iadd, 1) := by decide +kernel
theorem dX7_takeOrder_132 : decode cX7_takeOrder 132 = .ok (.putfield 238, 3) := by decide +kernel
theorem dX7_takeOrder_135 : decode cX7_takeOrder 135 = .ok (.aload_n 0, 1) := by decide +kernel
theorem dX7_takeOrder_136 : decode cX7_takeOrder 136 = .ok (.getfield 38, 3) := by decide +kernel
theorem dX7_takeOrder_139 : decode cX7_takeOrder 139 = .ok (.aload_n 0, 1) := by decide +kernel
theorem dX7_takeOrder_140 : decode cX7_takeOrder 140 = .ok (.getfield 238, 3) := by decide +kernel
theorem dX7_takeOrder_143 : decode cX7_takeOrder 143 = .ok (.aload_n 0, 1) := by decide +kernel
theorem dX7_takeOrder_144 : decode cX7_takeOrder 144 = .ok (.getfield 226, 3) := by decide +kernel
theorem dX7_takeOrder_147 : decode cX7_takeOrder 147 = .ok (.iastore, 1) := by decide +kernel
theorem dX7_takeOrder_148 : decode cX7_takeOrder 148 = .ok (.return_, 1) := by decide +kernel
theorem dX7_fault_0 : decode cX7_fault 0 = .ok (.aload_n 0, 1) := by decide +kernel
theorem dX7_fault_1 : decode cX7_fault 1 = .ok (.iconst 0, 1) := by decide +kernel
theorem dX7_fault_2 : decode cX7_fault 2 = .ok (.putfield 216, 3) := by decide +kernel
theorem dX7_fault_5 : decode cX7_fault 5 = .ok (.aload_n 0, 1) := by decide +kernel
theorem dX7_fault_6 : decode cX7_fault 6 = .ok (.iconst 0, 1) := by decide +kernel
theorem dX7_fault_7 : decode cX7_fault 7 = .ok (.putfield 219, 3) := by decide +kernel
theorem dX7_fault_10 : decode cX7_fault 10 = .ok (.aload_n 0, 1) := by decide +kernel
theorem dX7_fault_11 : decode cX7_fault 11 = .ok (.iconst 0, 1) := by decide +kernel
theorem dX7_fault_12 : decode cX7_fault 12 = .ok (.putfield 238, 3) := by decide +kernel
theorem dX7_fault_15 : decode cX7_fault 15 = .ok (.aload_n 0, 1) := by decide +kernel
theorem dX7_fault_16 : decode cX7_fault 16 = .ok (.iconst 0, 1) := by decide +kernel
theorem dX7_fault_17 : decode cX7_fault 17 = .ok (.putfield 226, 3) := by decide +kernel
theorem dX7_fault_20 : decode cX7_fault 20 = .ok (.aload_n 0, 1) := by decide +kernel
theorem dX7_fault_21 : decode cX7_fault 21 = .ok (.invokevirtual 247, 3) := by decide +kernel
theorem dX7_fault_24 : decode cX7_fault 24 = .ok (.aload_n 0, 1) := by decide +kernel
theorem dX7_fault_25 : decode cX7_fault 25 = .ok (.getfield 219, 3) := by decide +kernel
theorem dX7_fault_28 : decode cX7_fault 28 = .ok (.ifCond .ne 34, 3) := by decide +kernel
theorem dX7_fault_31 : decode cX7_fault 31 = .ok (.aload_n 0, 1) := by decide +kernel
theorem dX7_fault_32 : decode cX7_fault 32 = .ok (.getfield 216, 3) := by decide +kernel
theorem dX7_fault_35 : decode cX7_fault 35 = .ok (.aload_n 0, 1) := by decide +kernel
theorem dX7_fault_36 : decode cX7_fault 36 = .ok (.getfield 196, 3) := by decide +kernel
theorem dX7_fault_39 : decode cX7_fault 39 = .ok (.if_icmp .ge 23, 3) := by decide +kernel
theorem dX7_fault_42 : decode cX7_fault 42 = .ok (.aload_n 0, 1) := by decide +kernel
theorem dX7_fault_43 : decode cX7_fault 43 = .ok (.bipush 59, 2) := by decide +kernel
theorem dX7_fault_45 : decode cX7_fault 45 = .ok (.invokevirtual 235, 3) := by decide +kernel
theorem dX7_fault_48 : decode cX7_fault 48 = .ok (.aload_n 0, 1) := by decide +kernel
theorem dX7_fault_49 : decode cX7_fault 49 = .ok (.getfield 219, 3) := by decide +kernel
theorem dX7_fault_52 : decode cX7_fault 52 = .ok (.ifCond .ne (-28), 3) := by decide +kernel
theorem dX7_fault_55 : decode cX7_fault 55 = .ok (.aload_n 0, 1) := by decide +kernel
theorem dX7_fault_56 : decode cX7_fault 56 = .ok (.invokevirtual 247, 3) := by decide +kernel
theorem dX7_fault_59 : decode cX7_fault 59 = .ok (.goto (-35), 3) := by decide +kernel
theorem dX7_fault_62 : decode cX7_fault 62 = .ok (.aload_n 0, 1) := by decide +kernel
theorem dX7_fault_63 : decode cX7_fault 63 = .ok (.getfield 219, 3) := by decide +kernel
theorem dX7_fault_66 : decode cX7_fault 66 = .ok (.ifCond .eq 10, 3) := by decide +kernel
theorem dX7_fault_69 : decode cX7_fault 69 = .ok (.aload_n 0, 1) := by decide +kernel
theorem dX7_fault_70 : decode cX7_fault 70 = .ok (.getfield 216, 3) := by decide +kernel
theorem dX7_fault_73 : decode cX7_fault 73 = .ok (.goto 5, 3) := by decide +kernel
theorem dX7_fault_76 : decode cX7_fault 76 = .ok (.bipush (-6), 2) := by decide +kernel
theorem dX7_fault_78 : decode cX7_fault 78 = .ok (.ireturn, 1) := by decide +kernel
theorem dX7_sendWalker_0 : decode cX7_sendWalker 0 = .ok (.aload_n 0, 1) := by decide +kernel
theorem dX7_sendWalker_1 : decode cX7_sendWalker 1 = .ok (.aload_n 0, 1) := by decide +kernel
theorem dX7_sendWalker_2 : decode cX7_sendWalker 2 = .ok (.getfield 41, 3) := by decide +kernel
theorem dX7_sendWalker_5 : decode cX7_sendWalker 5 = .ok (.aload_n 0, 1) := by decide +kernel
theorem dX7_sendWalker_6 : decode cX7_sendWalker 6 = .ok (.getfield 38, 3) := by decide +kernel
theorem dX7_sendWalker_9 : decode cX7_sendWalker 9 = .ok (.iload_n 1, 1) := by decide +kernel
theorem dX7_sendWalker_10 : decode cX7_sendWalker 10 = .ok (.iaload, 1) := by decide +kernel
theorem dX7_sendWalker_11 : decode cX7_sendWalker 11 = .ok (.iaload, 1) := by decide +kernel
theorem dX7_sendWalker_12 : decode cX7_sendWalker 12 = .ok (.aload_n 0, 1) := by decide +kernel
theorem dX7_sendWalker_13 : decode cX7_sendWalker 13 = .ok (.getfield 41, 3) := by decide +kernel
theorem dX7_sendWalker_16 : decode cX7_sendWalker 16 = .ok (.aload_n 0, 1) := by decide +kernel
theorem dX7_sendWalker_17 : decode cX7_sendWalker 17 = .ok (.getfield 38, 3) := by decide +kernel
theorem dX7_sendWalker_20 : decode cX7_sendWalker 20 = .ok (.iload_n 1, 1) := by decide +kernel
theorem dX7_sendWalker_21 : decode cX7_sendWalker 21 = .ok (.iaload, 1) := by decide +kernel
theorem dX7_sendWalker_22 : decode cX7_sendWalker 22 = .ok (.iconst 1, 1) := by decide +kernel
theorem dX7_sendWalker_23 : decode cX7_sendWalker 23 = .ok (.iadd, 1) := by decide +kernel
theorem dX7_sendWalker_24 : decode cX7_sendWalker 24 = .ok (.iaload, 1) := by decide +kernel
theorem dX7_sendWalker_25 : decode cX7_sendWalker 25 = .ok (.iconst 0, 1) := by decide +kernel
theorem dX7_sendWalker_26 : decode cX7_sendWalker 26 = .ok (.invokevirtual 149, 3) := by decide +kernel
theorem dX7_sendWalker_29 : decode cX7_sendWalker 29 = .ok (.istore_n 2, 1) := by decide +kernel
theorem dX7_sendWalker_30 : decode cX7_sendWalker 30 = .ok (.iload_n 2, 1) := by decide +kernel
theorem dX7_sendWalker_31 : decode cX7_sendWalker 31 = .ok (.istore_n 3, 1) := by decide +kernel
theorem dX7_sendWalker_32 : decode cX7_sendWalker 32 = .ok (.aload_n 0, 1) := by decide +kernel
theorem dX7_sendWalker_33 : decode cX7_sendWalker 33 = .ok (.getfield 38, 3) := by decide +kernel
theorem dX7_sendWalker_36 : decode cX7_sendWalker 36 = .ok (.iload_n 1, 1) := by decide +kernel
theorem dX7_sendWalker_37 : decode cX7_sendWalker 37 = .ok (.iaload, 1) := by decide +kernel
theorem dX7_sendWalker_38 : decode cX7_sendWalker 38 = .ok (.iconst 2, 1) := by decide +kernel
theorem dX7_sendWalker_39 : decode cX7_sendWalker 39 = .ok (.iadd, 1) := by decide +kernel
theorem dX7_sendWalker_40 : decode cX7_sendWalker 40 = .ok (.istore 4, 2) := by decide +kernel
theorem dX7_sendWalker_42 : decode cX7_sendWalker 42 = .ok (.iload 4, 2) := by decide +kernel
theorem dX7_sendWalker_44 : decode cX7_sendWalker 44 = .ok (.aload_n 0, 1) := by decide +kernel
theorem dX7_sendWalker_45 : decode cX7_sendWalker 45 = .ok (.getfield 38, 3) := by decide +kernel
theorem dX7_sendWalker_48 : decode cX7_sendWalker 48 = .ok (.iload_n 1, 1) := by decide +kernel
theorem dX7_sendWalker_49 : decode cX7_sendWalker 49 = .ok (.iconst 1, 1) := by decide +kernel
theorem dX7_sendWalker_50 : decode cX7_sendWalker 50 = .ok (.iadd, 1) := by decide +kernel
theorem dX7_sendWalker_51 : decode cX7_sendWalker 51 = .ok (.iaload, 1) := by decide +kernel
theorem dX7_sendWalker_52 : decode cX7_sendWalker 52 = .ok (.if_icmp .ge 36, 3) := by decide +kernel
theorem dX7_sendWalker_55 : decode cX7_sendWalker 55 = .ok (.iload_n 3, 1) := by decide +kernel
theorem dX7_sendWalker_56 : decode cX7_sendWalker 56 = .ok (.ifCond .lt 32, 3) := by decide +kernel
theorem dX7_sendWalker_59 : decode cX7_sendWalker 59 = .ok (.aload_n 0, 1) := by decide +kernel
theorem dX7_sendWalker_60 : decode cX7_sendWalker 60 = .ok (.iload_n 2, 1) := by decide +kernel
theorem dX7_sendWalker_61 : decode cX7_sendWalker 61 = .ok (.aload_n 0, 1) := by decide +kernel
theorem dX7_sendWalker_62 : decode cX7_sendWalker 62 = .ok (.getfield 41, 3) := by decide +kernel
theorem dX7_sendWalker_65 : decode cX7_sendWalker 65 = .ok (.iload 4, 2) := by decide +kernel
theorem dX7_sendWalker_67 : decode cX7_sendWalker 67 = .ok (.iaload, 1) := by decide +kernel
theorem dX7_sendWalker_68 : decode cX7_sendWalker 68 = .ok (.aload_n 0, 1) := by decide +kernel
theorem dX7_sendWalker_69 : decode cX7_sendWalker 69 = .ok (.getfield 41, 3) := by decide +kernel
theorem dX7_sendWalker_72 : decode cX7_sendWalker 72 = .ok (.iload 4, 2) := by decide +kernel
theorem dX7_sendWalker_74 : decode cX7_sendWalker 74 = .ok (.iconst 1, 1) := by decide +kernel
theorem dX7_sendWalker_75 : decode cX7_sendWalker 75 = .ok (.iadd, 1) := by decide +kernel
theorem dX7_sendWalker_76 : decode cX7_sendWalker 76 = .ok (.iaload, 1) := by decide +kernel
theorem dX7_sendWalker_77 : decode cX7_sendWalker 77 = .ok (.iconst 0, 1) := by decide +kernel
theorem dX7_sendWalker_78 : decode cX7_sendWalker 78 = .ok (.invokevirtual 156, 3) := by decide +kernel
theorem dX7_sendWalker_81 : decode cX7_sendWalker 81 = .ok (.istore_n 3, 1) := by decide +kernel
theorem dX7_sendWalker_82 : decode cX7_sendWalker 82 = .ok (.iinc 4 2, 3) := by decide +kernel
theorem dX7_sendWalker_85 : decode cX7_sendWalker 85 = .ok (.goto (-43), 3) := by decide +kernel
theorem dX7_sendWalker_88 : decode cX7_sendWalker 88 = .ok (.iload_n 3, 1) := by decide +kernel
theorem dX7_sendWalker_89 : decode cX7_sendWalker 89 = .ok (.ireturn, 1) := by decide +kernel
theorem dX7_carry_0 : decode cX7_carry 0 = .ok (.aload_n 0, 1) := by decide +kernel
theorem dX7_carry_1 : decode cX7_carry 1 = .ok (.getfield 38, 3) := by decide +kernel
theorem dX7_carry_4 : decode cX7_carry 4 = .ok (.iload_n 1, 1) := by decide +kernel
theorem dX7_carry_5 : decode cX7_carry 5 = .ok (.iaload, 1) := by decide +kernel
theorem dX7_carry_6 : decode cX7_carry 6 = .ok (.istore_n 2, 1) := by decide +kernel
theorem dX7_carry_7 : decode cX7_carry 7 = .ok (.aload_n 0, 1) := by decide +kernel
theorem dX7_carry_8 : decode cX7_carry 8 = .ok (.getfield 35, 3) := by decide +kernel
theorem dX7_carry_11 : decode cX7_carry 11 = .ok (.iload_n 1, 1) := by decide +kernel
theorem dX7_carry_12 : decode cX7_carry 12 = .ok (.iaload, 1) := by decide +kernel
theorem dX7_carry_13 : decode cX7_carry 13 = .ok (.lookupswitch 73 #[(99, 41), (109, 53), (119, 35)], 35) := by decide +kernel
theorem dX7_carry_48 : decode cX7_carry 48 = .ok (.aload_n 0, 1) := by decide +kernel
theorem dX7_carry_49 : decode cX7_carry 49 = .ok (.iload_n 1, 1) := by decide +kernel
theorem dX7_carry_50 : decode cX7_carry 50 = .ok (.invokevirtual 250, 3) := by decide +kernel
theorem dX7_carry_53 : decode cX7_carry 53 = .ok (.ireturn, 1) := by decide +kernel
theorem dX7_carry_54 : decode cX7_carry 54 = .ok (.aload_n 0, 1) := by decide +kernel
theorem dX7_carry_55 : decode cX7_carry 55 = .ok (.aload_n 0, 1) := by decide +kernel
theorem dX7_carry_56 : decode cX7_carry 56 = .ok (.getfield 41, 3) := by decide +kernel
theorem dX7_carry_59 : decode cX7_carry 59 = .ok (.iload_n 2, 1) := by decide +kernel
theorem dX7_carry_60 : decode cX7_carry 60 = .ok (.iaload, 1) := by decide +kernel
theorem dX7_carry_61 : decode cX7_carry 61 = .ok (.iconst 0, 1) := by decide +kernel
theorem dX7_carry_62 : decode cX7_carry 62 = .ok (.invokevirtual 170, 3) := by decide +kernel
theorem dX7_carry_65 : decode cX7_carry 65 = .ok (.ireturn, 1) := by decide +kernel
theorem dX7_carry_66 : decode cX7_carry 66 = .ok (.aload_n 0, 1) := by decide +kernel
theorem dX7_carry_67 : decode cX7_carry 67 = .ok (.aload_n 0, 1) := by decide +kernel
theorem dX7_carry_68 : decode cX7_carry 68 = .ok (.getfield 41, 3) := by decide +kernel
theorem dX7_carry_71 : decode cX7_carry 71 = .ok (.iload_n 2, 1) := by decide +kernel
theorem dX7_carry_72 : decode cX7_carry 72 = .ok (.iaload, 1) := by decide +kernel
theorem dX7_carry_73 : decode cX7_carry 73 = .ok (.aload_n 0, 1) := by decide +kernel
theorem dX7_carry_74 : decode cX7_carry 74 = .ok (.getfield 41, 3) := by decide +kernel
theorem dX7_carry_77 : decode cX7_carry 77 = .ok (.iload_n 2, 1) := by decide +kernel
theorem dX7_carry_78 : decode cX7_carry 78 = .ok (.iconst 1, 1) := by decide +kernel
theorem dX7_carry_79 : decode cX7_carry 79 = .ok (.iadd, 1) := by decide +kernel
theorem dX7_carry_80 : decode cX7_carry 80 = .ok (.iaload, 1) := by decide +kernel
theorem dX7_carry_81 : decode cX7_carry 81 = .ok (.iconst 0, 1) := by decide +kernel
theorem dX7_carry_82 : decode cX7_carry 82 = .ok (.invokevirtual 167, 3) := by decide +kernel
theorem dX7_carry_85 : decode cX7_carry 85 = .ok (.ireturn, 1) := by decide +kernel
theorem dX7_carry_86 : decode cX7_carry 86 = .ok (.aload_n 0, 1) := by decide +kernel
theorem dX7_carry_87 : decode cX7_carry 87 = .ok (.aload_n 0, 1) := by decide +kernel
theorem dX7_carry_88 : decode cX7_carry 88 = .ok (.getfield 41, 3) := by decide +kernel
theorem dX7_carry_91 : decode cX7_carry 91 = .ok (.iload_n 2, 1) := by decide +kernel
theorem dX7_carry_92 : decode cX7_carry 92 = .ok (.iaload, 1) := by decide +kernel
theorem dX7_carry_93 : decode cX7_carry 93 = .ok (.iconst 0, 1) := by decide +kernel
theorem dX7_carry_94 : decode cX7_carry 94 = .ok (.invokevirtual 177, 3) := by decide +kernel
theorem dX7_carry_97 : decode cX7_carry 97 = .ok (.ireturn, 1) := by decide +kernel
theorem dX7_carryOut_0 : decode cX7_carryOut 0 = .ok (.aload_n 0, 1) := by decide +kernel
theorem dX7_carryOut_1 : decode cX7_carryOut 1 = .ok (.invokevirtual 253, 3) := by decide +kernel
theorem dX7_carryOut_4 : decode cX7_carryOut 4 = .ok (.ifCond .lt 6, 3) := by decide +kernel
theorem dX7_carryOut_7 : decode cX7_carryOut 7 = .ok (.bipush (-3), 2) := by decide +kernel
theorem dX7_carryOut_9 : decode cX7_carryOut 9 = .ok (.ireturn, 1) := by decide +kernel
theorem dX7_carryOut_10 : decode cX7_carryOut 10 = .ok (.aload_n 0, 1) := by decide +kernel
theorem dX7_carryOut_11 : decode cX7_carryOut 11 = .ok (.invokevirtual 59, 3) := by decide +kernel
theorem dX7_carryOut_14 : decode cX7_carryOut 14 = .ok (.iconst 0, 1) := by decide +kernel
theorem dX7_carryOut_15 : decode cX7_carryOut 15 = .ok (.istore_n 1, 1) := by decide +kernel
theorem dX7_carryOut_16 : decode cX7_carryOut 16 = .ok (.iload_n 1, 1) := by decide +kernel
theorem dX7_carryOut_17 : decode cX7_carryOut 17 = .ok (.aload_n 0, 1) := by decide +kernel
theorem dX7_carryOut_18 : decode cX7_carryOut 18 = .ok (.getfield 238, 3) := by decide +kernel
theorem dX7_carryOut_21 : decode cX7_carryOut 21 = .ok (.if_icmp .ge 17, 3) := by decide +kernel
theorem dX7_carryOut_24 : decode cX7_carryOut 24 = .ok (.aload_n 0, 1) := by decide +kernel
theorem dX7_carryOut_25 : decode cX7_carryOut 25 = .ok (.iload_n 1, 1) := by decide +kernel
theorem dX7_carryOut_26 : decode cX7_carryOut 26 = .ok (.invokevirtual 256, 3) := by decide +kernel
theorem dX7_carryOut_29 : decode cX7_carryOut 29 = .ok (.ifCond .lt 9, 3) := by decide +kernel
theorem dX7_carryOut_32 : decode cX7_carryOut 32 = .ok (.iinc 1 1, 3) := by decide +kernel
theorem dX7_carryOut_35 : decode cX7_carryOut 35 = .ok (.goto (-19), 3) := by decide +kernel
theorem dX7_carryOut_38 : decode cX7_carryOut 38 = .ok (.aload_n 0, 1) := by decide +kernel
theorem dX7_carryOut_39 : decode cX7_carryOut 39 = .ok (.iconst 0, 1) := by decide +kernel
theorem dX7_carryOut_40 : decode cX7_carryOut 40 = .ok (.putfield 196, 3) := by decide +kernel
theorem dX7_carryOut_43 : decode cX7_carryOut 43 = .ok (.iload_n 1, 1) := by decide +kernel
theorem dX7_carryOut_44 : decode cX7_carryOut 44 = .ok (.ireturn, 1) := by decide +kernel
theorem dX7_undo_0 : decode cX7_undo 0 = .ok (.aload_n 0, 1) := by decide +kernel
theorem dX7_undo_1 : decode cX7_undo 1 = .ok (.getfield 52, 3) := by decide +kernel
theorem dX7_undo_4 : decode cX7_undo 4 = .ok (.ifCond .ne 6, 3) := by decide +kernel
theorem dX7_undo_7 : decode cX7_undo 7 = .ok (.bipush (-5), 2) := by decide +kernel
theorem dX7_undo_9 : decode cX7_undo 9 = .ok (.ireturn, 1) := by decide +kernel
theorem dX7_undo_10 : decode cX7_undo 10 = .ok (.aload_n 0, 1) := by decide +kernel
theorem dX7_undo_11 : decode cX7_undo 11 = .ok (.dup, 1) := by decide +kernel
theorem dX7_undo_12 : decode cX7_undo 12 = .ok (.getfield 52, 3) := by decide +kernel
theorem dX7_undo_15 : decode cX7_undo 15 = .ok (.iconst 1, 1) := by decide +kernel
theorem dX7_undo_16 : decode cX7_undo 16 = .ok (.isub, 1) := by decide +kernel
theorem dX7_undo_17 : decode cX7_undo 17 = .ok (.putfield 52, 3) := by decide +kernel
theorem dX7_undo_20 : decode cX7_undo 20 = .ok (.aload_n 0, 1) := by decide +kernel
theorem dX7_undo_21 : decode cX7_undo 21 = .ok (.getfield 56, 3) := by decide +kernel
theorem dX7_undo_24 : decode cX7_undo 24 = .ok (.aload_n 0, 1) := by decide +kernel
theorem dX7_undo_25 : decode cX7_undo 25 = .ok (.getfield 52, 3) := by decide +kernel
theorem dX7_undo_28 : decode cX7_undo 28 = .ok (.iadd, 1) := by decide +kernel
theorem dX7_undo_29 : decode cX7_undo 29 = .ok (.bipush 6, 2) := by decide +kernel
theorem dX7_undo_31 : decode cX7_undo 31 = .ok (.irem, 1) := by decide +kernel
theorem dX7_undo_32 : decode cX7_undo 32 = .ok (.istore_n 1, 1) := by decide +kernel
theorem dX7_undo_33 : decode cX7_undo 33 = .ok (.iconst 0, 1) := by decide +kernel
theorem dX7_undo_34 : decode cX7_undo 34 = .ok (.istore_n 2, 1) := by decide +kernel
theorem dX7_undo_35 : decode cX7_undo 35 = .ok (.iload_n 2, 1) := by decide +kernel
theorem dX7_undo_36 : decode cX7_undo 36 = .ok (.sipush 440, 3) := by decide +kernel
theorem dX7_undo_39 : decode cX7_undo 39 = .ok (.if_icmp .ge 27, 3) := by decide +kernel
theorem dX7_undo_42 : decode cX7_undo 42 = .ok (.aload_n 0, 1) := by decide +kernel
theorem dX7_undo_43 : decode cX7_undo 43 = .ok (.getfield 7, 3) := by decide +kernel
theorem dX7_undo_46 : decode cX7_undo 46 = .ok (.iload_n 2, 1) := by decide +kernel
theorem dX7_undo_47 : decode cX7_undo 47 = .ok (.aload_n 0, 1) := by decide +kernel
theorem dX7_undo_48 : decode cX7_undo 48 = .ok (.getfield 13, 3) := by decide +kernel
theorem dX7_undo_51 : decode cX7_undo 51 = .ok (.sipush 440, 3) := by decide +kernel
theorem dX7_undo_54 : decode cX7_undo 54 = .ok (.iload_n 1, 1) := by decide +kernel
theorem dX7_undo_55 : decode cX7_undo 55 = .ok (.imul, 1) := by decide +kernel
theorem dX7_undo_56 : decode cX7_undo 56 = .ok (.iload_n 2, 1) := by decide +kernel
theorem dX7_undo_57 : decode cX7_undo 57 = .ok (.iadd, 1) := by decide +kernel
theorem dX7_undo_58 : decode cX7_undo 58 = .ok (.iaload, 1) := by decide +kernel
theorem dX7_undo_59 : decode cX7_undo 59 = .ok (.iastore, 1) := by decide +kernel
theorem dX7_undo_60 : decode cX7_undo 60 = .ok (.iinc 2 1, 3) := by decide +kernel
theorem dX7_undo_63 : decode cX7_undo 63 = .ok (.goto (-28), 3) := by decide +kernel
theorem dX7_undo_66 : decode cX7_undo 66 = .ok (.aload_n 0, 1) := by decide +kernel
theorem dX7_undo_67 : decode cX7_undo 67 = .ok (.getfield 52, 3) := by decide +kernel
theorem dX7_undo_70 : decode cX7_undo 70 = .ok (.ireturn, 1) := by decide +kernel
theorem dX7_save_0 : decode cX7_save 0 = .ok (.iload_n 1, 1) := by decide +kernel
theorem dX7_save_1 : decode cX7_save 1 = .ok (.iconst 0, 1) := by decide +kernel
theorem dX7_save_2 : decode cX7_save 2 = .ok (.iconst 1, 1) := by decide +kernel
theorem dX7_save_3 : decode cX7_save 3 = .ok (.invokestatic 44, 3) := by decide +kernel
theorem dX7_save_6 : decode cX7_save 6 = .ok (.ifCond .ne 6, 3) := by decide +kernel
theorem dX7_save_9 : decode cX7_save 9 = .ok (.bipush (-2), 2) := by decide +kernel
theorem dX7_save_11 : decode cX7_save 11 = .ok (.ireturn, 1) := by decide +kernel
theorem dX7_save_12 : decode cX7_save 12 = .ok (.iconst 0, 1) := by decide +kernel
theorem dX7_save_13 : decode cX7_save 13 = .ok (.istore_n 2, 1) := by decide +kernel
theorem dX7_save_14 : decode cX7_save 14 = .ok (.iload_n 2, 1) := by decide +kernel
theorem dX7_save_15 : decode cX7_save 15 = .ok (.sipush 440, 3) := by decide +kernel
theorem dX7_save_18 : decode cX7_save 18 = .ok (.if_icmp .ge 27, 3) := by decide +kernel
theorem dX7_save_21 : decode cX7_save 21 = .ok (.aload_n 0, 1) := by decide +kernel
theorem dX7_save_22 : decode cX7_save 22 = .ok (.getfield 16, 3) := by decide +kernel
theorem dX7_save_25 : decode cX7_save 25 = .ok (.sipush 440, 3) := by decide +kernel
theorem dX7_save_28 : decode cX7_save 28 = .ok (.iload_n 1, 1) := by decide +kernel
theorem dX7_save_29 : decode cX7_save 29 = .ok (.imul, 1) := by decide +kernel
theorem dX7_save_30 : decode cX7_save 30 = .ok (.iload_n 2, 1) := by decide +kernel
theorem dX7_save_31 : decode cX7_save 31 = .ok (.iadd, 1) := by decide +kernel
theorem dX7_save_32 : decode cX7_save 32 = .ok (.aload_n 0, 1) := by decide +kernel
theorem dX7_save_33 : decode cX7_save 33 = .ok (.getfield 7, 3) := by decide +kernel
theorem dX7_save_36 : decode cX7_save 36 = .ok (.iload_n 2, 1) := by decide +kernel
theorem dX7_save_37 : decode cX7_save 37 = .ok (.iaload, 1) := by decide +kernel
theorem dX7_save_38 : decode cX7_save 38 = .ok (.iastore, 1) := by decide +kernel
theorem dX7_save_39 : decode cX7_save 39 = .ok (.iinc 2 1, 3) := by decide +kernel
theorem dX7_save_42 : decode cX7_save 42 = .ok (.goto (-28), 3) := by decide +kernel
theorem dX7_save_45 : decode cX7_save 45 = .ok (.aload_n 0, 1) := by decide +kernel
theorem dX7_save_46 : decode cX7_save 46 = .ok (.getfield 19, 3) := by decide +kernel
theorem dX7_save_49 : decode cX7_save 49 = .ok (.iload_n 1, 1) := by decide +kernel
theorem dX7_save_50 : decode cX7_save 50 = .ok (.iconst 1, 1) := by decide +kernel
theorem dX7_save_51 : decode cX7_save 51 = .ok (.bastore, 1) := by decide +kernel
theorem dX7_save_52 : decode cX7_save 52 = .ok (.aload_n 0, 1) := by decide +kernel
theorem dX7_save_53 : decode cX7_save 53 = .ok (.getfield 7, 3) := by decide +kernel
theorem dX7_save_56 : decode cX7_save 56 = .ok (.bipush 6, 2) := by decide +kernel
theorem dX7_save_58 : decode cX7_save 58 = .ok (.iaload, 1) := by decide +kernel
theorem dX7_save_59 : decode cX7_save 59 = .ok (.ireturn, 1) := by decide +kernel
theorem dX7_restore_0 : decode cX7_restore 0 = .ok (.iload_n 1, 1) := by decide +kernel
theorem dX7_restore_1 : decode cX7_restore 1 = .ok (.iconst 0, 1) := by decide +kernel
theorem dX7_restore_2 : decode cX7_restore 2 = .ok (.iconst 1, 1) := by decide +kernel
theorem dX7_restore_3 : decode cX7_restore 3 = .ok (.invokestatic 44, 3) := by decide +kernel
theorem dX7_restore_6 : decode cX7_restore 6 = .ok (.ifCond .ne 6, 3) := by decide +kernel
theorem dX7_restore_9 : decode cX7_restore 9 = .ok (.bipush (-2), 2) := by decide +kernel
theorem dX7_restore_11 : decode cX7_restore 11 = .ok (.ireturn, 1) := by decide +kernel
theorem dX7_restore_12 : decode cX7_restore 12 = .ok (.aload_n 0, 1) := by decide +kernel
theorem dX7_restore_13 : decode cX7_restore 13 = .ok (.getfield 19, 3) := by decide +kernel
theorem dX7_restore_16 : decode cX7_restore 16 = .ok (.iload_n 1, 1) := by decide +kernel
theorem dX7_restore_17 : decode cX7_restore 17 = .ok (.baload, 1) := by decide +kernel
theorem dX7_restore_18 : decode cX7_restore 18 = .ok (.ifCond .ne 6, 3) := by decide +kernel
theorem dX7_restore_21 : decode cX7_restore 21 = .ok (.bipush (-5), 2) := by decide +kernel
theorem dX7_restore_23 : decode cX7_restore 23 = .ok (.ireturn, 1) := by decide +kernel
theorem dX7_restore_24 : decode cX7_restore 24 = .ok (.aload_n 0, 1) := by decide +kernel
theorem dX7_restore_25 : decode cX7_restore 25 = .ok (.invokevirtual 59, 3) := by decide +kernel
theorem dX7_restore_28 : decode cX7_restore 28 = .ok (.iconst 0, 1) := by decide +kernel
theorem dX7_restore_29 : decode cX7_restore 29 = .ok (.istore_n 2, 1) := by decide +kernel
theorem dX7_restore_30 : decode cX7_restore 30 = .ok (.iload_n 2, 1) := by decide +kernel
theorem dX7_restore_31 : decode cX7_restore 31 = .ok (.sipush 440, 3) := by decide +kernel
theorem dX7_restore_34 : decode cX7_restore 34 = .ok (.if_icmp .ge 27, 3) := by decide +kernel
theorem dX7_restore_37 : decode cX7_restore 37 = .ok (.aload_n 0, 1) := by decide +kernel
theorem dX7_restore_38 : decode cX7_restore 38 = .ok (.getfield 7, 3) := by decide +kernel
theorem dX7_restore_41 : decode cX7_restore 41 = .ok (.iload_n 2, 1) := by decide +kernel
theorem dX7_restore_42 : decode cX7_restore 42 = .ok (.aload_n 0, 1) := by decide +kernel
theorem dX7_restore_43 : decode cX7_restore 43 = .ok (.getfield 16, 3) := by decide +kernel
theorem dX7_restore_46 : decode cX7_restore 46 = .ok (.sipush 440, 3) := by decide +kernel
theorem dX7_restore_49 : decode cX7_restore 49 = .ok (.iload_n 1, 1) := by decide +kernel
theorem dX7_restore_50 : decode cX7_restore 50 = .ok (.imul, 1) := by decide +kernel
theorem dX7_restore_51 : decode cX7_restore 51 = .ok (.iload_n 2, 1) := by decide +kernel
theorem dX7_restore_52 : decode cX7_restore 52 = .ok (.iadd, 1) := by decide +kernel
theorem dX7_restore_53 : decode cX7_restore 53 = .ok (.iaload, 1) := by decide +kernel
theorem dX7_restore_54 : decode cX7_restore 54 = .ok (.iastore, 1) := by decide +kernel
theorem dX7_restore_55 : decode cX7_restore 55 = .ok (.iinc 2 1, 3) := by decide +kernel
theorem dX7_restore_58 : decode cX7_restore 58 = .ok (.goto (-28), 3) := by decide +kernel
theorem dX7_restore_61 : decode cX7_restore 61 = .ok (.aload_n 0, 1) := by decide +kernel
theorem dX7_restore_62 : decode cX7_restore 62 = .ok (.getfield 7, 3) := by decide +kernel
theorem dX7_restore_65 : decode cX7_restore 65 = .ok (.bipush 6, 2) := by decide +kernel
theorem dX7_restore_67 : decode cX7_restore 67 = .ok (.iaload, 1) := by decide +kernel
theorem dX7_restore_68 : decode cX7_restore 68 = .ok (.ireturn, 1) := by decide +kernel
theorem dJ6_bitCount_0f7a4_0 : decode cJ6_bitCount_0f7a4 0 = .ok (.iload_n 0, 1) := by decide +kernel
theorem dJ6_bitCount_0f7a4_1 : decode cJ6_bitCount_0f7a4 1 = .ok (.iload_n 0, 1) := by decide +kernel
theorem dJ6_bitCount_0f7a4_2 : decode cJ6_bitCount_0f7a4 2 = .ok (.iconst 1, 1) := by decide +kernel
theorem dJ6_bitCount_0f7a4_3 : decode cJ6_bitCount_0f7a4 3 = .ok (.iushr, 1) := by decide +kernel
theorem dJ6_bitCount_0f7a4_4 : decode cJ6_bitCount_0f7a4 4 = .ok (.ldc_w 265, 3) := by decide +kernel
theorem dJ6_bitCount_0f7a4_7 : decode cJ6_bitCount_0f7a4 7 = .ok (.iand, 1) := by decide +kernel
theorem dJ6_bitCount_0f7a4_8 : decode cJ6_bitCount_0f7a4 8 = .ok (.isub, 1) := by decide +kernel
theorem dJ6_bitCount_0f7a4_9 : decode cJ6_bitCount_0f7a4 9 = .ok (.istore_n 0, 1) := by decide +kernel
theorem dJ6_bitCount_0f7a4_10 : decode cJ6_bitCount_0f7a4 10 = .ok (.iload_n 0, 1) := by decide +kernel
theorem dJ6_bitCount_0f7a4_11 : decode cJ6_bitCount_0f7a4 11 = .ok (.ldc_w 266, 3) := by decide +kernel
theorem dJ6_bitCount_0f7a4_14 : decode cJ6_bitCount_0f7a4 14 = .ok (.iand, 1) := by decide +kernel
theorem dJ6_bitCount_0f7a4_15 : decode cJ6_bitCount_0f7a4 15 = .ok (.iload_n 0, 1) := by decide +kernel
theorem dJ6_bitCount_0f7a4_16 : decode cJ6_bitCount_0f7a4 16 = .ok (.iconst 2, 1) := by decide +kernel
theorem dJ6_bitCount_0f7a4_17 : decode cJ6_bitCount_0f7a4 17 = .ok (.iushr, 1) := by decide +kernel
theorem dJ6_bitCount_0f7a4_18 : decode cJ6_bitCount_0f7a4 18 = .ok (.ldc_w 266, 3) := by decide +kernel
theorem dJ6_bitCount_0f7a4_21 : decode cJ6_bitCount_0f7a4 21 = .ok (.iand, 1) := by decide +kernel
theorem dJ6_bitCount_0f7a4_22 : decode cJ6_bitCount_0f7a4 22 = .ok (.iadd, 1) := by decide +kernel
theorem dJ6_bitCount_0f7a4_23 : decode cJ6_bitCount_0f7a4 23 = .ok (.istore_n 0, 1) := by decide +kernel
theorem dJ6_bitCount_0f7a4_24 : decode cJ6_bitCount_0f7a4 24 = .ok (.iload_n 0, 1) := by decide +kernel
theorem dJ6_bitCount_0f7a4_25 : decode cJ6_bitCount_0f7a4 25 = .ok (.iload_n 0, 1) := by decide +kernel
theorem dJ6_bitCount_0f7a4_26 : decode cJ6_bitCount_0f7a4 26 = .ok (.iconst 4, 1) := by decide +kernel
theorem dJ6_bitCount_0f7a4_27 : decode cJ6_bitCount_0f7a4 27 = .ok (.iushr, 1) := by decide +kernel
theorem dJ6_bitCount_0f7a4_28 : decode cJ6_bitCount_0f7a4 28 = .ok (.iadd, 1) := by decide +kernel
theorem dJ6_bitCount_0f7a4_29 : decode cJ6_bitCount_0f7a4 29 = .ok (.ldc_w 267, 3) := by decide +kernel
theorem dJ6_bitCount_0f7a4_32 : decode cJ6_bitCount_0f7a4 32 = .ok (.iand, 1) := by decide +kernel
theorem dJ6_bitCount_0f7a4_33 : decode cJ6_bitCount_0f7a4 33 = .ok (.istore_n 0, 1) := by decide +kernel
theorem dJ6_bitCount_0f7a4_34 : decode cJ6_bitCount_0f7a4 34 = .ok (.iload_n 0, 1) := by decide +kernel
theorem dJ6_bitCount_0f7a4_35 : decode cJ6_bitCount_0f7a4 35 = .ok (.iload_n 0, 1) := by decide +kernel
theorem dJ6_bitCount_0f7a4_36 : decode cJ6_bitCount_0f7a4 36 = .ok (.bipush 8, 2) := by decide +kernel
theorem dJ6_bitCount_0f7a4_38 : decode cJ6_bitCount_0f7a4 38 = .ok (.iushr, 1) := by decide +kernel
theorem dJ6_bitCount_0f7a4_39 : decode cJ6_bitCount_0f7a4 39 = .ok (.iadd, 1) := by decide +kernel
theorem dJ6_bitCount_0f7a4_40 : decode cJ6_bitCount_0f7a4 40 = .ok (.istore_n 0, 1) := by decide +kernel
theorem dJ6_bitCount_0f7a4_41 : decode cJ6_bitCount_0f7a4 41 = .ok (.iload_n 0, 1) := by decide +kernel
theorem dJ6_bitCount_0f7a4_42 : decode cJ6_bitCount_0f7a4 42 = .ok (.iload_n 0, 1) := by decide +kernel
theorem dJ6_bitCount_0f7a4_43 : decode cJ6_bitCount_0f7a4 43 = .ok (.bipush 16, 2) := by decide +kernel
theorem dJ6_bitCount_0f7a4_45 : decode cJ6_bitCount_0f7a4 45 = .ok (.iushr, 1) := by decide +kernel
theorem dJ6_bitCount_0f7a4_46 : decode cJ6_bitCount_0f7a4 46 = .ok (.iadd, 1) := by decide +kernel
theorem dJ6_bitCount_0f7a4_47 : decode cJ6_bitCount_0f7a4 47 = .ok (.istore_n 0, 1) := by decide +kernel
theorem dJ6_bitCount_0f7a4_48 : decode cJ6_bitCount_0f7a4 48 = .ok (.iload_n 0, 1) := by decide +kernel
theorem dJ6_bitCount_0f7a4_49 : decode cJ6_bitCount_0f7a4 49 = .ok (.bipush 63, 2) := by decide +kernel
theorem dJ6_bitCount_0f7a4_51 : decode cJ6_bitCount_0f7a4 51 = .ok (.iand, 1) := by decide +kernel
theorem dJ6_bitCount_0f7a4_52 : decode cJ6_bitCount_0f7a4 52 = .ok (.ireturn, 1) := by decide +kernel
theorem dJ9_abs_0f7a4_0 : decode cJ9_abs_0f7a4 0 = .ok (.iload_n 0, 1) := by decide +kernel
theorem dJ9_abs_0f7a4_1 : decode cJ9_abs_0f7a4 1 = .ok (.ifCond .ge 8, 3) := by decide +kernel
theorem dJ9_abs_0f7a4_4 : decode cJ9_abs_0f7a4 4 = .ok (.iload_n 0, 1) := by decide +kernel
theorem dJ9_abs_0f7a4_5 : decode cJ9_abs_0f7a4 5 = .ok (.ineg, 1) := by decide +kernel
theorem dJ9_abs_0f7a4_6 : decode cJ9_abs_0f7a4 6 = .ok (.goto 4, 3) := by decide +kernel
theorem dJ9_abs_0f7a4_9 : decode cJ9_abs_0f7a4 9 = .ok (.iload_n 0, 1) := by decide +kernel
theorem dJ9_abs_0f7a4_10 : decode cJ9_abs_0f7a4 10 = .ok (.ireturn, 1) := by decide +kernel
theorem dJ9_max_7cf53_0 : decode cJ9_max_7cf53 0 = .ok (.iload_n 0, 1) := by decide +kernel
theorem dJ9_max_7cf53_1 : decode cJ9_max_7cf53 1 = .ok (.iload_n 1, 1) := by decide +kernel
theorem dJ9_max_7cf53_2 : decode cJ9_max_7cf53 2 = .ok (.if_icmp .lt 7, 3) := by decide +kernel
theorem dJ9_max_7cf53_5 : decode cJ9_max_7cf53 5 = .ok (.iload_n 0, 1) := by decide +kernel
theorem dJ9_max_7cf53_6 : decode cJ9_max_7cf53 6 = .ok (.goto 4, 3) := by decide +kernel
theorem dJ9_max_7cf53_9 : decode cJ9_max_7cf53 9 = .ok (.iload_n 1, 1) := by decide +kernel
theorem dJ9_max_7cf53_10 : decode cJ9_max_7cf53 10 = .ok (.ireturn, 1) := by decide +kernel
theorem dJ9_min_7cf53_0 : decode cJ9_min_7cf53 0 = .ok (.iload_n 0, 1) := by decide +kernel
theorem dJ9_min_7cf53_1 : decode cJ9_min_7cf53 1 = .ok (.iload_n 1, 1) := by decide +kernel
theorem dJ9_min_7cf53_2 : decode cJ9_min_7cf53 2 = .ok (.if_icmp .gt 7, 3) := by decide +kernel
theorem dJ9_min_7cf53_5 : decode cJ9_min_7cf53 5 = .ok (.iload_n 0, 1) := by decide +kernel
theorem dJ9_min_7cf53_6 : decode cJ9_min_7cf53 6 = .ok (.goto 4, 3) := by decide +kernel
theorem dJ9_min_7cf53_9 : decode cJ9_min_7cf53 9 = .ok (.iload_n 1, 1) := by decide +kernel
theorem dJ9_min_7cf53_10 : decode cJ9_min_7cf53 10 = .ok (.ireturn, 1) := by decide +kernel
theorem dL_law_0 : decode cL_law 0 = .ok (.new 7, 3) := by decide +kernel
theorem dL_law_3 : decode cL_law 3 = .ok (.dup, 1) := by decide +kernel
theorem dL_law_4 : decode cL_law 4 = .ok (.invokespecial 9, 3) := by decide +kernel
theorem dL_law_7 : decode cL_law 7 = .ok (.astore_n 1, 1) := by decide +kernel
theorem dL_law_8 : decode cL_law 8 = .ok (.new 10, 3) := by decide +kernel
theorem dL_law_11 : decode cL_law 11 = .ok (.dup, 1) := by decide +kernel
theorem dL_law_12 : decode cL_law 12 = .ok (.invokespecial 12, 3) := by decide +kernel
theorem dL_law_15 : decode cL_law 15 = .ok (.astore_n 2, 1) := by decide +kernel
theorem dL_law_16 : decode cL_law 16 = .ok (.iconst 0, 1) := by decide +kernel
theorem dL_law_17 : decode cL_law 17 = .ok (.istore_n 3, 1) := by decide +kernel
theorem dL_law_18 : decode cL_law 18 = .ok (.iload_n 3, 1) := by decide +kernel
theorem dL_law_19 : decode cL_law 19 = .ok (.aload_n 0, 1) := by decide +kernel
theorem dL_law_20 : decode cL_law 20 = .ok (.arraylength, 1) := by decide +kernel
theorem dL_law_21 : decode cL_law 21 = .ok (.iconst 4, 1) := by decide +kernel
theorem dL_law_22 : decode cL_law 22 = .ok (.isub, 1) := by decide +kernel
theorem dL_law_23 : decode cL_law 23 = .ok (.if_icmp .gt 786, 3) := by decide +kernel
theorem dL_law_26 : decode cL_law 26 = .ok (.aload_n 0, 1) := by decide +kernel
theorem dL_law_27 : decode cL_law 27 = .ok (.iload_n 3, 1) := by decide +kernel
theorem dL_law_28 : decode cL_law 28 = .ok (.iaload, 1) := by decide +kernel
theorem dL_law_29 : decode cL_law 29 = .ok (.bipush 31, 2) := by decide +kernel
theorem dL_law_31 : decode cL_law 31 = .ok (.iand, 1) := by decide +kernel
theorem dL_law_32 : decode cL_law 32 = .ok (.tableswitch 771 0 24 #[116, 149, 182, 205, 238, 281, 314, 337, 360, 393, 426, 459, 482, 505, 528, 551, 584, 607, 620, 673, 686, 699, 712, 725, 748], 116) := by decide +kernel
theorem dL_law_148 : decode cL_law 148 = .ok (.aload_n 1, 1) := by decide +kernel
theorem dL_law_149 : decode cL_law 149 = .ok (.aload_n 0, 1) := by decide +kernel
theorem dL_law_150 : decode cL_law 150 = .ok (.iload_n 3, 1) := by decide +kernel
theorem dL_law_151 : decode cL_law 151 = .ok (.iconst 1, 1) := by decide +kernel
theorem dL_law_152 : decode cL_law 152 = .ok (.iadd, 1) := by decide +kernel
theorem dL_law_153 : decode cL_law 153 = .ok (.iaload, 1) := by decide +kernel
theorem dL_law_154 : decode cL_law 154 = .ok (.aload_n 0, 1) := by decide +kernel
theorem dL_law_155 : decode cL_law 155 = .ok (.iload_n 3, 1) := by decide +kernel
theorem dL_law_156 : decode cL_law 156 = .ok (.iconst 2, 1) := by decide +kernel
theorem dL_law_157 : decode cL_law 157 = .ok (.iadd, 1) := by decide +kernel
theorem dL_law_158 : decode cL_law 158 = .ok (.iaload, 1) := by decide +kernel
theorem dL_law_159 : decode cL_law 159 = .ok (.invokevirtual 13, 3) := by decide +kernel
theorem dL_law_162 : decode cL_law 162 = .ok (.aload_n 2, 1) := by decide +kernel
theorem dL_law_163 : decode cL_law 163 = .ok (.aload_n 0, 1) := by decide +kernel
theorem dL_law_164 : decode cL_law 164 = .ok (.iload_n 3, 1) := by decide +kernel
theorem dL_law_165 : decode cL_law 165 = .ok (.iconst 1, 1) := by decide +kernel
theorem dL_law_166 : decode cL_law 166 = .ok (.iadd, 1) := by decide +kernel
theorem dL_law_167 : decode cL_law 167 = .ok (.iaload, 1) := by decide +kernel
theorem dL_law_168 : decode cL_law 168 = .ok (.aload_n 0, 1) := by decide +kernel
theorem dL_law_169 : decode cL_law 169 = .ok (.iload_n 3, 1) := by decide +kernel
theorem dL_law_170 : decode cL_law 170 = .ok (.iconst 2, 1) := by decide +kernel
theorem dL_law_171 : decode cL_law 171 = .ok (.iadd, 1) := by decide +kernel
theorem dL_law_172 : decode cL_law 172 = .ok (.iaload, 1) := by decide +kernel
theorem dL_law_173 : decode cL_law 173 = .ok (.invokevirtual 17, 3) := by decide +kernel
theorem dL_law_176 : decode cL_law 176 = .ok (.if_icmp .eq 627, 3) := by decide +kernel
theorem dL_law_179 : decode cL_law 179 = .ok (.iconst 0, 1) := by decide +kernel
theorem dL_law_180 : decode cL_law 180 = .ok (.ireturn, 1) := by decide +kernel
theorem dL_law_181 : decode cL_law 181 = .ok (.aload_n 1, 1) := by decide +kernel
theorem dL_law_182 : decode cL_law 182 = .ok (.aload_n 0, 1) := by decide +kernel
theorem dL_law_183 : decode cL_law 183 = .ok (.iload_n 3, 1) := by decide +kernel
theorem dL_law_184 : decode cL_law 184 = .ok (.iconst 1, 1) := by decide +kernel
theorem dL_law_185 : decode cL_law 185 = .ok (.iadd, 1) := by decide +kernel
theorem dL_law_186 : decode cL_law 186 = .ok (.iaload, 1) := by decide +kernel
theorem dL_law_187 : decode cL_law 187 = .ok (.aload_n 0, 1) := by decide +kernel
theorem dL_law_188 : decode cL_law 188 = .ok (.iload_n 3, 1) := by decide +kernel
theorem dL_law_189 : decode cL_law 189 = .ok (.iconst 2, 1) := by decide +kernel
theorem dL_law_190 : decode cL_law 190 = .ok (.iadd, 1) := by decide +kernel
theorem dL_law_191 : decode cL_law 191 = .ok (.iaload, 1) := by decide +kernel
theorem dL_law_192 : decode cL_law 192 = .ok (.invokevirtual 18, 3) := by decide +kernel
theorem dL_law_195 : decode cL_law 195 = .ok (.aload_n 2, 1) := by decide +kernel
theorem dL_law_196 : decode cL_law 196 = .ok (.aload_n 0, 1) := by decide +kernel
theorem dL_law_197 : decode cL_law 197 = .ok (.iload_n 3, 1) := by decide +kernel
theorem dL_law_198 : decode cL_law 198 = .ok (.iconst 1, 1) := by decide +kernel
theorem dL_law_199 : decode cL_law 199 = .ok (.iadd, 1) := by decide +kernel
theorem dL_law_200 : decode cL_law 200 = .ok (.iaload, 1) := by decide +kernel
theorem dL_law_201 : decode cL_law 201 = .ok (.aload_n 0, 1) := by decide +kernel
theorem dL_law_202 : decode cL_law 202 = .ok (.iload_n 3, 1) := by decide +kernel
theorem dL_law_203 : decode cL_law 203 = .ok (.iconst 2, 1) := by decide +kernel
theorem dL_law_204 : decode cL_law 204 = .ok (.iadd, 1) := by decide +kernel
theorem dL_law_205 : decode cL_law 205 = .ok (.iaload, 1) := by decide +kernel
theorem dL_law_206 : decode cL_law 206 = .ok (.invokevirtual 21, 3) := by decide +kernel
theorem dL_law_209 : decode cL_law 209 = .ok (.if_icmp .eq 594, 3) := by decide +kernel
theorem dL_law_212 : decode cL_law 212 = .ok (.iconst 0, 1) := by decide +kernel
theorem dL_law_213 : decode cL_law 213 = .ok (.ireturn, 1) := by decide +kernel
theorem dL_law_214 : decode cL_law 214 = .ok (.aload_n 1, 1) := by decide +kernel
theorem dL_law_215 : decode cL_law 215 = .ok (.aload_n 0, 1) := by decide +kernel
theorem dL_law_216 : decode cL_law 216 = .ok (.iload_n 3, 1) := by decide +kernel
theorem dL_law_217 : decode cL_law 217 = .ok (.iconst 1, 1) := by decide +kernel
theorem dL_law_218 : decode cL_law 218 = .ok (.iadd, 1) := by decide +kernel
theorem dL_law_219 : decode cL_law 219 = .ok (.iaload, 1) := by decide +kernel
theorem dL_law_220 : decode cL_law 220 = .ok (.invokevirtual 22, 3) := by decide +kernel
theorem dL_law_223 : decode cL_law 223 = .ok (.aload_n 2, 1) := by decide +kernel
theorem dL_law_224 : decode cL_law 224 = .ok (.aload_n 0, 1) := by decide +kernel
theorem dL_law_225 : decode cL_law 225 = .ok (.iload_n 3, 1) := by decide +kernel
theorem dL_law_226 : decode cL_law 226 = .ok (.iconst 1, 1) := by decide +kernel
theorem dL_law_227 : decode cL_law 227 = .ok (.iadd, 1) := by decide +kernel
theorem dL_law_228 : decode cL_law 228 = .ok (.iaload, 1) := by decide +kernel
theorem dL_law_229 : decode cL_law 229 = .ok (.invokevirtual 26, 3) := by decide +kernel
theorem dL_law_232 : decode cL_law 232 = .ok (.if_icmp .eq 571, 3) := by decide +kernel
theorem dL_law_235 : decode cL_law 235 = .ok (.iconst 0, 1) := by decide +kernel
theorem dL_law_236 : decode cL_law 236 = .ok (.ireturn, 1) := by decide +kernel
theorem dL_law_237 : decode cL_law 237 = .ok (.aload_n 1, 1) := by decide +kernel
theorem dL_law_238 : decode cL_law 238 = .ok (.aload_n 0, 1) := by decide +kernel
theorem dL_law_239 : decode cL_law 239 = .ok (.iload_n 3, 1) := by decide +kernel
theorem dL_law_240 : decode cL_law 240 = .ok (.iconst 1, 1) := by decide +kernel
theorem dL_law_241 : decode cL_law 241 = .ok (.iadd, 1) := by decide +kernel
theorem dL_law_242 : decode cL_law 242 = .ok (.iaload, 1) := by decide +kernel
theorem dL_law_243 : decode cL_law 243 = .ok (.aload_n 0, 1) := by decide +kernel
theorem dL_law_244 : decode cL_law 244 = .ok (.iload_n 3, 1) := by decide +kernel
theorem dL_law_245 : decode cL_law 245 = .ok (.iconst 2, 1) := by decide +kernel
theorem dL_law_246 : decode cL_law 246 = .ok (.iadd, 1) := by decide +kernel
theorem dL_law_247 : decode cL_law 247 = .ok (.iaload, 1) := by decide +kernel
theorem dL_law_248 : decode cL_law 248 = .ok (.invokevirtual 27, 3) := by decide +kernel
theorem dL_law_251 : decode cL_law 251 = .ok (.aload_n 2, 1) := by decide +kernel
theorem dL_law_252 : decode cL_law 252 = .ok (.aload_n 0, 1) := by decide +kernel
theorem dL_law_253 : decode cL_law 253 = .ok (.iload_n 3, 1) := by decide +kernel
theorem dL_law_254 : decode cL_law 254 = .ok (.iconst 1, 1) := by decide +kernel
theorem dL_law_255 : decode cL_law 255 = .ok (.iadd, 1) := by decide +kernel
theorem dL_law_256 : decode cL_law 256 = .ok (.iaload, 1) := by decide +kernel
theorem dL_law_257 : decode cL_law 257 = .ok (.aload_n 0, 1) := by decide +kernel
theorem dL_law_258 : decode cL_law 258 = .ok (.iload_n 3, 1) := by decide +kernel
theorem dL_law_259 : decode cL_law 259 = .ok (.iconst 2, 1) := by decide +kernel
theorem dL_law_260 : decode cL_law 260 = .ok (.iadd, 1) := by decide +kernel
theorem dL_law_261 : decode cL_law 261 = .ok (.iaload, 1) := by decide +kernel
theorem dL_law_262 : decode cL_law 262 = .ok (.invokevirtual 30, 3) := by decide +kernel
theorem dL_law_265 : decode cL_law 265 = .ok (.if_icmp .eq 538, 3) := by decide +kernel
theorem dL_law_268 : decode cL_law 268 = .ok (.iconst 0, 1) := by decide +kernel
theorem dL_law_269 : decode cL_law 269 = .ok (.ireturn, 1) := by decide +kernel
theorem dL_law_270 : decode cL_law 270 = .ok (.aload_n 1, 1) := by decide +kernel
theorem dL_law_271 : decode cL_law 271 = .ok (.aload_n 0, 1) := by decide +kernel
theorem dL_law_272 : decode cL_law 272 = .ok (.iload_n 3, 1) := by decide +kernel
theorem dL_law_273 : decode cL_law 273 = .ok (.iconst 1, 1) := by decide +kernel
theorem dL_law_274 : decode cL_law 274 = .ok (.iadd, 1) := by decide +kernel
theorem dL_law_275 : decode cL_law 275 = .ok (.iaload, 1) := by decide +kernel
theorem dL_law_276 : decode cL_law 276 = .ok (.aload_n 0, 1) := by decide +kernel
theorem dL_law_277 : decode cL_law 277 = .ok (.iload_n 3, 1) := by decide +kernel
theorem dL_law_278 : decode cL_law 278 = .ok (.iconst 2, 1) := by decide +kernel
theorem dL_law_279 : decode cL_law 279 = .ok (.iadd, 1) := by decide +kernel
theorem dL_law_280 : decode cL_law 280 = .ok (.iaload, 1) := by decide +kernel
theorem dL_law_281 : decode cL_law 281 = .ok (.aload_n 0, 1) := by decide +kernel
theorem dL_law_282 : decode cL_law 282 = .ok (.iload_n 3, 1) := by decide +kernel
theorem dL_law_283 : decode cL_law 283 = .ok (.iconst 3, 1) := by decide +kernel
theorem dL_law_284 : decode cL_law 284 = .ok (.iadd, 1) := by decide +kernel
theorem dL_law_285 : decode cL_law 285 = .ok (.iaload, 1) := by decide +kernel
theorem dL_law_286 : decode cL_law 286 = .ok (.invokevirtual 31, 3) := by decide +kernel
theorem dL_law_289 : decode cL_law 289 = .ok (.aload_n 2, 1) := by decide +kernel
theorem dL_law_290 : decode cL_law 290 = .ok (.aload_n 0, 1) := by decide +kernel
theorem dL_law_291 : decode cL_law 291 = .ok (.iload_n 3, 1) := by decide +kernel
theorem dL_law_292 : decode cL_law 292 = .ok (.iconst 1, 1) := by decide +kernel
theorem dL_law_293 : decode cL_law 293 = .ok (.iadd, 1) := by decide +kernel
theorem dL_law_294 : decode cL_law 294 = .ok (.iaload, 1) := by decide +kernel
theorem dL_law_295 : decode cL_law 295 = .ok (.aload_n 0, 1) := by decide +kernel
theorem dL_law_296 : decode cL_law 296 = .ok (.iload_n 3, 1) := by decide +kernel
theorem dL_law_297 : decode cL_law 297 = .ok (.iconst 2, 1) := by decide +kernel
theorem dL_law_298 : decode cL_law 298 = .ok (.iadd, 1) := by decide +kernel
theorem dL_law_299 : decode cL_law 299 = .ok (.iaload, 1) := by decide +kernel
theorem dL_law_300 : decode cL_law 300 = .ok (.aload_n 0, 1) := by decide +kernel
theorem dL_law_301 : decode cL_law 301 = .ok (.iload_n 3, 1) := by decide +kernel
theorem dL_law_302 : decode cL_law 302 = .ok (.iconst 3, 1) := by decide +kernel
theorem dL_law_303 : decode cL_law 303 = .ok (.iadd, 1) := by decide +kernel
theorem dL_law_304 : decode cL_law 304 = .ok (.iaload, 1) := by decide +kernel
theorem dL_law_305 : decode cL_law 305 = .ok (.invokevirtual 35, 3) := by decide +kernel
theorem dL_law_308 : decode cL_law 308 = .ok (.if_icmp .eq 495, 3) := by decide +kernel
theorem dL_law_311 : decode cL_law 311 = .ok (.iconst 0, 1) := by decide +kernel
theorem dL_law_312 : decode cL_law 312 = .ok (.ireturn, 1) := by decide +kernel
theorem dL_law_313 : decode cL_law 313 = .ok (.aload_n 1, 1) := by decide +kernel
theorem dL_law_314 : decode cL_law 314 = .ok (.aload_n 0, 1) := by decide +kernel
theorem dL_law_315 : decode cL_law 315 = .ok (.iload_n 3, 1) := by decide +kernel
theorem dL_law_316 : decode cL_law 316 = .ok (.iconst 1, 1) := by decide +kernel
theorem dL_law_317 : decode cL_law 317 = .ok (.iadd, 1) := by decide +kernel
theorem dL_law_318 : decode cL_law 318 = .ok (.iaload, 1) := by decide +kernel
theorem dL_law_319 : decode cL_law 319 = .ok (.aload_n 0, 1) := by decide +kernel
theorem dL_law_320 : decode cL_law 320 = .ok (.iload_n 3, 1) := by decide +kernel
theorem dL_law_321 : decode cL_law 321 = .ok (.iconst 2, 1) := by decide +kernel
theorem dL_law_322 : decode cL_law 322 = .ok (.iadd, 1) := by decide +kernel
theorem dL_law_323 : decode cL_law 323 = .ok (.iaload, 1) := by decide +kernel
theorem dL_law_324 : decode cL_law 324 = .ok (.invokevirtual 36, 3) := by decide +kernel
theorem dL_law_327 : decode cL_law 327 = .ok (.aload_n 2, 1) := by decide +kernel
theorem dL_law_328 : decode cL_law 328 = .ok (.aload_n 0, 1) := by decide +kernel
theorem dL_law_329 : decode cL_law 329 = .ok (.iload_n 3, 1) := by decide +kernel
theorem dL_law_330 : decode cL_law 330 = .ok (.iconst 1, 1) := by decide +kernel
theorem dL_law_331 : decode cL_law 331 = .ok (.iadd, 1) := by decide +kernel
theorem dL_law_332 : decode cL_law 332 = .ok (.iaload, 1) := by decide +kernel
theorem dL_law_333 : decode cL_law 333 = .ok (.aload_n 0, 1) := by decide +kernel
theorem dL_law_334 : decode cL_law 334 = .ok (.iload_n 3, 1) := by decide +kernel
theorem dL_law_335 : decode cL_law 335 = .ok (.iconst 2, 1) := by decide +kernel
theorem dL_law_336 : decode cL_law 336 = .ok (.iadd, 1) := by decide +kernel
theorem dL_law_337 : decode cL_law 337 = .ok (.iaload, 1) := by decide +kernel
theorem dL_law_338 : decode cL_law 338 = .ok (.invokevirtual 39, 3) := by decide +kernel
theorem dL_law_341 : decode cL_law 341 = .ok (.if_icmp .eq 462, 3) := by decide +kernel
theorem dL_law_344 : decode cL_law 344 = .ok (.iconst 0, 1) := by decide +kernel
theorem dL_law_345 : decode cL_law 345 = .ok (.ireturn, 1) := by decide +kernel
theorem dL_law_346 : decode cL_law 346 = .ok (.aload_n 1, 1) := by decide +kernel
theorem dL_law_347 : decode cL_law 347 = .ok (.aload_n 0, 1) := by decide +kernel
theorem dL_law_348 : decode cL_law 348 = .ok (.iload_n 3, 1) := by decide +kernel
theorem dL_law_349 : decode cL_law 349 = .ok (.iconst 1, 1) := by decide +kernel
theorem dL_law_350 : decode cL_law 350 = .ok (.iadd, 1) := by decide +kernel
theorem dL_law_351 : decode cL_law 351 = .ok (.iaload, 1) := by decide +kernel
theorem dL_law_352 : decode cL_law 352 = .ok (.invokevirtual 40, 3) := by decide +kernel
theorem dL_law_355 : decode cL_law 355 = .ok (.aload_n 2, 1) := by decide +kernel
theorem dL_law_356 : decode cL_law 356 = .ok (.aload_n 0, 1) := by decide +kernel
theorem dL_law_357 : decode cL_law 357 = .ok (.iload_n 3, 1) := by decide +kernel
theorem dL_law_358 : decode cL_law 358 = .ok (.iconst 1, 1) := by decide +kernel
theorem dL_law_359 : decode cL_law 359 = .ok (.iadd, 1) := by decide +kernel
theorem dL_law_360 : decode cL_law 360 = .ok (.iaload, 1) := by decide +kernel
theorem dL_law_361 : decode cL_law 361 = .ok (.invokevirtual 43, 3) := by decide +kernel
theorem dL_law_364 : decode cL_law 364 = .ok (.if_icmp .eq 439, 3) := by decide +kernel
theorem dL_law_367 : decode cL_law 367 = .ok (.iconst 0, 1) := by decide +kernel
theorem dL_law_368 : decode cL_law 368 = .ok (.ireturn, 1) := by decide +kernel
theorem dL_law_369 : decode cL_law 369 = .ok (.aload_n 1, 1) := by decide +kernel
theorem dL_law_370 : decode cL_law 370 = .ok (.aload_n 0, 1) := by decide +kernel
theorem dL_law_371 : decode cL_law 371 = .ok (.iload_n 3, 1) := by decide +kernel
theorem dL_law_372 : decode cL_law 372 = .ok (.iconst 1, 1) := by decide +kernel
theorem dL_law_373 : decode cL_law 373 = .ok (.iadd, 1) := by decide +kernel
theorem dL_law_374 : decode cL_law 374 = .ok (.iaload, 1) := by decide +kernel
theorem dL_law_375 : decode cL_law 375 = .ok (.invokevirtual 44, 3) := by decide +kernel
theorem dL_law_378 : decode cL_law 378 = .ok (.aload_n 2, 1) := by decide +kernel
theorem dL_law_379 : decode cL_law 379 = .ok (.aload_n 0, 1) := by decide +kernel
theorem dL_law_380 : decode cL_law 380 = .ok (.iload_n 3, 1) := by decide +kernel
theorem dL_law_381 : decode cL_law 381 = .ok (.iconst 1, 1) := by decide +kernel
theorem dL_law_382 : decode cL_law 382 = .ok (.iadd, 1) := by decide +kernel
theorem dL_law_383 : decode cL_law 383 = .ok (.iaload, 1) := by decide +kernel
theorem dL_law_384 : decode cL_law 384 = .ok (.invokevirtual 47, 3) := by decide +kernel
theorem dL_law_387 : decode cL_law 387 = .ok (.if_icmp .eq 416, 3) := by decide +kernel
theorem dL_law_390 : decode cL_law 390 = .ok (.iconst 0, 1) := by decide +kernel
theorem dL_law_391 : decode cL_law 391 = .ok (.ireturn, 1) := by decide +kernel
theorem dL_law_392 : decode cL_law 392 = .ok (.aload_n 1, 1) := by decide +kernel
theorem dL_law_393 : decode cL_law 393 = .ok (.aload_n 0, 1) := by decide +kernel
theorem dL_law_394 : decode cL_law 394 = .ok (.iload_n 3, 1) := by decide +kernel
theorem dL_law_395 : decode cL_law 395 = .ok (.iconst 1, 1) := by decide +kernel
theorem dL_law_396 : decode cL_law 396 = .ok (.iadd, 1) := by decide +kernel
theorem dL_law_397 : decode cL_law 397 = .ok (.iaload, 1) := by decide +kernel
theorem dL_law_398 : decode cL_law 398 = .ok (.aload_n 0, 1) := by decide +kernel
theorem dL_law_399 : decode cL_law 399 = .ok (.iload_n 3, 1) := by decide +kernel
theorem dL_law_400 : decode cL_law 400 = .ok (.iconst 2, 1) := by decide +kernel
theorem dL_law_401 : decode cL_law 401 = .ok (.iadd, 1) := by decide +kernel
theorem dL_law_402 : decode cL_law 402 = .ok (.iaload, 1) := by decide +kernel
theorem dL_law_403 : decode cL_law 403 = .ok (.invokevirtual 48, 3) := by decide +kernel
theorem dL_law_406 : decode cL_law 406 = .ok (.aload_n 2, 1) := by decide +kernel
theorem dL_law_407 : decode cL_law 407 = .ok (.aload_n 0, 1) := by decide +kernel
theorem dL_law_408 : decode cL_law 408 = .ok (.iload_n 3, 1) := by decide +kernel
theorem dL_law_409 : decode cL_law 409 = .ok (.iconst 1, 1) := by decide +kernel
theorem dL_law_410 : decode cL_law 410 = .ok (.iadd, 1) := by decide +kernel
theorem dL_law_411 : decode cL_law 411 = .ok (.iaload, 1) := by decide +kernel
theorem dL_law_412 : decode cL_law 412 = .ok (.aload_n 0, 1) := by decide +kernel
theorem dL_law_413 : decode cL_law 413 = .ok (.iload_n 3, 1) := by decide +kernel
theorem dL_law_414 : decode cL_law 414 = .ok (.iconst 2, 1) := by decide +kernel
theorem dL_law_415 : decode cL_law 415 = .ok (.iadd, 1) := by decide +kernel
theorem dL_law_416 : decode cL_law 416 = .ok (.iaload, 1) := by decide +kernel
theorem dL_law_417 : decode cL_law 417 = .ok (.invokevirtual 51, 3) := by decide +kernel
theorem dL_law_420 : decode cL_law 420 = .ok (.if_icmp .eq 383, 3) := by decide +kernel
theorem dL_law_423 : decode cL_law 423 = .ok (.iconst 0, 1) := by decide +kernel
theorem dL_law_424 : decode cL_law 424 = .ok (.ireturn, 1) := by decide +kernel
theorem dL_law_425 : decode cL_law 425 = .ok (.aload_n 1, 1) := by decide +kernel
theorem dL_law_426 : decode cL_law 426 = .ok (.aload_n 0, 1) := by decide +kernel
theorem dL_law_427 : decode cL_law 427 = .ok (.iload_n 3, 1) := by decide +kernel
theorem dL_law_428 : decode cL_law 428 = .ok (.iconst 1, 1) := by decide +kernel
theorem dL_law_429 : decode cL_law 429 = .ok (.iadd, 1) := by decide +kernel
theorem dL_law_430 : decode cL_law 430 = .ok (.iaload, 1) := by decide +kernel
theorem dL_law_431 : decode cL_law 431 = .ok (.aload_n 0, 1) := by decide +kernel
theorem dL_law_432 : decode cL_law 432 = .ok (.iload_n 3, 1) := by decide +kernel
theorem dL_law_433 : decode cL_law 433 = .ok (.iconst 2, 1) := by decide +kernel
theorem dL_law_434 : decode cL_law 434 = .ok (.iadd, 1) := by decide +kernel
theorem dL_law_435 : decode cL_law 435 = .ok (.iaload, 1) := by decide +kernel
theorem dL_law_436 : decode cL_law 436 = .ok (.invokevirtual 52, 3) := by decide +kernel
theorem dL_law_439 : decode cL_law 439 = .ok (.aload_n 2, 1) := by decide +kernel
theorem dL_law_440 : decode cL_law 440 = .ok (.aload_n 0, 1) := by decide +kernel
theorem dL_law_441 : decode cL_law 441 = .ok (.iload_n 3, 1) := by decide +kernel
theorem dL_law_442 : decode cL_law 442 = .ok (.iconst 1, 1) := by decide +kernel
theorem dL_law_443 : decode cL_law 443 = .ok (.iadd, 1) := by decide +kernel
theorem dL_law_444 : decode cL_law 444 = .ok (.iaload, 1) := by decide +kernel
theorem dL_law_445 : decode cL_law 445 = .ok (.aload_n 0, 1) := by decide +kernel
theorem dL_law_446 : decode cL_law 446 = .ok (.iload_n 3, 1) := by decide +kernel
theorem dL_law_447 : decode cL_law 447 = .ok (.iconst 2, 1) := by decide +kernel
theorem dL_law_448 : decode cL_law 448 = .ok (.iadd, 1) := by decide +kernel
theorem dL_law_449 : decode cL_law 449 = .ok (.iaload, 1) := by decide +kernel
theorem dL_law_450 : decode cL_law 450 = .ok (.invokevirtual 55, 3) := by decide +kernel
theorem dL_law_453 : decode cL_law 453 = .ok (.if_icmp .eq 350, 3) := by decide +kernel
theorem dL_law_456 : decode cL_law 456 = .ok (.iconst 0, 1) := by decide +kernel
theorem dL_law_457 : decode cL_law 457 = .ok (.ireturn, 1) := by decide +kernel
theorem dL_law_458 : decode cL_law 458 = .ok (.aload_n 1, 1) := by decide +kernel
theorem dL_law_459 : decode cL_law 459 = .ok (.aload_n 0, 1) := by decide +kernel
theorem dL_law_460 : decode cL_law 460 = .ok (.iload_n 3, 1) := by decide +kernel
theorem dL_law_461 : decode cL_law 461 = .ok (.iconst 1, 1) := by decide +kernel
theorem dL_law_462 : decode cL_law 462 = .ok (.iadd, 1) := by decide +kernel
theorem dL_law_463 : decode cL_law 463 = .ok (.iaload, 1) := by decide +kernel
theorem dL_law_464 : decode cL_law 464 = .ok (.aload_n 0, 1) := by decide +kernel
theorem dL_law_465 : decode cL_law 465 = .ok (.iload_n 3, 1) := by decide +kernel
theorem dL_law_466 : decode cL_law 466 = .ok (.iconst 2, 1) := by decide +kernel
theorem dL_law_467 : decode cL_law 467 = .ok (.iadd, 1) := by decide +kernel
theorem dL_law_468 : decode cL_law 468 = .ok (.iaload, 1) := by decide +kernel
theorem dL_law_469 : decode cL_law 469 = .ok (.invokevirtual 56, 3) := by decide +kernel
theorem dL_law_472 : decode cL_law 472 = .ok (.aload_n 2, 1) := by decide +kernel
theorem dL_law_473 : decode cL_law 473 = .ok (.aload_n 0, 1) := by decide +kernel
theorem dL_law_474 : decode cL_law 474 = .ok (.iload_n 3, 1) := by decide +kernel
theorem dL_law_475 : decode cL_law 475 = .ok (.iconst 1, 1) := by decide +kernel
theorem dL_law_476 : decode cL_law 476 = .ok (.iadd, 1) := by decide +kernel
theorem dL_law_477 : decode cL_law 477 = .ok (.iaload, 1) := by decide +kernel
theorem dL_law_478 : decode cL_law 478 = .ok (.aload_n 0, 1) := by decide +kernel
theorem dL_law_479 : decode cL_law 479 = .ok (.iload_n 3, 1) := by decide +kernel
theorem dL_law_480 : decode cL_law 480 = .ok (.iconst 2, 1) := by decide +kernel
theorem dL_law_481 : decode cL_law 481 = .ok (.iadd, 1) := by decide +kernel
theorem dL_law_482 : decode cL_law 482 = .ok (.iaload, 1) := by decide +kernel
theorem dL_law_483 : decode cL_law 483 = .ok (.invokevirtual 59, 3) := by decide +kernel
theorem dL_law_486 : decode cL_law 486 = .ok (.if_icmp .eq 317, 3) := by decide +kernel
theorem dL_law_489 : decode cL_law 489 = .ok (.iconst 0, 1) := by decide +kernel
theorem dL_law_490 : decode cL_law 490 = .ok (.ireturn, 1) := by decide +kernel
theorem dL_law_491 : decode cL_law 491 = .ok (.aload_n 1, 1) := by decide +kernel
theorem dL_law_492 : decode cL_law 492 = .ok (.aload_n 0, 1) := by decide +kernel
theorem dL_law_493 : decode cL_law 493 = .ok (.iload_n 3, 1) := by decide +kernel
theorem dL_law_494 : decode cL_law 494 = .ok (.iconst 1, 1) := by decide +kernel
theorem dL_law_495 : decode cL_law 495 = .ok (.iadd, 1) := by decide +kernel
theorem dL_law_496 : decode cL_law 496 = .ok (.iaload, 1) := by decide +kernel
theorem dL_law_497 : decode cL_law 497 = .ok (.invokevirtual 60, 3) := by decide +kernel
theorem dL_law_500 : decode cL_law 500 = .ok (.aload_n 2, 1) := by decide +kernel
theorem dL_law_501 : decode cL_law 501 = .ok (.aload_n 0, 1) := by decide +kernel
theorem dL_law_502 : decode cL_law 502 = .ok (.iload_n 3, 1) := by decide +kernel
theorem dL_law_503 : decode cL_law 503 = .ok (.iconst 1, 1) := by decide +kernel
theorem dL_law_504 : decode cL_law 504 = .ok (.iadd, 1) := by decide +kernel
theorem dL_law_505 : decode cL_law 505 = .ok (.iaload, 1) := by decide +kernel
theorem dL_law_506 : decode cL_law 506 = .ok (.invokevirtual 63, 3) := by decide +kernel
theorem dL_law_509 : decode cL_law 509 = .ok (.if_icmp .eq 294, 3) := by decide +kernel
theorem dL_law_512 : decode cL_law 512 = .ok (.iconst 0, 1) := by decide +kernel
theorem dL_law_513 : decode cL_law 513 = .ok (.ireturn, 1) := by decide +kernel
theorem dL_law_514 : decode cL_law 514 = .ok (.aload_n 1, 1) := by decide +kernel
theorem dL_law_515 : decode cL_law 515 = .ok (.aload_n 0, 1) := by decide +kernel
theorem dL_law_516 : decode cL_law 516 = .ok (.iload_n 3, 1) := by decide +kernel
theorem dL_law_517 : decode cL_law 517 = .ok (.iconst 1, 1) := by decide +kernel
theorem dL_law_518 : decode cL_law 518 = .ok (.iadd, 1) := by decide +kernel
theorem dL_law_519 : decode cL_law 519 = .ok (.iaload, 1) := by decide +kernel
theorem dL_law_520 : decode cL_law 520 = .ok (.invokevirtual 64, 3) := by decide +kernel
theorem dL_law_523 : decode cL_law 523 = .ok (.aload_n 2, 1) := by decide +kernel
theorem dL_law_524 : decode cL_law 524 = .ok (.aload_n 0, 1) := by decide +kernel
theorem dL_law_525 : decode cL_law 525 = .ok (.iload_n 3, 1) := by decide +kernel
theorem dL_law_526 : decode cL_law 526 = .ok (.iconst 1, 1) := by decide +kernel
theorem dL_law_527 : decode cL_law 527 = .ok (.iadd, 1) := by decide +kernel
theorem dL_law_528 : decode cL_law 528 = .ok (.iaload, 1) := by decide +kernel
theorem dL_law_529 : decode cL_law 529 = .ok (.invokevirtual 67, 3) := by decide +kernel
theorem dL_law_532 : decode cL_law 532 = .ok (.if_icmp .eq 271, 3) := by decide +kernel
theorem dL_law_535 : decode cL_law 535 = .ok (.iconst 0, 1) := by decide +kernel
theorem dL_law_536 : decode cL_law 536 = .ok (.ireturn, 1) := by decide +kernel
theorem dL_law_537 : decode cL_law 537 = .ok (.aload_n 1, 1) := by decide +kernel
theorem dL_law_538 : decode cL_law 538 = .ok (.aload_n 0, 1) := by decide +kernel
theorem dL_law_539 : decode cL_law 539 = .ok (.iload_n 3, 1) := by decide +kernel
theorem dL_law_540 : decode cL_law 540 = .ok (.iconst 1, 1) := by decide +kernel
theorem dL_law_541 : decode cL_law 541 = .ok (.iadd, 1) := by decide +kernel
theorem dL_law_542 : decode cL_law 542 = .ok (.iaload, 1) := by decide +kernel
theorem dL_law_543 : decode cL_law 543 = .ok (.invokevirtual 68, 3) := by decide +kernel
theorem dL_law_546 : decode cL_law 546 = .ok (.aload_n 2, 1) := by decide +kernel
theorem dL_law_547 : decode cL_law 547 = .ok (.aload_n 0, 1) := by decide +kernel
theorem dL_law_548 : decode cL_law 548 = .ok (.iload_n 3, 1) := by decide +kernel
theorem dL_law_549 : decode cL_law 549 = .ok (.iconst 1, 1) := by decide +kernel
theorem dL_law_550 : decode cL_law 550 = .ok (.iadd, 1) := by decide +kernel
theorem dL_law_551 : decode cL_law 551 = .ok (.iaload, 1) := by decide +kernel
theorem dL_law_552 : decode cL_law 552 = .ok (.invokevirtual 71, 3) := by decide +kernel
theorem dL_law_555 : decode cL_law 555 = .ok (.if_icmp .eq 248, 3) := by decide +kernel
theorem dL_law_558 : decode cL_law 558 = .ok (.iconst 0, 1) := by decide +kernel
theorem dL_law_559 : decode cL_law 559 = .ok (.ireturn, 1) := by decide +kernel
theorem dL_law_560 : decode cL_law 560 = .ok (.aload_n 1, 1) := by decide +kernel
theorem dL_law_561 : decode cL_law 561 = .ok (.aload_n 0, 1) := by decide +kernel
theorem dL_law_562 : decode cL_law 562 = .ok (.iload_n 3, 1) := by decide +kernel
theorem dL_law_563 : decode cL_law 563 = .ok (.iconst 1, 1) := by decide +kernel
theorem dL_law_564 : decode cL_law 564 = .ok (.iadd, 1) := by decide +kernel
theorem dL_law_565 : decode cL_law 565 = .ok (.iaload, 1) := by decide +kernel
theorem dL_law_566 : decode cL_law 566 = .ok (.invokevirtual 72, 3) := by decide +kernel
theorem dL_law_569 : decode cL_law 569 = .ok (.aload_n 2, 1) := by decide +kernel
theorem dL_law_570 : decode cL_law 570 = .ok (.aload_n 0, 1) := by decide +kernel
theorem dL_law_571 : decode cL_law 571 = .ok (.iload_n 3, 1) := by decide +kernel
theorem dL_law_572 : decode cL_law 572 = .ok (.iconst 1, 1) := by decide +kernel
theorem dL_law_573 : decode cL_law 573 = .ok (.iadd, 1) := by decide +kernel
theorem dL_law_574 : decode cL_law 574 = .ok (.iaload, 1) := by decide +kernel
theorem dL_law_575 : decode cL_law 575 = .ok (.invokevirtual 75, 3) := by decide +kernel
theorem dL_law_578 : decode cL_law 578 = .ok (.if_icmp .eq 225, 3) := by decide +kernel
theorem dL_law_581 : decode cL_law 581 = .ok (.iconst 0, 1) := by decide +kernel
theorem dL_law_582 : decode cL_law 582 = .ok (.ireturn, 1) := by decide +kernel
theorem dL_law_583 : decode cL_law 583 = .ok (.aload_n 1, 1) := by decide +kernel
theorem dL_law_584 : decode cL_law 584 = .ok (.aload_n 0, 1) := by decide +kernel
theorem dL_law_585 : decode cL_law 585 = .ok (.iload_n 3, 1) := by decide +kernel
theorem dL_law_586 : decode cL_law 586 = .ok (.iconst 1, 1) := by decide +kernel
theorem dL_law_587 : decode cL_law 587 = .ok (.iadd, 1) := by decide +kernel
theorem dL_law_588 : decode cL_law 588 = .ok (.iaload, 1) := by decide +kernel
theorem dL_law_589 : decode cL_law 589 = .ok (.aload_n 0, 1) := by decide +kernel
theorem dL_law_590 : decode cL_law 590 = .ok (.iload_n 3, 1) := by decide +kernel
theorem dL_law_591 : decode cL_law 591 = .ok (.iconst 2, 1) := by decide +kernel
theorem dL_law_592 : decode cL_law 592 = .ok (.iadd, 1) := by decide +kernel
theorem dL_law_593 : decode cL_law 593 = .ok (.iaload, 1) := by decide +kernel
theorem dL_law_594 : decode cL_law 594 = .ok (.invokevirtual 76, 3) := by decide +kernel
theorem dL_law_597 : decode cL_law 597 = .ok (.aload_n 2, 1) := by decide +kernel
theorem dL_law_598 : decode cL_law 598 = .ok (.aload_n 0, 1) := by decide +kernel
theorem dL_law_599 : decode cL_law 599 = .ok (.iload_n 3, 1) := by decide +kernel
theorem dL_law_600 : decode cL_law 600 = .ok (.iconst 1, 1) := by decide +kernel
theorem dL_law_601 : decode cL_law 601 = .ok (.iadd, 1) := by decide +kernel
theorem dL_law_602 : decode cL_law 602 = .ok (.iaload, 1) := by decide +kernel
theorem dL_law_603 : decode cL_law 603 = .ok (.aload_n 0, 1) := by decide +kernel
theorem dL_law_604 : decode cL_law 604 = .ok (.iload_n 3, 1) := by decide +kernel
theorem dL_law_605 : decode cL_law 605 = .ok (.iconst 2, 1) := by decide +kernel
theorem dL_law_606 : decode cL_law 606 = .ok (.iadd, 1) := by decide +kernel
theorem dL_law_607 : decode cL_law 607 = .ok (.iaload, 1) := by decide +kernel
theorem dL_law_608 : decode cL_law 608 = .ok (.invokevirtual 79, 3) := by decide +kernel
theorem dL_law_611 : decode cL_law 611 = .ok (.if_icmp .eq 192, 3) := by decide +kernel
theorem dL_law_614 : decode cL_law 614 = .ok (.iconst 0, 1) := by decide +kernel
theorem dL_law_615 : decode cL_law 615 = .ok (.ireturn, 1) := by decide +kernel
theorem dL_law_616 : decode cL_law 616 = .ok (.aload_n 1, 1) := by decide +kernel
theorem dL_law_617 : decode cL_law 617 = .ok (.aload_n 0, 1) := by decide +kernel
theorem dL_law_618 : decode cL_law 618 = .ok (.iload_n 3, 1) := by decide +kernel
theorem dL_law_619 : decode cL_law 619 = .ok (.iconst 1, 1) := by decide +kernel
theorem dL_law_620 : decode cL_law 620 = .ok (.iadd, 1) := by decide +kernel
theorem dL_law_621 : decode cL_law 621 = .ok (.iaload, 1) := by decide +kernel
theorem dL_law_622 : decode cL_law 622 = .ok (.invokevirtual 80, 3) := by decide +kernel
theorem dL_law_625 : decode cL_law 625 = .ok (.aload_n 2, 1) := by decide +kernel
theorem dL_law_626 : decode cL_law 626 = .ok (.aload_n 0, 1) := by decide +kernel
theorem dL_law_627 : decode cL_law 627 = .ok (.iload_n 3, 1) := by decide +kernel
theorem dL_law_628 : decode cL_law 628 = .ok (.iconst 1, 1) := by decide +kernel
theorem dL_law_629 : decode cL_law 629 = .ok (.iadd, 1) := by decide +kernel
theorem dL_law_630 : decode cL_law 630 = .ok (.iaload, 1) := by decide +kernel
theorem dL_law_631 : decode cL_law 631 = .ok (.invokevirtual 83, 3) := by decide +kernel
theorem dL_law_634 : decode cL_law 634 = .ok (.if_icmp .eq 169, 3) := by decide +kernel
theorem dL_law_637 : decode cL_law 637 = .ok (.iconst 0, 1) := by decide +kernel
theorem dL_law_638 : decode cL_law 638 = .ok (.ireturn, 1) := by decide +kernel
theorem dL_law_639 : decode cL_law 639 = .ok (.aload_n 1, 1) := by decide +kernel
theorem dL_law_640 : decode cL_law 640 = .ok (.invokevirtual 84, 3) := by decide +kernel
theorem dL_law_643 : decode cL_law 643 = .ok (.aload_n 2, 1) := by decide +kernel
theorem dL_law_644 : decode cL_law 644 = .ok (.invokevirtual 88, 3) := by decide +kernel
theorem dL_law_647 : decode cL_law 647 = .ok (.if_icmp .eq 156, 3) := by decide +kernel
theorem dL_law_650 : decode cL_law 650 = .ok (.iconst 0, 1) := by decide +kernel
theorem dL_law_651 : decode cL_law 651 = .ok (.ireturn, 1) := by decide +kernel
theorem dL_law_652 : decode cL_law 652 = .ok (.aload_n 1, 1) := by decide +kernel
theorem dL_law_653 : decode cL_law 653 = .ok (.aload_n 0, 1) := by decide +kernel
theorem dL_law_654 : decode cL_law 654 = .ok (.iload_n 3, 1) := by decide +kernel
theorem dL_law_655 : decode cL_law 655 = .ok (.iconst 1, 1) := by decide +kernel
theorem dL_law_656 : decode cL_law 656 = .ok (.iadd, 1) := by decide +kernel
theorem dL_law_657 : decode cL_law 657 = .ok (.iaload, 1) := by decide +kernel
theorem dL_law_658 : decode cL_law 658 = .ok (.i2l, 1) := by decide +kernel
theorem dL_law_659 : decode cL_law 659 = .ok (.bipush 32, 2) := by decide +kernel
theorem dL_law_661 : decode cL_law 661 = .ok (.lshl, 1) := by decide +kernel
theorem dL_law_662 : decode cL_law 662 = .ok (.aload_n 0, 1) := by decide +kernel
theorem dL_law_663 : decode cL_law 663 = .ok (.iload_n 3, 1) := by decide +kernel
theorem dL_law_664 : decode cL_law 664 = .ok (.iconst 2, 1) := by decide +kernel
theorem dL_law_665 : decode cL_law 665 = .ok (.iadd, 1) := by decide +kernel
theorem dL_law_666 : decode cL_law 666 = .ok (.iaload, 1) := by decide +kernel
theorem dL_law_667 : decode cL_law 667 = .ok (.i2l, 1) := by decide +kernel
theorem dL_law_668 : decode cL_law 668 = .ok (.ldc2_w 89, 3) := by decide +kernel
theorem dL_law_671 : decode cL_law 671 = .ok (.land, 1) := by decide +kernel
theorem dL_law_672 : decode cL_law 672 = .ok (.lor, 1) := by decide +kernel
theorem dL_law_673 : decode cL_law 673 = .ok (.invokevirtual 91, 3) := by decide +kernel
theorem dL_law_676 : decode cL_law 676 = .ok (.aload_n 2, 1) := by decide +kernel
theorem dL_law_677 : decode cL_law 677 = .ok (.aload_n 0, 1) := by decide +kernel
theorem dL_law_678 : decode cL_law 678 = .ok (.iload_n 3, 1) := by decide +kernel
theorem dL_law_679 : decode cL_law 679 = .ok (.iconst 1, 1) := by decide +kernel
theorem dL_law_680 : decode cL_law 680 = .ok (.iadd, 1) := by decide +kernel
theorem dL_law_681 : decode cL_law 681 = .ok (.iaload, 1) := by decide +kernel
theorem dL_law_682 : decode cL_law 682 = .ok (.i2l, 1) := by decide +kernel
theorem dL_law_683 : decode cL_law 683 = .ok (.bipush 32, 2) := by decide +kernel
theorem dL_law_685 : decode cL_law 685 = .ok (.lshl, 1) := by decide +kernel
theorem dL_law_686 : decode cL_law 686 = .ok (.aload_n 0, 1) := by decide +kernel
theorem dL_law_687 : decode cL_law 687 = .ok (.iload_n 3, 1) := by decide +kernel
theorem dL_law_688 : decode cL_law 688 = .ok (.iconst 2, 1) := by decide +kernel
theorem dL_law_689 : decode cL_law 689 = .ok (.iadd, 1) := by decide +kernel
theorem dL_law_690 : decode cL_law 690 = .ok (.iaload, 1) := by decide +kernel
theorem dL_law_691 : decode cL_law 691 = .ok (.i2l, 1) := by decide +kernel
theorem dL_law_692 : decode cL_law 692 = .ok (.ldc2_w 89, 3) := by decide +kernel
theorem dL_law_695 : decode cL_law 695 = .ok (.land, 1) := by decide +kernel
theorem dL_law_696 : decode cL_law 696 = .ok (.lor, 1) := by decide +kernel
theorem dL_law_697 : decode cL_law 697 = .ok (.invokevirtual 95, 3) := by decide +kernel
theorem dL_law_700 : decode cL_law 700 = .ok (.if_icmp .eq 103, 3) := by decide +kernel
theorem dL_law_703 : decode cL_law 703 = .ok (.iconst 0, 1) := by decide +kernel
theorem dL_law_704 : decode cL_law 704 = .ok (.ireturn, 1) := by decide +kernel
theorem dL_law_705 : decode cL_law 705 = .ok (.aload_n 1, 1) := by decide +kernel
theorem dL_law_706 : decode cL_law 706 = .ok (.invokevirtual 96, 3) := by decide +kernel
theorem dL_law_709 : decode cL_law 709 = .ok (.aload_n 2, 1) := by decide +kernel
theorem dL_law_710 : decode cL_law 710 = .ok (.invokevirtual 99, 3) := by decide +kernel
theorem dL_law_713 : decode cL_law 713 = .ok (.if_icmp .eq 90, 3) := by decide +kernel
theorem dL_law_716 : decode cL_law 716 = .ok (.iconst 0, 1) := by decide +kernel
theorem dL_law_717 : decode cL_law 717 = .ok (.ireturn, 1) := by decide +kernel
theorem dL_law_718 : decode cL_law 718 = .ok (.aload_n 1, 1) := by decide +kernel
theorem dL_law_719 : decode cL_law 719 = .ok (.invokevirtual 100, 3) := by decide +kernel
theorem dL_law_722 : decode cL_law 722 = .ok (.aload_n 2, 1) := by decide +kernel
theorem dL_law_723 : decode cL_law 723 = .ok (.invokevirtual 103, 3) := by decide +kernel
theorem dL_law_726 : decode cL_law 726 = .ok (.if_icmp .eq 77, 3) := by decide +kernel
theorem dL_law_729 : decode cL_law 729 = .ok (.iconst 0, 1) := by decide +kernel
theorem dL_law_730 : decode cL_law 730 = .ok (.ireturn, 1) := by decide +kernel
theorem dL_law_731 : decode cL_law 731 = .ok (.aload_n 1, 1) := by decide +kernel
theorem dL_law_732 : decode cL_law 732 = .ok (.invokevirtual 104, 3) := by decide +kernel
theorem dL_law_735 : decode cL_law 735 = .ok (.aload_n 2, 1) := by decide +kernel
theorem dL_law_736 : decode cL_law 736 = .ok (.invokevirtual 107, 3) := by decide +kernel
theorem dL_law_739 : decode cL_law 739 = .ok (.if_icmp .eq 64, 3) := by decide +kernel
theorem dL_law_742 : decode cL_law 742 = .ok (.iconst 0, 1) := by decide +kernel
theorem dL_law_743 : decode cL_law 743 = .ok (.ireturn, 1) := by decide +kernel
theorem dL_law_744 : decode cL_law 744 = .ok (.aload_n 1, 1) := by decide +kernel
theorem dL_law_745 : decode cL_law 745 = .ok (.invokevirtual 108, 3) := by decide +kernel
theorem dL_law_748 : decode cL_law 748 = .ok (.aload_n 2, 1) := by decide +kernel
theorem dL_law_749 : decode cL_law 749 = .ok (.invokevirtual 111, 3) := by decide +kernel
theorem dL_law_752 : decode cL_law 752 = .ok (.if_icmp .eq 51, 3) := by decide +kernel
theorem dL_law_755 : decode cL_law 755 = .ok (.iconst 0, 1) := by decide +kernel
theorem dL_law_756 : decode cL_law 756 = .ok (.ireturn, 1) := by decide +kernel
theorem dL_law_757 : decode cL_law 757 = .ok (.aload_n 1, 1) := by decide +kernel
theorem dL_law_758 : decode cL_law 758 = .ok (.aload_n 0, 1) := by decide +kernel
theorem dL_law_759 : decode cL_law 759 = .ok (.iload_n 3, 1) := by decide +kernel
theorem dL_law_760 : decode cL_law 760 = .ok (.iconst 1, 1) := by decide +kernel
theorem dL_law_761 : decode cL_law 761 = .ok (.iadd, 1) := by decide +kernel
theorem dL_law_762 : decode cL_law 762 = .ok (.iaload, 1) := by decide +kernel
theorem dL_law_763 : decode cL_law 763 = .ok (.invokevirtual 112, 3) := by decide +kernel
theorem dL_law_766 : decode cL_law 766 = .ok (.aload_n 2, 1) := by decide +kernel
theorem dL_law_767 : decode cL_law 767 = .ok (.aload_n 0, 1) := by decide +kernel
theorem dL_law_768 : decode cL_law 768 = .ok (.iload_n 3, 1) := by decide +kernel
theorem dL_law_769 : decode cL_law 769 = .ok (.iconst 1, 1) := by decide +kernel
theorem dL_law_770 : decode cL_law 770 = .ok (.iadd, 1) := by decide +kernel
theorem dL_law_771 : decode cL_law 771 = .ok (.iaload, 1) := by decide +kernel
theorem dL_law_772 : decode cL_law 772 = .ok (.invokevirtual 115, 3) := by decide +kernel
theorem dL_law_775 : decode cL_law 775 = .ok (.if_icmp .eq 28, 3) := by decide +kernel
theorem dL_law_778 : decode cL_law 778 = .ok (.iconst 0, 1) := by decide +kernel
theorem dL_law_779 : decode cL_law 779 = .ok (.ireturn, 1) := by decide +kernel
theorem dL_law_780 : decode cL_law 780 = .ok (.aload_n 1, 1) := by decide +kernel
theorem dL_law_781 : decode cL_law 781 = .ok (.aload_n 0, 1) := by decide +kernel
theorem dL_law_782 : decode cL_law 782 = .ok (.iload_n 3, 1) := by decide +kernel
theorem dL_law_783 : decode cL_law 783 = .ok (.iconst 1, 1) := by decide +kernel
theorem dL_law_784 : decode cL_law 784 = .ok (.iadd, 1) := by decide +kernel
theorem dL_law_785 : decode cL_law 785 = .ok (.iaload, 1) := by decide +kernel
theorem dL_law_786 : decode cL_law 786 = .ok (.invokevirtual 116, 3) := by decide +kernel
theorem dL_law_789 : decode cL_law 789 = .ok (.aload_n 2, 1) := by decide +kernel
theorem dL_law_790 : decode cL_law 790 = .ok (.aload_n 0, 1) := by decide +kernel
theorem dL_law_791 : decode cL_law 791 = .ok (.iload_n 3, 1) := by decide +kernel
theorem dL_law_792 : decode cL_law 792 = .ok (.iconst 1, 1) := by decide +kernel
theorem dL_law_793 : decode cL_law 793 = .ok (.iadd, 1) := by decide +kernel
theorem dL_law_794 : decode cL_law 794 = .ok (.iaload, 1) := by decide +kernel
theorem dL_law_795 : decode cL_law 795 = .ok (.invokevirtual 119, 3) := by decide +kernel
theorem dL_law_798 : decode cL_law 798 = .ok (.if_icmp .eq 5, 3) := by decide +kernel
theorem dL_law_801 : decode cL_law 801 = .ok (.iconst 0, 1) := by decide +kernel
theorem dL_law_802 : decode cL_law 802 = .ok (.ireturn, 1) := by decide +kernel
theorem dL_law_803 : decode cL_law 803 = .ok (.iinc 3 4, 3) := by decide +kernel
theorem dL_law_806 : decode cL_law 806 = .ok (.goto (-788), 3) := by decide +kernel
theorem dL_law_809 : decode cL_law 809 = .ok (.iconst 1, 1) := by decide +kernel
theorem dL_law_810 : decode cL_law 810 = .ok (.ireturn, 1) := by decide +kernel
