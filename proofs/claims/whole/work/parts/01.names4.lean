theorem dX7_drawn_116 : decode cX7_drawn 116 = .ok (.iload 6, 2) := by decide +kernel
theorem dX7_drawn_118 : decode cX7_drawn 118 = .ok (.aload_n 0, 1) := by decide +kernel
theorem dX7_drawn_119 : decode cX7_drawn 119 = .ok (.getfield 12, 3) := by decide +kernel
theorem dX7_drawn_122 : decode cX7_drawn 122 = .ok (.getfield 77, 3) := by decide +kernel
theorem dX7_drawn_125 : decode cX7_drawn 125 = .ok (.isub, 1) := by decide +kernel
theorem dX7_drawn_126 : decode cX7_drawn 126 = .ok (.ireturn, 1) := by decide +kernel
theorem dX7_drawn_127 : decode cX7_drawn 127 = .ok (.iinc 6 (-1), 3) := by decide +kernel
theorem dX7_drawn_130 : decode cX7_drawn 130 = .ok (.goto (-51), 3) := by decide +kernel
theorem dX7_drawn_133 : decode cX7_drawn 133 = .ok (.bipush (-5), 2) := by decide +kernel
theorem dX7_drawn_135 : decode cX7_drawn 135 = .ok (.ireturn, 1) := by decide +kernel
theorem dX7_latest_0 : decode cX7_latest 0 = .ok (.aload_n 0, 1) := by decide +kernel
theorem dX7_latest_1 : decode cX7_latest 1 = .ok (.iload_n 1, 1) := by decide +kernel
theorem dX7_latest_2 : decode cX7_latest 2 = .ok (.invokevirtual 139, 3) := by decide +kernel
theorem dX7_latest_5 : decode cX7_latest 5 = .ok (.astore_n 3, 1) := by decide +kernel
theorem dX7_latest_6 : decode cX7_latest 6 = .ok (.aload_n 3, 1) := by decide +kernel
theorem dX7_latest_7 : decode cX7_latest 7 = .ok (.ifnull 11, 3) := by decide +kernel
theorem dX7_latest_10 : decode cX7_latest 10 = .ok (.aload_n 0, 1) := by decide +kernel
theorem dX7_latest_11 : decode cX7_latest 11 = .ok (.iload_n 2, 1) := by decide +kernel
theorem dX7_latest_12 : decode cX7_latest 12 = .ok (.invokevirtual 93, 3) := by decide +kernel
theorem dX7_latest_15 : decode cX7_latest 15 = .ok (.ifCond .ne 5, 3) := by decide +kernel
theorem dX7_latest_18 : decode cX7_latest 18 = .ok (.iconst (-1), 1) := by decide +kernel
theorem dX7_latest_19 : decode cX7_latest 19 = .ok (.ireturn, 1) := by decide +kernel
theorem dX7_latest_20 : decode cX7_latest 20 = .ok (.aload_n 0, 1) := by decide +kernel
theorem dX7_latest_21 : decode cX7_latest 21 = .ok (.getfield 12, 3) := by decide +kernel
theorem dX7_latest_24 : decode cX7_latest 24 = .ok (.invokevirtual 211, 3) := by decide +kernel
theorem dX7_latest_27 : decode cX7_latest 27 = .ok (.istore 4, 2) := by decide +kernel
theorem dX7_latest_29 : decode cX7_latest 29 = .ok (.iconst 0, 1) := by decide +kernel
theorem dX7_latest_30 : decode cX7_latest 30 = .ok (.istore 5, 2) := by decide +kernel
theorem dX7_latest_32 : decode cX7_latest 32 = .ok (.iload 5, 2) := by decide +kernel
theorem dX7_latest_34 : decode cX7_latest 34 = .ok (.iload 4, 2) := by decide +kernel
theorem dX7_latest_36 : decode cX7_latest 36 = .ok (.if_icmp .ge 26, 3) := by decide +kernel
theorem dX7_latest_39 : decode cX7_latest 39 = .ok (.aload_n 0, 1) := by decide +kernel
theorem dX7_latest_40 : decode cX7_latest 40 = .ok (.aload_n 3, 1) := by decide +kernel
theorem dX7_latest_41 : decode cX7_latest 41 = .ok (.iload_n 2, 1) := by decide +kernel
theorem dX7_latest_42 : decode cX7_latest 42 = .ok (.iload 5, 2) := by decide +kernel
theorem dX7_latest_44 : decode cX7_latest 44 = .ok (.invokevirtual 146, 3) := by decide +kernel
theorem dX7_latest_47 : decode cX7_latest 47 = .ok (.getfield 214, 3) := by decide +kernel
theorem dX7_latest_50 : decode cX7_latest 50 = .ok (.ifCond .ne 6, 3) := by decide +kernel
theorem dX7_latest_53 : decode cX7_latest 53 = .ok (.bipush (-5), 2) := by decide +kernel
theorem dX7_latest_55 : decode cX7_latest 55 = .ok (.ireturn, 1) := by decide +kernel
theorem dX7_latest_56 : decode cX7_latest 56 = .ok (.iinc 5 1, 3) := by decide +kernel
theorem dX7_latest_59 : decode cX7_latest 59 = .ok (.goto (-27), 3) := by decide +kernel
theorem dX7_latest_62 : decode cX7_latest 62 = .ok (.bipush 20, 2) := by decide +kernel
theorem dX7_latest_64 : decode cX7_latest 64 = .ok (.istore 5, 2) := by decide +kernel
theorem dX7_latest_66 : decode cX7_latest 66 = .ok (.iload 5, 2) := by decide +kernel
theorem dX7_latest_68 : decode cX7_latest 68 = .ok (.ifCond .lt 37, 3) := by decide +kernel
theorem dX7_latest_71 : decode cX7_latest 71 = .ok (.aload_n 0, 1) := by decide +kernel
theorem dX7_latest_72 : decode cX7_latest 72 = .ok (.aload_n 3, 1) := by decide +kernel
theorem dX7_latest_73 : decode cX7_latest 73 = .ok (.aload_n 0, 1) := by decide +kernel
theorem dX7_latest_74 : decode cX7_latest 74 = .ok (.getfield 12, 3) := by decide +kernel
theorem dX7_latest_77 : decode cX7_latest 77 = .ok (.getfield 86, 3) := by decide +kernel
theorem dX7_latest_80 : decode cX7_latest 80 = .ok (.iload 5, 2) := by decide +kernel
theorem dX7_latest_82 : decode cX7_latest 82 = .ok (.invokestatic 217, 3) := by decide +kernel
theorem dX7_latest_85 : decode cX7_latest 85 = .ok (.invokevirtual 191, 3) := by decide +kernel
theorem dX7_latest_88 : decode cX7_latest 88 = .ok (.iload 4, 2) := by decide +kernel
theorem dX7_latest_90 : decode cX7_latest 90 = .ok (.invokevirtual 221, 3) := by decide +kernel
theorem dX7_latest_93 : decode cX7_latest 93 = .ok (.ifCond .eq 6, 3) := by decide +kernel
theorem dX7_latest_96 : decode cX7_latest 96 = .ok (.iload 5, 2) := by decide +kernel
theorem dX7_latest_98 : decode cX7_latest 98 = .ok (.ireturn, 1) := by decide +kernel
theorem dX7_latest_99 : decode cX7_latest 99 = .ok (.iinc 5 (-1), 3) := by decide +kernel
theorem dX7_latest_102 : decode cX7_latest 102 = .ok (.goto (-36), 3) := by decide +kernel
theorem dX7_latest_105 : decode cX7_latest 105 = .ok (.bipush (-5), 2) := by decide +kernel
theorem dX7_latest_107 : decode cX7_latest 107 = .ok (.ireturn, 1) := by decide +kernel
theorem dX7_wrong_0 : decode cX7_wrong 0 = .ok (.aload_n 0, 1) := by decide +kernel
theorem dX7_wrong_1 : decode cX7_wrong 1 = .ok (.iload_n 1, 1) := by decide +kernel
theorem dX7_wrong_2 : decode cX7_wrong 2 = .ok (.invokevirtual 139, 3) := by decide +kernel
theorem dX7_wrong_5 : decode cX7_wrong 5 = .ok (.astore_n 3, 1) := by decide +kernel
theorem dX7_wrong_6 : decode cX7_wrong 6 = .ok (.aload_n 3, 1) := by decide +kernel
theorem dX7_wrong_7 : decode cX7_wrong 7 = .ok (.ifnull 11, 3) := by decide +kernel
theorem dX7_wrong_10 : decode cX7_wrong 10 = .ok (.aload_n 0, 1) := by decide +kernel
theorem dX7_wrong_11 : decode cX7_wrong 11 = .ok (.iload_n 2, 1) := by decide +kernel
theorem dX7_wrong_12 : decode cX7_wrong 12 = .ok (.invokevirtual 93, 3) := by decide +kernel
theorem dX7_wrong_15 : decode cX7_wrong 15 = .ok (.ifCond .ne 5, 3) := by decide +kernel
theorem dX7_wrong_18 : decode cX7_wrong 18 = .ok (.iconst (-1), 1) := by decide +kernel
theorem dX7_wrong_19 : decode cX7_wrong 19 = .ok (.ireturn, 1) := by decide +kernel
theorem dX7_wrong_20 : decode cX7_wrong 20 = .ok (.iconst 0, 1) := by decide +kernel
theorem dX7_wrong_21 : decode cX7_wrong 21 = .ok (.istore 4, 2) := by decide +kernel
theorem dX7_wrong_23 : decode cX7_wrong 23 = .ok (.iconst 0, 1) := by decide +kernel
theorem dX7_wrong_24 : decode cX7_wrong 24 = .ok (.istore 5, 2) := by decide +kernel
theorem dX7_wrong_26 : decode cX7_wrong 26 = .ok (.iload 5, 2) := by decide +kernel
theorem dX7_wrong_28 : decode cX7_wrong 28 = .ok (.aload_n 0, 1) := by decide +kernel
theorem dX7_wrong_29 : decode cX7_wrong 29 = .ok (.getfield 12, 3) := by decide +kernel
theorem dX7_wrong_32 : decode cX7_wrong 32 = .ok (.getfield 96, 3) := by decide +kernel
theorem dX7_wrong_35 : decode cX7_wrong 35 = .ok (.if_icmp .ge 23, 3) := by decide +kernel
theorem dX7_wrong_38 : decode cX7_wrong 38 = .ok (.aload_n 0, 1) := by decide +kernel
theorem dX7_wrong_39 : decode cX7_wrong 39 = .ok (.aload_n 3, 1) := by decide +kernel
theorem dX7_wrong_40 : decode cX7_wrong 40 = .ok (.iload_n 2, 1) := by decide +kernel
theorem dX7_wrong_41 : decode cX7_wrong 41 = .ok (.iload 5, 2) := by decide +kernel
theorem dX7_wrong_43 : decode cX7_wrong 43 = .ok (.invokevirtual 180, 3) := by decide +kernel
theorem dX7_wrong_46 : decode cX7_wrong 46 = .ok (.ifCond .ne 6, 3) := by decide +kernel
theorem dX7_wrong_49 : decode cX7_wrong 49 = .ok (.iinc 4 1, 3) := by decide +kernel
theorem dX7_wrong_52 : decode cX7_wrong 52 = .ok (.iinc 5 1, 3) := by decide +kernel
theorem dX7_wrong_55 : decode cX7_wrong 55 = .ok (.goto (-29), 3) := by decide +kernel
theorem dX7_wrong_58 : decode cX7_wrong 58 = .ok (.iload 4, 2) := by decide +kernel
theorem dX7_wrong_60 : decode cX7_wrong 60 = .ok (.ireturn, 1) := by decide +kernel
theorem dX7_swap_0 : decode cX7_swap 0 = .ok (.aload_n 0, 1) := by decide +kernel
theorem dX7_swap_1 : decode cX7_swap 1 = .ok (.iload_n 1, 1) := by decide +kernel
theorem dX7_swap_2 : decode cX7_swap 2 = .ok (.invokevirtual 139, 3) := by decide +kernel
theorem dX7_swap_5 : decode cX7_swap 5 = .ok (.astore 4, 2) := by decide +kernel
theorem dX7_swap_7 : decode cX7_swap 7 = .ok (.aload 4, 2) := by decide +kernel
theorem dX7_swap_9 : decode cX7_swap 9 = .ok (.ifnull 20, 3) := by decide +kernel
theorem dX7_swap_12 : decode cX7_swap 12 = .ok (.aload_n 0, 1) := by decide +kernel
theorem dX7_swap_13 : decode cX7_swap 13 = .ok (.iload_n 2, 1) := by decide +kernel
theorem dX7_swap_14 : decode cX7_swap 14 = .ok (.invokevirtual 169, 3) := by decide +kernel
theorem dX7_swap_17 : decode cX7_swap 17 = .ok (.ifCond .eq 12, 3) := by decide +kernel
theorem dX7_swap_20 : decode cX7_swap 20 = .ok (.iload_n 3, 1) := by decide +kernel
theorem dX7_swap_21 : decode cX7_swap 21 = .ok (.ifCond .lt 8, 3) := by decide +kernel
theorem dX7_swap_24 : decode cX7_swap 24 = .ok (.iload_n 3, 1) := by decide +kernel
theorem dX7_swap_25 : decode cX7_swap 25 = .ok (.iconst 1, 1) := by decide +kernel
theorem dX7_swap_26 : decode cX7_swap 26 = .ok (.if_icmp .le 5, 3) := by decide +kernel
theorem dX7_swap_29 : decode cX7_swap 29 = .ok (.iconst (-1), 1) := by decide +kernel
theorem dX7_swap_30 : decode cX7_swap 30 = .ok (.ireturn, 1) := by decide +kernel
theorem dX7_swap_31 : decode cX7_swap 31 = .ok (.aload_n 0, 1) := by decide +kernel
theorem dX7_swap_32 : decode cX7_swap 32 = .ok (.aload 4, 2) := by decide +kernel
theorem dX7_swap_34 : decode cX7_swap 34 = .ok (.iconst 2, 1) := by decide +kernel
theorem dX7_swap_35 : decode cX7_swap 35 = .ok (.iload_n 2, 1) := by decide +kernel
theorem dX7_swap_36 : decode cX7_swap 36 = .ok (.imul, 1) := by decide +kernel
theorem dX7_swap_37 : decode cX7_swap 37 = .ok (.invokevirtual 224, 3) := by decide +kernel
theorem dX7_swap_40 : decode cX7_swap 40 = .ok (.istore 5, 2) := by decide +kernel
theorem dX7_swap_42 : decode cX7_swap 42 = .ok (.iconst 0, 1) := by decide +kernel
theorem dX7_swap_43 : decode cX7_swap 43 = .ok (.istore 6, 2) := by decide +kernel
theorem dX7_swap_45 : decode cX7_swap 45 = .ok (.iconst 0, 1) := by decide +kernel
theorem dX7_swap_46 : decode cX7_swap 46 = .ok (.istore 7, 2) := by decide +kernel
theorem dX7_swap_48 : decode cX7_swap 48 = .ok (.iconst 0, 1) := by decide +kernel
theorem dX7_swap_49 : decode cX7_swap 49 = .ok (.istore 8, 2) := by decide +kernel
theorem dX7_swap_51 : decode cX7_swap 51 = .ok (.iload 8, 2) := by decide +kernel
theorem dX7_swap_53 : decode cX7_swap 53 = .ok (.bipush 10, 2) := by decide +kernel
theorem dX7_swap_55 : decode cX7_swap 55 = .ok (.if_icmp .ge 43, 3) := by decide +kernel
theorem dX7_swap_58 : decode cX7_swap 58 = .ok (.aload_n 0, 1) := by decide +kernel
theorem dX7_swap_59 : decode cX7_swap 59 = .ok (.aload_n 0, 1) := by decide +kernel
theorem dX7_swap_60 : decode cX7_swap 60 = .ok (.getfield 12, 3) := by decide +kernel
theorem dX7_swap_63 : decode cX7_swap 63 = .ok (.getfield 99, 3) := by decide +kernel
theorem dX7_swap_66 : decode cX7_swap 66 = .ok (.iload_n 2, 1) := by decide +kernel
theorem dX7_swap_67 : decode cX7_swap 67 = .ok (.iaload, 1) := by decide +kernel
theorem dX7_swap_68 : decode cX7_swap 68 = .ok (.iload 8, 2) := by decide +kernel
theorem dX7_swap_70 : decode cX7_swap 70 = .ok (.iload 5, 2) := by decide +kernel
theorem dX7_swap_72 : decode cX7_swap 72 = .ok (.invokevirtual 227, 3) := by decide +kernel
theorem dX7_swap_75 : decode cX7_swap 75 = .ok (.istore 9, 2) := by decide +kernel
theorem dX7_swap_77 : decode cX7_swap 77 = .ok (.iload 9, 2) := by decide +kernel
theorem dX7_swap_79 : decode cX7_swap 79 = .ok (.iload 7, 2) := by decide +kernel
theorem dX7_swap_81 : decode cX7_swap 81 = .ok (.if_icmp .le 11, 3) := by decide +kernel
theorem dX7_swap_84 : decode cX7_swap 84 = .ok (.iload 9, 2) := by decide +kernel
theorem dX7_swap_86 : decode cX7_swap 86 = .ok (.istore 7, 2) := by decide +kernel
theorem dX7_swap_88 : decode cX7_swap 88 = .ok (.iload 8, 2) := by decide +kernel
theorem dX7_swap_90 : decode cX7_swap 90 = .ok (.istore 6, 2) := by decide +kernel
theorem dX7_swap_92 : decode cX7_swap 92 = .ok (.iinc 8 1, 3) := by decide +kernel
theorem dX7_swap_95 : decode cX7_swap 95 = .ok (.goto (-44), 3) := by decide +kernel
theorem dX7_swap_98 : decode cX7_swap 98 = .ok (.iload_n 3, 1) := by decide +kernel
theorem dX7_swap_99 : decode cX7_swap 99 = .ok (.ifCond .ne 8, 3) := by decide +kernel
theorem dX7_swap_102 : decode cX7_swap 102 = .ok (.iload 6, 2) := by decide +kernel
theorem dX7_swap_104 : decode cX7_swap 104 = .ok (.goto 5, 3) := by decide +kernel
theorem dX7_swap_107 : decode cX7_swap 107 = .ok (.iload 7, 2) := by decide +kernel
theorem dX7_swap_109 : decode cX7_swap 109 = .ok (.ireturn, 1) := by decide +kernel
theorem dX7_changed_0 : decode cX7_changed 0 = .ok (.aload_n 0, 1) := by decide +kernel
theorem dX7_changed_1 : decode cX7_changed 1 = .ok (.iload_n 1, 1) := by decide +kernel
theorem dX7_changed_2 : decode cX7_changed 2 = .ok (.invokevirtual 139, 3) := by decide +kernel
theorem dX7_changed_5 : decode cX7_changed 5 = .ok (.astore_n 3, 1) := by decide +kernel
theorem dX7_changed_6 : decode cX7_changed 6 = .ok (.aload_n 3, 1) := by decide +kernel
theorem dX7_changed_7 : decode cX7_changed 7 = .ok (.ifnull 11, 3) := by decide +kernel
theorem dX7_changed_10 : decode cX7_changed 10 = .ok (.aload_n 0, 1) := by decide +kernel
theorem dX7_changed_11 : decode cX7_changed 11 = .ok (.iload_n 2, 1) := by decide +kernel
theorem dX7_changed_12 : decode cX7_changed 12 = .ok (.invokevirtual 93, 3) := by decide +kernel
theorem dX7_changed_15 : decode cX7_changed 15 = .ok (.ifCond .ne 5, 3) := by decide +kernel
theorem dX7_changed_18 : decode cX7_changed 18 = .ok (.iconst (-1), 1) := by decide +kernel
theorem dX7_changed_19 : decode cX7_changed 19 = .ok (.ireturn, 1) := by decide +kernel
theorem dX7_changed_20 : decode cX7_changed 20 = .ok (.iconst 0, 1) := by decide +kernel
theorem dX7_changed_21 : decode cX7_changed 21 = .ok (.istore 4, 2) := by decide +kernel
theorem dX7_changed_23 : decode cX7_changed 23 = .ok (.iconst 0, 1) := by decide +kernel
theorem dX7_changed_24 : decode cX7_changed 24 = .ok (.istore 5, 2) := by decide +kernel
theorem dX7_changed_26 : decode cX7_changed 26 = .ok (.iload 5, 2) := by decide +kernel
theorem dX7_changed_28 : decode cX7_changed 28 = .ok (.aload_n 0, 1) := by decide +kernel
theorem dX7_changed_29 : decode cX7_changed 29 = .ok (.getfield 12, 3) := by decide +kernel
theorem dX7_changed_32 : decode cX7_changed 32 = .ok (.getfield 96, 3) := by decide +kernel
theorem dX7_changed_35 : decode cX7_changed 35 = .ok (.if_icmp .ge 34, 3) := by decide +kernel
theorem dX7_changed_38 : decode cX7_changed 38 = .ok (.aload_n 0, 1) := by decide +kernel
theorem dX7_changed_39 : decode cX7_changed 39 = .ok (.aload_n 3, 1) := by decide +kernel
theorem dX7_changed_40 : decode cX7_changed 40 = .ok (.iload_n 2, 1) := by decide +kernel
theorem dX7_changed_41 : decode cX7_changed 41 = .ok (.iload 5, 2) := by decide +kernel
theorem dX7_changed_43 : decode cX7_changed 43 = .ok (.invokevirtual 180, 3) := by decide +kernel
theorem dX7_changed_46 : decode cX7_changed 46 = .ok (.ifCond .ne 17, 3) := by decide +kernel
theorem dX7_changed_49 : decode cX7_changed 49 = .ok (.aload_n 0, 1) := by decide +kernel
theorem dX7_changed_50 : decode cX7_changed 50 = .ok (.aload_n 3, 1) := by decide +kernel
theorem dX7_changed_51 : decode cX7_changed 51 = .ok (.iload_n 2, 1) := by decide +kernel
theorem dX7_changed_52 : decode cX7_changed 52 = .ok (.iload 5, 2) := by decide +kernel
theorem dX7_changed_54 : decode cX7_changed 54 = .ok (.invokevirtual 231, 3) := by decide +kernel
theorem dX7_changed_57 : decode cX7_changed 57 = .ok (.ifCond .ne 6, 3) := by decide +kernel
theorem dX7_changed_60 : decode cX7_changed 60 = .ok (.iinc 4 1, 3) := by decide +kernel
theorem dX7_changed_63 : decode cX7_changed 63 = .ok (.iinc 5 1, 3) := by decide +kernel
theorem dX7_changed_66 : decode cX7_changed 66 = .ok (.goto (-40), 3) := by decide +kernel
theorem dX7_changed_69 : decode cX7_changed 69 = .ok (.iload 4, 2) := by decide +kernel
theorem dX7_changed_71 : decode cX7_changed 71 = .ok (.ireturn, 1) := by decide +kernel
theorem dX7_boxes_0 : decode cX7_boxes 0 = .ok (.iload_n 2, 1) := by decide +kernel
theorem dX7_boxes_1 : decode cX7_boxes 1 = .ok (.ifCond .lt 8, 3) := by decide +kernel
theorem dX7_boxes_4 : decode cX7_boxes 4 = .ok (.iload_n 2, 1) := by decide +kernel
theorem dX7_boxes_5 : decode cX7_boxes 5 = .ok (.iconst 2, 1) := by decide +kernel
theorem dX7_boxes_6 : decode cX7_boxes 6 = .ok (.if_icmp .le 5, 3) := by decide +kernel
theorem dX7_boxes_9 : decode cX7_boxes 9 = .ok (.iconst (-1), 1) := by decide +kernel
theorem dX7_boxes_10 : decode cX7_boxes 10 = .ok (.ireturn, 1) := by decide +kernel
theorem dX7_boxes_11 : decode cX7_boxes 11 = .ok (.iload_n 1, 1) := by decide +kernel
theorem dX7_boxes_12 : decode cX7_boxes 12 = .ok (.iconst 1, 1) := by decide +kernel
theorem dX7_boxes_13 : decode cX7_boxes 13 = .ok (.if_icmp .lt 8, 3) := by decide +kernel
theorem dX7_boxes_16 : decode cX7_boxes 16 = .ok (.iload_n 1, 1) := by decide +kernel
theorem dX7_boxes_17 : decode cX7_boxes 17 = .ok (.iconst 2, 1) := by decide +kernel
theorem dX7_boxes_18 : decode cX7_boxes 18 = .ok (.if_icmp .le 6, 3) := by decide +kernel
theorem dX7_boxes_21 : decode cX7_boxes 21 = .ok (.bipush (-2), 2) := by decide +kernel
theorem dX7_boxes_23 : decode cX7_boxes 23 = .ok (.ireturn, 1) := by decide +kernel
theorem dX7_boxes_24 : decode cX7_boxes 24 = .ok (.iload_n 1, 1) := by decide +kernel
theorem dX7_boxes_25 : decode cX7_boxes 25 = .ok (.iconst 1, 1) := by decide +kernel
theorem dX7_boxes_26 : decode cX7_boxes 26 = .ok (.if_icmp .ne 11, 3) := by decide +kernel
theorem dX7_boxes_29 : decode cX7_boxes 29 = .ok (.iload_n 2, 1) := by decide +kernel
theorem dX7_boxes_30 : decode cX7_boxes 30 = .ok (.iconst 1, 1) := by decide +kernel
theorem dX7_boxes_31 : decode cX7_boxes 31 = .ok (.if_icmp .ne 6, 3) := by decide +kernel
theorem dX7_boxes_34 : decode cX7_boxes 34 = .ok (.bipush (-5), 2) := by decide +kernel
theorem dX7_boxes_36 : decode cX7_boxes 36 = .ok (.ireturn, 1) := by decide +kernel
theorem dX7_boxes_37 : decode cX7_boxes 37 = .ok (.bipush 41, 2) := by decide +kernel
theorem dX7_boxes_39 : decode cX7_boxes 39 = .ok (.istore_n 3, 1) := by decide +kernel
theorem dX7_boxes_40 : decode cX7_boxes 40 = .ok (.aload_n 0, 1) := by decide +kernel
theorem dX7_boxes_41 : decode cX7_boxes 41 = .ok (.iload_n 1, 1) := by decide +kernel
theorem dX7_boxes_42 : decode cX7_boxes 42 = .ok (.invokevirtual 234, 3) := by decide +kernel
theorem dX7_boxes_45 : decode cX7_boxes 45 = .ok (.istore 4, 2) := by decide +kernel
theorem dX7_boxes_47 : decode cX7_boxes 47 = .ok (.iload_n 2, 1) := by decide +kernel
theorem dX7_boxes_48 : decode cX7_boxes 48 = .ok (.lookupswitch 40 #[(0, 28), (1, 35)], 28) := by decide +kernel
theorem dX7_boxes_76 : decode cX7_boxes 76 = .ok (.iload 4, 2) := by decide +kernel
theorem dX7_boxes_78 : decode cX7_boxes 78 = .ok (.iload_n 3, 1) := by decide +kernel
theorem dX7_boxes_79 : decode cX7_boxes 79 = .ok (.idiv, 1) := by decide +kernel
theorem dX7_boxes_80 : decode cX7_boxes 80 = .ok (.iload_n 3, 1) := by decide +kernel
theorem dX7_boxes_81 : decode cX7_boxes 81 = .ok (.irem, 1) := by decide +kernel
theorem dX7_boxes_82 : decode cX7_boxes 82 = .ok (.ireturn, 1) := by decide +kernel
theorem dX7_boxes_83 : decode cX7_boxes 83 = .ok (.iload 4, 2) := by decide +kernel
theorem dX7_boxes_85 : decode cX7_boxes 85 = .ok (.iload_n 3, 1) := by decide +kernel
theorem dX7_boxes_86 : decode cX7_boxes 86 = .ok (.irem, 1) := by decide +kernel
theorem dX7_boxes_87 : decode cX7_boxes 87 = .ok (.ireturn, 1) := by decide +kernel
theorem dX7_boxes_88 : decode cX7_boxes 88 = .ok (.iload 4, 2) := by decide +kernel
theorem dX7_boxes_90 : decode cX7_boxes 90 = .ok (.iload_n 3, 1) := by decide +kernel
theorem dX7_boxes_91 : decode cX7_boxes 91 = .ok (.iload_n 3, 1) := by decide +kernel
theorem dX7_boxes_92 : decode cX7_boxes 92 = .ok (.imul, 1) := by decide +kernel
theorem dX7_boxes_93 : decode cX7_boxes 93 = .ok (.idiv, 1) := by decide +kernel
theorem dX7_boxes_94 : decode cX7_boxes 94 = .ok (.ireturn, 1) := by decide +kernel
theorem dX7_slips_0 : decode cX7_slips 0 = .ok (.iload_n 1, 1) := by decide +kernel
theorem dX7_slips_1 : decode cX7_slips 1 = .ok (.ifCond .lt 9, 3) := by decide +kernel
theorem dX7_slips_4 : decode cX7_slips 4 = .ok (.iload_n 1, 1) := by decide +kernel
theorem dX7_slips_5 : decode cX7_slips 5 = .ok (.bipush 10, 2) := by decide +kernel
theorem dX7_slips_7 : decode cX7_slips 7 = .ok (.if_icmp .le 6, 3) := by decide +kernel
theorem dX7_slips_10 : decode cX7_slips 10 = .ok (.bipush (-2), 2) := by decide +kernel
theorem dX7_slips_12 : decode cX7_slips 12 = .ok (.ireturn, 1) := by decide +kernel
theorem dX7_slips_13 : decode cX7_slips 13 = .ok (.aload_n 0, 1) := by decide +kernel
theorem dX7_slips_14 : decode cX7_slips 14 = .ok (.getfield 12, 3) := by decide +kernel
theorem dX7_slips_17 : decode cX7_slips 17 = .ok (.getfield 237, 3) := by decide +kernel
theorem dX7_slips_20 : decode cX7_slips 20 = .ok (.istore_n 2, 1) := by decide +kernel
theorem dX7_slips_21 : decode cX7_slips 21 = .ok (.aload_n 0, 1) := by decide +kernel
theorem dX7_slips_22 : decode cX7_slips 22 = .ok (.getfield 12, 3) := by decide +kernel
theorem dX7_slips_25 : decode cX7_slips 25 = .ok (.iload_n 1, 1) := by decide +kernel
theorem dX7_slips_26 : decode cX7_slips 26 = .ok (.putfield 237, 3) := by decide +kernel
theorem dX7_slips_29 : decode cX7_slips 29 = .ok (.iload_n 2, 1) := by decide +kernel
theorem dX7_slips_30 : decode cX7_slips 30 = .ok (.ireturn, 1) := by decide +kernel
theorem dX7_sure_0 : decode cX7_sure 0 = .ok (.aload_n 0, 1) := by decide +kernel
theorem dX7_sure_1 : decode cX7_sure 1 = .ok (.iload_n 1, 1) := by decide +kernel
theorem dX7_sure_2 : decode cX7_sure 2 = .ok (.invokevirtual 139, 3) := by decide +kernel
theorem dX7_sure_5 : decode cX7_sure 5 = .ok (.astore 5, 2) := by decide +kernel
theorem dX7_sure_7 : decode cX7_sure 7 = .ok (.aload 5, 2) := by decide +kernel
theorem dX7_sure_9 : decode cX7_sure 9 = .ok (.ifnull 29, 3) := by decide +kernel
theorem dX7_sure_12 : decode cX7_sure 12 = .ok (.aload_n 0, 1) := by decide +kernel
theorem dX7_sure_13 : decode cX7_sure 13 = .ok (.iload_n 2, 1) := by decide +kernel
theorem dX7_sure_14 : decode cX7_sure 14 = .ok (.invokevirtual 93, 3) := by decide +kernel
theorem dX7_sure_17 : decode cX7_sure 17 = .ok (.ifCond .eq 21, 3) := by decide +kernel
theorem dX7_sure_20 : decode cX7_sure 20 = .ok (.iload_n 3, 1) := by decide +kernel
theorem dX7_sure_21 : decode cX7_sure 21 = .ok (.invokestatic 143, 3) := by decide +kernel
theorem dX7_sure_24 : decode cX7_sure 24 = .ok (.ifCond .eq 14, 3) := by decide +kernel
theorem dX7_sure_27 : decode cX7_sure 27 = .ok (.iload 4, 2) := by decide +kernel
theorem dX7_sure_29 : decode cX7_sure 29 = .ok (.ifCond .lt 9, 3) := by decide +kernel
theorem dX7_sure_32 : decode cX7_sure 32 = .ok (.iload 4, 2) := by decide +kernel
theorem dX7_sure_34 : decode cX7_sure 34 = .ok (.iconst 1, 1) := by decide +kernel
theorem dX7_sure_35 : decode cX7_sure 35 = .ok (.if_icmp .le 7, 3) := by decide +kernel
theorem dX7_sure_38 : decode cX7_sure 38 = .ok (.ldc2_w 240, 3) := by decide +kernel
theorem dX7_sure_41 : decode cX7_sure 41 = .ok (.lreturn, 1) := by decide +kernel
theorem dX7_sure_42 : decode cX7_sure 42 = .ok (.aload_n 0, 1) := by decide +kernel
theorem dX7_sure_43 : decode cX7_sure 43 = .ok (.aload 5, 2) := by decide +kernel
theorem dX7_sure_45 : decode cX7_sure 45 = .ok (.aload_n 0, 1) := by decide +kernel
theorem dX7_sure_46 : decode cX7_sure 46 = .ok (.getfield 12, 3) := by decide +kernel
theorem dX7_sure_49 : decode cX7_sure 49 = .ok (.getfield 86, 3) := by decide +kernel
theorem dX7_sure_52 : decode cX7_sure 52 = .ok (.invokevirtual 191, 3) := by decide +kernel
theorem dX7_sure_55 : decode cX7_sure 55 = .ok (.iload_n 3, 1) := by decide +kernel
theorem dX7_sure_56 : decode cX7_sure 56 = .ok (.invokevirtual 242, 3) := by decide +kernel
theorem dX7_sure_59 : decode cX7_sure 59 = .ok (.invokestatic 245, 3) := by decide +kernel
theorem dX7_sure_62 : decode cX7_sure 62 = .ok (.istore 6, 2) := by decide +kernel
theorem dX7_sure_64 : decode cX7_sure 64 = .ok (.iload 6, 2) := by decide +kernel
theorem dX7_sure_66 : decode cX7_sure 66 = .ok (.bipush 15, 2) := by decide +kernel
theorem dX7_sure_68 : decode cX7_sure 68 = .ok (.if_icmp .le 7, 3) := by decide +kernel
theorem dX7_sure_71 : decode cX7_sure 71 = .ok (.ldc2_w 240, 3) := by decide +kernel
theorem dX7_sure_74 : decode cX7_sure 74 = .ok (.lreturn, 1) := by decide +kernel
theorem dX7_sure_75 : decode cX7_sure 75 = .ok (.aload_n 0, 1) := by decide +kernel
theorem dX7_sure_76 : decode cX7_sure 76 = .ok (.aload_n 0, 1) := by decide +kernel
theorem dX7_sure_77 : decode cX7_sure 77 = .ok (.aload 5, 2) := by decide +kernel
theorem dX7_sure_79 : decode cX7_sure 79 = .ok (.iload_n 2, 1) := by decide +kernel
theorem dX7_sure_80 : decode cX7_sure 80 = .ok (.iload_n 3, 1) := by decide +kernel
theorem dX7_sure_81 : decode cX7_sure 81 = .ok (.invokevirtual 146, 3) := by decide +kernel
theorem dX7_sure_84 : decode cX7_sure 84 = .ok (.getfield 214, 3) := by decide +kernel
theorem dX7_sure_87 : decode cX7_sure 87 = .ok (.ifCond .eq 8, 3) := by decide +kernel
theorem dX7_sure_90 : decode cX7_sure 90 = .ok (.iload 6, 2) := by decide +kernel
theorem dX7_sure_92 : decode cX7_sure 92 = .ok (.goto 4, 3) := by decide +kernel
theorem dX7_sure_95 : decode cX7_sure 95 = .ok (.iconst 0, 1) := by decide +kernel
theorem dX7_sure_96 : decode cX7_sure 96 = .ok (.iload 4, 2) := by decide +kernel
theorem dX7_sure_98 : decode cX7_sure 98 = .ok (.invokevirtual 249, 3) := by decide +kernel
theorem dX7_sure_101 : decode cX7_sure 101 = .ok (.lreturn, 1) := by decide +kernel
theorem dX7_changes_0 : decode cX7_changes 0 = .ok (.aload_n 0, 1) := by decide +kernel
theorem dX7_changes_1 : decode cX7_changes 1 = .ok (.iload_n 1, 1) := by decide +kernel
theorem dX7_changes_2 : decode cX7_changes 2 = .ok (.invokevirtual 139, 3) := by decide +kernel
theorem dX7_changes_5 : decode cX7_changes 5 = .ok (.astore 5, 2) := by decide +kernel
theorem dX7_changes_7 : decode cX7_changes 7 = .ok (.aload_n 0, 1) := by decide +kernel
theorem dX7_changes_8 : decode cX7_changes 8 = .ok (.iload_n 2, 1) := by decide +kernel
theorem dX7_changes_9 : decode cX7_changes 9 = .ok (.invokevirtual 139, 3) := by decide +kernel
theorem dX7_changes_12 : decode cX7_changes 12 = .ok (.astore 6, 2) := by decide +kernel
theorem dX7_changes_14 : decode cX7_changes 14 = .ok (.aload 5, 2) := by decide +kernel
theorem dX7_changes_16 : decode cX7_changes 16 = .ok (.ifnull 16, 3) := by decide +kernel
theorem dX7_changes_19 : decode cX7_changes 19 = .ok (.aload 6, 2) := by decide +kernel
theorem dX7_changes_21 : decode cX7_changes 21 = .ok (.ifnull 11, 3) := by decide +kernel
theorem dX7_changes_24 : decode cX7_changes 24 = .ok (.aload_n 0, 1) := by decide +kernel
theorem dX7_changes_25 : decode cX7_changes 25 = .ok (.iload_n 3, 1) := by decide +kernel
theorem dX7_changes_26 : decode cX7_changes 26 = .ok (.invokevirtual 93, 3) := by decide +kernel
theorem dX7_changes_29 : decode cX7_changes 29 = .ok (.ifCond .ne 5, 3) := by decide +kernel
theorem dX7_changes_32 : decode cX7_changes 32 = .ok (.iconst (-1), 1) := by decide +kernel
theorem dX7_changes_33 : decode cX7_changes 33 = .ok (.ireturn, 1) := by decide +kernel
theorem dX7_changes_34 : decode cX7_changes 34 = .ok (.iload 4, 2) := by decide +kernel
theorem dX7_changes_36 : decode cX7_changes 36 = .ok (.invokestatic 73, 3) := by decide +kernel
theorem dX7_changes_39 : decode cX7_changes 39 = .ok (.ifCond .ne 6, 3) := by decide +kernel
theorem dX7_changes_42 : decode cX7_changes 42 = .ok (.bipush (-2), 2) := by decide +kernel
theorem dX7_changes_44 : decode cX7_changes 44 = .ok (.ireturn, 1) := by decide +kernel
theorem dX7_changes_45 : decode cX7_changes 45 = .ok (.iconst 0, 1) := by decide +kernel
theorem dX7_changes_46 : decode cX7_changes 46 = .ok (.istore 7, 2) := by decide +kernel
theorem dX7_changes_48 : decode cX7_changes 48 = .ok (.aload_n 0, 1) := by decide +kernel
theorem dX7_changes_49 : decode cX7_changes 49 = .ok (.getfield 12, 3) := by decide +kernel
theorem dX7_changes_52 : decode cX7_changes 52 = .ok (.getfield 96, 3) := by decide +kernel
theorem dX7_changes_55 : decode cX7_changes 55 = .ok (.ifCond .ne 7, 3) := by decide +kernel
theorem dX7_changes_58 : decode cX7_changes 58 = .ok (.iconst 0, 1) := by decide +kernel
theorem dX7_changes_59 : decode cX7_changes 59 = .ok (.goto 14, 3) := by decide +kernel
theorem dX7_changes_62 : decode cX7_changes 62 = .ok (.aload_n 0, 1) := by decide +kernel
theorem dX7_changes_63 : decode cX7_changes 63 = .ok (.aload 5, 2) := by decide +kernel
theorem dX7_changes_65 : decode cX7_changes 65 = .ok (.iload_n 3, 1) := by decide +kernel
theorem dX7_changes_66 : decode cX7_changes 66 = .ok (.iconst 0, 1) := by decide +kernel
theorem dX7_changes_67 : decode cX7_changes 67 = .ok (.invokevirtual 146, 3) := by decide +kernel
theorem dX7_changes_70 : decode cX7_changes 70 = .ok (.getfield 163, 3) := by decide +kernel
theorem dX7_changes_73 : decode cX7_changes 73 = .ok (.istore 8, 2) := by decide +kernel
theorem dX7_changes_75 : decode cX7_changes 75 = .ok (.iconst 1, 1) := by decide +kernel
theorem dX7_changes_76 : decode cX7_changes 76 = .ok (.istore 9, 2) := by decide +kernel
theorem dX7_changes_78 : decode cX7_changes 78 = .ok (.iload 9, 2) := by decide +kernel
theorem dX7_changes_80 : decode cX7_changes 80 = .ok (.aload_n 0, 1) := by decide +kernel
theorem dX7_changes_81 : decode cX7_changes 81 = .ok (.getfield 12, 3) := by decide +kernel
theorem dX7_changes_84 : decode cX7_changes 84 = .ok (.getfield 96, 3) := by decide +kernel
theorem dX7_changes_87 : decode cX7_changes 87 = .ok (.if_icmp .ge 57, 3) := by decide +kernel
theorem dX7_changes_90 : decode cX7_changes 90 = .ok (.aload_n 0, 1) := by decide +kernel
theorem dX7_changes_91 : decode cX7_changes 91 = .ok (.iload 9, 2) := by decide +kernel
theorem dX7_changes_93 : decode cX7_changes 93 = .ok (.iconst 2, 1) := by decide +kernel
theorem dX7_changes_94 : decode cX7_changes 94 = .ok (.irem, 1) := by decide +kernel
theorem dX7_changes_95 : decode cX7_changes 95 = .ok (.ifCond .ne 8, 3) := by decide +kernel
theorem dX7_changes_98 : decode cX7_changes 98 = .ok (.aload 5, 2) := by decide +kernel
theorem dX7_changes_100 : decode cX7_changes 100 = .ok (.goto 5, 3) := by decide +kernel
theorem dX7_changes_103 : decode cX7_changes 103 = .ok (.aload 6, 2) := by decide +kernel
theorem dX7_changes_105 : decode cX7_changes 105 = .ok (.iload_n 3, 1) := by decide +kernel
theorem dX7_changes_106 : decode cX7_changes 106 = .ok (.iconst 2, 1) := by decide +kernel
theorem dX7_changes_107 : decode cX7_changes 107 = .ok (.iload 9, 2) := by decide +kernel
theorem dX7_changes_109 : decode cX7_changes 109 = .ok (.imul, 1) := by decide +kernel
theorem dX7_changes_110 : decode cX7_changes 110 = .ok (.invokevirtual 146, 3) := by decide +kernel
theorem dX7_changes_113 : decode cX7_changes 113 = .ok (.getfield 163, 3) := by decide +kernel
theorem dX7_changes_116 : decode cX7_changes 116 = .ok (.istore 10, 2) := by decide +kernel
theorem dX7_changes_118 : decode cX7_changes 118 = .ok (.iload 10, 2) := by decide +kernel
theorem dX7_changes_120 : decode cX7_changes 120 = .ok (.iload 8, 2) := by decide +kernel
theorem dX7_changes_122 : decode cX7_changes 122 = .ok (.isub, 1) := by decide +kernel
theorem dX7_changes_123 : decode cX7_changes 123 = .ok (.invokestatic 206, 3) := by decide +kernel
theorem dX7_changes_126 : decode cX7_changes 126 = .ok (.iload 4, 2) := by decide +kernel
theorem dX7_changes_128 : decode cX7_changes 128 = .ok (.if_icmp .le 6, 3) := by decide +kernel
theorem dX7_changes_131 : decode cX7_changes 131 = .ok (.iinc 7 1, 3) := by decide +kernel
theorem dX7_changes_134 : decode cX7_changes 134 = .ok (.iload 10, 2) := by decide +kernel
theorem dX7_changes_136 : decode cX7_changes 136 = .ok (.istore 8, 2) := by decide +kernel
theorem dX7_changes_138 : decode cX7_changes 138 = .ok (.iinc 9 1, 3) := by decide +kernel
theorem dX7_changes_141 : decode cX7_changes 141 = .ok (.goto (-63), 3) := by decide +kernel
theorem dX7_changes_144 : decode cX7_changes 144 = .ok (.iload 7, 2) := by decide +kernel
theorem dX7_changes_146 : decode cX7_changes 146 = .ok (.ireturn, 1) := by decide +kernel
theorem dX7_judge_0 : decode cX7_judge 0 = .ok (.aload_n 0, 1) := by decide +kernel
theorem dX7_judge_1 : decode cX7_judge 1 = .ok (.iload_n 3, 1) := by decide +kernel
theorem dX7_judge_2 : decode cX7_judge 2 = .ok (.invokevirtual 139, 3) := by decide +kernel
theorem dX7_judge_5 : decode cX7_judge 5 = .ok (.astore 5, 2) := by decide +kernel
theorem dX7_judge_7 : decode cX7_judge 7 = .ok (.iload_n 1, 1) := by decide +kernel
theorem dX7_judge_8 : decode cX7_judge 8 = .ok (.invokestatic 253, 3) := by decide +kernel
theorem dX7_judge_11 : decode cX7_judge 11 = .ok (.ifCond .eq 17, 3) := by decide +kernel
theorem dX7_judge_14 : decode cX7_judge 14 = .ok (.aload 5, 2) := by decide +kernel
theorem dX7_judge_16 : decode cX7_judge 16 = .ok (.ifnull 12, 3) := by decide +kernel
theorem dX7_judge_19 : decode cX7_judge 19 = .ok (.aload_n 0, 1) := by decide +kernel
theorem dX7_judge_20 : decode cX7_judge 20 = .ok (.iload 4, 2) := by decide +kernel
theorem dX7_judge_22 : decode cX7_judge 22 = .ok (.invokevirtual 93, 3) := by decide +kernel
theorem dX7_judge_25 : decode cX7_judge 25 = .ok (.ifCond .ne 5, 3) := by decide +kernel
theorem dX7_judge_28 : decode cX7_judge 28 = .ok (.iconst (-1), 1) := by decide +kernel
theorem dX7_judge_29 : decode cX7_judge 29 = .ok (.ireturn, 1) := by decide +kernel
theorem dX7_judge_30 : decode cX7_judge 30 = .ok (.aload_n 0, 1) := by decide +kernel
theorem dX7_judge_31 : decode cX7_judge 31 = .ok (.getfield 60, 3) := by decide +kernel
theorem dX7_judge_34 : decode cX7_judge 34 = .ok (.iload_n 1, 1) := by decide +kernel
theorem dX7_judge_35 : decode cX7_judge 35 = .ok (.aaload, 1) := by decide +kernel
theorem dX7_judge_36 : decode cX7_judge 36 = .ok (.astore 6, 2) := by decide +kernel
theorem dX7_judge_38 : decode cX7_judge 38 = .ok (.aload 6, 2) := by decide +kernel
theorem dX7_judge_40 : decode cX7_judge 40 = .ok (.invokevirtual 256, 3) := by decide +kernel
theorem dX7_judge_43 : decode cX7_judge 43 = .ok (.ifCond .eq 15, 3) := by decide +kernel
theorem dX7_judge_46 : decode cX7_judge 46 = .ok (.aload 6, 2) := by decide +kernel
theorem dX7_judge_48 : decode cX7_judge 48 = .ok (.getfield 260, 3) := by decide +kernel
theorem dX7_judge_51 : decode cX7_judge 51 = .ok (.iconst 1, 1) := by decide +kernel
theorem dX7_judge_52 : decode cX7_judge 52 = .ok (.if_icmp .eq 6, 3) := by decide +kernel
theorem dX7_judge_55 : decode cX7_judge 55 = .ok (.bipush (-12), 2) := by decide +kernel
theorem dX7_judge_57 : decode cX7_judge 57 = .ok (.ireturn, 1) := by decide +kernel
theorem dX7_judge_58 : decode cX7_judge 58 = .ok (.aload_n 0, 1) := by decide +kernel
theorem dX7_judge_59 : decode cX7_judge 59 = .ok (.getfield 12, 3) := by decide +kernel
theorem dX7_judge_62 : decode cX7_judge 62 = .ok (.invokevirtual 211, 3) := by decide +kernel
theorem dX7_judge_65 : decode cX7_judge 65 = .ok (.istore 7, 2) := by decide +kernel
theorem dX7_judge_67 : decode cX7_judge 67 = .ok (.iconst 0, 1) := by decide +kernel
theorem dX7_judge_68 : decode cX7_judge 68 = .ok (.istore 8, 2) := by decide +kernel
theorem dX7_judge_70 : decode cX7_judge 70 = .ok (.iload 8, 2) := by decide +kernel
theorem dX7_judge_72 : decode cX7_judge 72 = .ok (.iload 7, 2) := by decide +kernel
theorem dX7_judge_74 : decode cX7_judge 74 = .ok (.if_icmp .ge 58, 3) := by decide +kernel
theorem dX7_judge_77 : decode cX7_judge 77 = .ok (.aload 6, 2) := by decide +kernel
theorem dX7_judge_79 : decode cX7_judge 79 = .ok (.iload_n 2, 1) := by decide +kernel
theorem dX7_judge_80 : decode cX7_judge 80 = .ok (.iload 8, 2) := by decide +kernel
theorem dX7_judge_82 : decode cX7_judge 82 = .ok (.iadd, 1) := by decide +kernel
theorem dX7_judge_83 : decode cX7_judge 83 = .ok (.invokevirtual 263, 3) := by decide +kernel
theorem dX7_judge_86 : decode cX7_judge 86 = .ok (.ifCond .ne 9, 3) := by decide +kernel
theorem dX7_judge_89 : decode cX7_judge 89 = .ok (.bipush 100, 2) := by decide +kernel
theorem dX7_judge_91 : decode cX7_judge 91 = .ok (.iload 8, 2) := by decide +kernel
theorem dX7_judge_93 : decode cX7_judge 93 = .ok (.iadd, 1) := by decide +kernel
theorem dX7_judge_94 : decode cX7_judge 94 = .ok (.ireturn, 1) := by decide +kernel
theorem dX7_judge_95 : decode cX7_judge 95 = .ok (.aload 6, 2) := by decide +kernel
theorem dX7_judge_97 : decode cX7_judge 97 = .ok (.getfield 266, 3) := by decide +kernel
theorem dX7_judge_100 : decode cX7_judge 100 = .ok (.iload_n 2, 1) := by decide +kernel
theorem dX7_judge_101 : decode cX7_judge 101 = .ok (.iload 8, 2) := by decide +kernel
theorem dX7_judge_103 : decode cX7_judge 103 = .ok (.iadd, 1) := by decide +kernel
theorem dX7_judge_104 : decode cX7_judge 104 = .ok (.laload, 1) := by decide +kernel
theorem dX7_judge_105 : decode cX7_judge 105 = .ok (.aload_n 0, 1) := by decide +kernel
theorem dX7_judge_106 : decode cX7_judge 106 = .ok (.aload 5, 2) := by decide +kernel
theorem dX7_judge_108 : decode cX7_judge 108 = .ok (.iload 4, 2) := by decide +kernel
theorem dX7_judge_110 : decode cX7_judge 110 = .ok (.iload 8, 2) := by decide +kernel
theorem dX7_judge_112 : decode cX7_judge 112 = .ok (.invokevirtual 146, 3) := by decide +kernel
theorem dX7_judge_115 : decode cX7_judge 115 = .ok (.getfield 163, 3) := by decide +kernel
theorem dX7_judge_118 : decode cX7_judge 118 = .ok (.i2l, 1) := by decide +kernel
theorem dX7_judge_119 : decode cX7_judge 119 = .ok (.lcmp, 1) := by decide +kernel
theorem dX7_judge_120 : decode cX7_judge 120 = .ok (.ifCond .eq 6, 3) := by decide +kernel
theorem dX7_judge_123 : decode cX7_judge 123 = .ok (.iload 8, 2) := by decide +kernel
theorem dX7_judge_125 : decode cX7_judge 125 = .ok (.ireturn, 1) := by decide +kernel
theorem dX7_judge_126 : decode cX7_judge 126 = .ok (.iinc 8 1, 3) := by decide +kernel
theorem dX7_judge_129 : decode cX7_judge 129 = .ok (.goto (-59), 3) := by decide +kernel
theorem dX7_judge_132 : decode cX7_judge 132 = .ok (.bipush (-5), 2) := by decide +kernel
theorem dX7_judge_134 : decode cX7_judge 134 = .ok (.ireturn, 1) := by decide +kernel
theorem dX7_image_0 : decode cX7_image 0 = .ok (.aload_n 0, 1) := by decide +kernel
theorem dX7_image_1 : decode cX7_image 1 = .ok (.getfield 18, 3) := by decide +kernel
theorem dX7_image_4 : decode cX7_image 4 = .ok (.aload_n 0, 1) := by decide +kernel
theorem dX7_image_5 : decode cX7_image 5 = .ok (.getfield 12, 3) := by decide +kernel
theorem dX7_image_8 : decode cX7_image 8 = .ok (.invokevirtual 270, 3) := by decide +kernel
theorem dX7_image_11 : decode cX7_image 11 = .ok (.aload_n 0, 1) := by decide +kernel
theorem dX7_image_12 : decode cX7_image 12 = .ok (.iconst 1, 1) := by decide +kernel
theorem dX7_image_13 : decode cX7_image 13 = .ok (.putfield 274, 3) := by decide +kernel
theorem dX7_image_16 : decode cX7_image 16 = .ok (.aload_n 0, 1) := by decide +kernel
theorem dX7_image_17 : decode cX7_image 17 = .ok (.getfield 12, 3) := by decide +kernel
theorem dX7_image_20 : decode cX7_image 20 = .ok (.getfield 96, 3) := by decide +kernel
theorem dX7_image_23 : decode cX7_image 23 = .ok (.ireturn, 1) := by decide +kernel
theorem dX7_undo_0 : decode cX7_undo 0 = .ok (.aload_n 0, 1) := by decide +kernel
theorem dX7_undo_1 : decode cX7_undo 1 = .ok (.getfield 274, 3) := by decide +kernel
theorem dX7_undo_4 : decode cX7_undo 4 = .ok (.ifCond .ne 6, 3) := by decide +kernel
theorem dX7_undo_7 : decode cX7_undo 7 = .ok (.bipush (-3), 2) := by decide +kernel
theorem dX7_undo_9 : decode cX7_undo 9 = .ok (.ireturn, 1) := by decide +kernel
theorem dX7_undo_10 : decode cX7_undo 10 = .ok (.aload_n 0, 1) := by decide +kernel
theorem dX7_undo_11 : decode cX7_undo 11 = .ok (.getfield 12, 3) := by decide +kernel
theorem dX7_undo_14 : decode cX7_undo 14 = .ok (.aload_n 0, 1) := by decide +kernel
theorem dX7_undo_15 : decode cX7_undo 15 = .ok (.getfield 18, 3) := by decide +kernel
theorem dX7_undo_18 : decode cX7_undo 18 = .ok (.invokevirtual 270, 3) := by decide +kernel
theorem dX7_undo_21 : decode cX7_undo 21 = .ok (.aload_n 0, 1) := by decide +kernel
theorem dX7_undo_22 : decode cX7_undo 22 = .ok (.getfield 12, 3) := by decide +kernel
theorem dX7_undo_25 : decode cX7_undo 25 = .ok (.getfield 96, 3) := by decide +kernel
theorem dX7_undo_28 : decode cX7_undo 28 = .ok (.ireturn, 1) := by decide +kernel
theorem dX7_act_0 : decode cX7_act 0 = .ok (.aload_n 0, 1) := by decide +kernel
theorem dX7_act_1 : decode cX7_act 1 = .ok (.iload_n 1, 1) := by decide +kernel
theorem dX7_act_2 : decode cX7_act 2 = .ok (.invokevirtual 139, 3) := by decide +kernel
theorem dX7_act_5 : decode cX7_act 5 = .ok (.astore 4, 2) := by decide +kernel
theorem dX7_act_7 : decode cX7_act 7 = .ok (.aload_n 0, 1) := by decide +kernel
theorem dX7_act_8 : decode cX7_act 8 = .ok (.getfield 54, 3) := by decide +kernel
theorem dX7_act_11 : decode cX7_act 11 = .ok (.invokevirtual 277, 3) := by decide +kernel
theorem dX7_act_14 : decode cX7_act 14 = .ok (.aload 4, 2) := by decide +kernel
theorem dX7_act_16 : decode cX7_act 16 = .ok (.ifnull 12, 3) := by decide +kernel
theorem dX7_act_19 : decode cX7_act 19 = .ok (.iload_n 2, 1) := by decide +kernel
theorem dX7_act_20 : decode cX7_act 20 = .ok (.ifCond .lt 8, 3) := by decide +kernel
theorem dX7_act_23 : decode cX7_act 23 = .ok (.iload_n 2, 1) := by decide +kernel
theorem dX7_act_24 : decode cX7_act 24 = .ok (.iconst 2, 1) := by decide +kernel
theorem dX7_act_25 : decode cX7_act 25 = .ok (.if_icmp .le 5, 3) := by decide +kernel
theorem dX7_act_28 : decode cX7_act 28 = .ok (.iconst 0, 1) := by decide +kernel
theorem dX7_act_29 : decode cX7_act 29 = .ok (.ireturn, 1) := by decide +kernel
theorem dX7_act_30 : decode cX7_act 30 = .ok (.aload_n 0, 1) := by decide +kernel
theorem dX7_act_31 : decode cX7_act 31 = .ok (.getfield 54, 3) := by decide +kernel
theorem dX7_act_34 : decode cX7_act 34 = .ok (.aload 4, 2) := by decide +kernel
theorem dX7_act_36 : decode cX7_act 36 = .ok (.iload_n 2, 1) := by decide +kernel
theorem dX7_act_37 : decode cX7_act 37 = .ok (.iload_n 3, 1) := by decide +kernel
theorem dX7_act_38 : decode cX7_act 38 = .ok (.invokevirtual 280, 3) := by decide +kernel
theorem dX7_act_41 : decode cX7_act 41 = .ok (.ireturn, 1) := by decide +kernel
theorem dX7_trace_0 : decode cX7_trace 0 = .ok (.iload_n 1, 1) := by decide +kernel
theorem dX7_trace_1 : decode cX7_trace 1 = .ok (.ifCond .lt 14, 3) := by decide +kernel
theorem dX7_trace_4 : decode cX7_trace 4 = .ok (.iload_n 1, 1) := by decide +kernel
theorem dX7_trace_5 : decode cX7_trace 5 = .ok (.aload_n 0, 1) := by decide +kernel
theorem dX7_trace_6 : decode cX7_trace 6 = .ok (.getfield 54, 3) := by decide +kernel
theorem dX7_trace_9 : decode cX7_trace 9 = .ok (.invokevirtual 283, 3) := by decide +kernel
theorem dX7_trace_12 : decode cX7_trace 12 = .ok (.if_icmp .lt 5, 3) := by decide +kernel
theorem dX7_trace_15 : decode cX7_trace 15 = .ok (.iconst (-1), 1) := by decide +kernel
theorem dX7_trace_16 : decode cX7_trace 16 = .ok (.ireturn, 1) := by decide +kernel
theorem dX7_trace_17 : decode cX7_trace 17 = .ok (.aload_n 0, 1) := by decide +kernel
theorem dX7_trace_18 : decode cX7_trace 18 = .ok (.getfield 54, 3) := by decide +kernel
theorem dX7_trace_21 : decode cX7_trace 21 = .ok (.getfield 286, 3) := by decide +kernel
theorem dX7_trace_24 : decode cX7_trace 24 = .ok (.iload_n 1, 1) := by decide +kernel
theorem dX7_trace_25 : decode cX7_trace 25 = .ok (.iaload, 1) := by decide +kernel
theorem dX7_trace_26 : decode cX7_trace 26 = .ok (.ireturn, 1) := by decide +kernel
theorem dX7_taken_0 : decode cX7_taken 0 = .ok (.iload_n 2, 1) := by decide +kernel
theorem dX7_taken_1 : decode cX7_taken 1 = .ok (.ifCond .lt 9, 3) := by decide +kernel
theorem dX7_taken_4 : decode cX7_taken 4 = .ok (.iload_n 2, 1) := by decide +kernel
theorem dX7_taken_5 : decode cX7_taken 5 = .ok (.bipush 6, 2) := by decide +kernel
theorem dX7_taken_7 : decode cX7_taken 7 = .ok (.if_icmp .le 6, 3) := by decide +kernel
theorem dX7_taken_10 : decode cX7_taken 10 = .ok (.bipush (-2), 2) := by decide +kernel
theorem dX7_taken_12 : decode cX7_taken 12 = .ok (.ireturn, 1) := by decide +kernel
theorem dX7_taken_13 : decode cX7_taken 13 = .ok (.aload_n 0, 1) := by decide +kernel
theorem dX7_taken_14 : decode cX7_taken 14 = .ok (.iload_n 1, 1) := by decide +kernel
theorem dX7_taken_15 : decode cX7_taken 15 = .ok (.invokevirtual 139, 3) := by decide +kernel
theorem dX7_taken_18 : decode cX7_taken 18 = .ok (.astore_n 3, 1) := by decide +kernel
theorem dX7_taken_19 : decode cX7_taken 19 = .ok (.aload_n 3, 1) := by decide +kernel
theorem dX7_taken_20 : decode cX7_taken 20 = .ok (.ifnonnull 6, 3) := by decide +kernel
theorem dX7_taken_23 : decode cX7_taken 23 = .ok (.bipush (-11), 2) := by decide +kernel
theorem dX7_taken_25 : decode cX7_taken 25 = .ok (.ireturn, 1) := by decide +kernel
theorem dX7_taken_26 : decode cX7_taken 26 = .ok (.aload_n 3, 1) := by decide +kernel
theorem dX7_taken_27 : decode cX7_taken 27 = .ok (.iload_n 2, 1) := by decide +kernel
theorem dX7_taken_28 : decode cX7_taken 28 = .ok (.invokevirtual 289, 3) := by decide +kernel
theorem dX7_taken_31 : decode cX7_taken 31 = .ok (.ifCond .eq 10, 3) := by decide +kernel
theorem dX7_taken_34 : decode cX7_taken 34 = .ok (.aload_n 3, 1) := by decide +kernel
theorem dX7_taken_35 : decode cX7_taken 35 = .ok (.getfield 292, 3) := by decide +kernel
theorem dX7_taken_38 : decode cX7_taken 38 = .ok (.goto 5, 3) := by decide +kernel
theorem dX7_taken_41 : decode cX7_taken 41 = .ok (.bipush (-12), 2) := by decide +kernel
theorem dX7_taken_43 : decode cX7_taken 43 = .ok (.ireturn, 1) := by decide +kernel
theorem dX7_count_0 : decode cX7_count 0 = .ok (.iload_n 1, 1) := by decide +kernel
theorem dX7_count_1 : decode cX7_count 1 = .ok (.tableswitch 99 0 7 #[47, 52, 60, 65, 70, 75, 83, 91], 47) := by decide +kernel
theorem dX7_count_48 : decode cX7_count 48 = .ok (.aload_n 0, 1) := by decide +kernel
theorem dX7_count_49 : decode cX7_count 49 = .ok (.getfield 90, 3) := by decide +kernel
theorem dX7_count_52 : decode cX7_count 52 = .ok (.ireturn, 1) := by decide +kernel
theorem dX7_count_53 : decode cX7_count 53 = .ok (.aload_n 0, 1) := by decide +kernel
theorem dX7_count_54 : decode cX7_count 54 = .ok (.getfield 12, 3) := by decide +kernel
theorem dX7_count_57 : decode cX7_count 57 = .ok (.getfield 96, 3) := by decide +kernel
theorem dX7_count_60 : decode cX7_count 60 = .ok (.ireturn, 1) := by decide +kernel
theorem dX7_count_61 : decode cX7_count 61 = .ok (.aload_n 0, 1) := by decide +kernel
theorem dX7_count_62 : decode cX7_count 62 = .ok (.getfield 105, 3) := by decide +kernel
theorem dX7_count_65 : decode cX7_count 65 = .ok (.ireturn, 1) := by decide +kernel
theorem dX7_count_66 : decode cX7_count 66 = .ok (.aload_n 0, 1) := by decide +kernel
theorem dX7_count_67 : decode cX7_count 67 = .ok (.getfield 133, 3) := by decide +kernel
theorem dX7_count_70 : decode cX7_count 70 = .ok (.ireturn, 1) := by decide +kernel
theorem dX7_count_71 : decode cX7_count 71 = .ok (.aload_n 0, 1) := by decide +kernel
theorem dX7_count_72 : decode cX7_count 72 = .ok (.getfield 102, 3) := by decide +kernel
theorem dX7_count_75 : decode cX7_count 75 = .ok (.ireturn, 1) := by decide +kernel
theorem dX7_count_76 : decode cX7_count 76 = .ok (.aload_n 0, 1) := by decide +kernel
theorem dX7_count_77 : decode cX7_count 77 = .ok (.getfield 54, 3) := by decide +kernel
theorem dX7_count_80 : decode cX7_count 80 = .ok (.getfield 295, 3) := by decide +kernel
theorem dX7_count_83 : decode cX7_count 83 = .ok (.ireturn, 1) := by decide +kernel
theorem dX7_count_84 : decode cX7_count 84 = .ok (.aload_n 0, 1) := by decide +kernel
theorem dX7_count_85 : decode cX7_count 85 = .ok (.getfield 12, 3) := by decide +kernel
theorem dX7_count_88 : decode cX7_count 88 = .ok (.getfield 77, 3) := by decide +kernel
theorem dX7_count_91 : decode cX7_count 91 = .ok (.ireturn, 1) := by decide +kernel
theorem dX7_count_92 : decode cX7_count 92 = .ok (.aload_n 0, 1) := by decide +kernel
theorem dX7_count_93 : decode cX7_count 93 = .ok (.getfield 12, 3) := by decide +kernel
theorem dX7_count_96 : decode cX7_count 96 = .ok (.getfield 83, 3) := by decide +kernel
theorem dX7_count_99 : decode cX7_count 99 = .ok (.ireturn, 1) := by decide +kernel
theorem dX7_count_100 : decode cX7_count 100 = .ok (.bipush (-2), 2) := by decide +kernel
theorem dX7_count_102 : decode cX7_count 102 = .ok (.ireturn, 1) := by decide +kernel
theorem dX7_tape_0 : decode cX7_tape 0 = .ok (.iload_n 1, 1) := by decide +kernel
theorem dX7_tape_1 : decode cX7_tape 1 = .ok (.invokestatic 253, 3) := by decide +kernel
theorem dX7_tape_4 : decode cX7_tape 4 = .ok (.ifCond .ne 5, 3) := by decide +kernel
theorem dX7_tape_7 : decode cX7_tape 7 = .ok (.iconst (-1), 1) := by decide +kernel
theorem dX7_tape_8 : decode cX7_tape 8 = .ok (.ireturn, 1) := by decide +kernel
theorem dX7_tape_9 : decode cX7_tape 9 = .ok (.iload_n 2, 1) := by decide +kernel
theorem dX7_tape_10 : decode cX7_tape 10 = .ok (.iconst (-1), 1) := by decide +kernel
theorem dX7_tape_11 : decode cX7_tape 11 = .ok (.if_icmp .lt 8, 3) := by decide +kernel
theorem dX7_tape_14 : decode cX7_tape 14 = .ok (.iload_n 2, 1) := by decide +kernel
theorem dX7_tape_15 : decode cX7_tape 15 = .ok (.iconst 4, 1) := by decide +kernel
theorem dX7_tape_16 : decode cX7_tape 16 = .ok (.if_icmp .le 6, 3) := by decide +kernel
theorem dX7_tape_19 : decode cX7_tape 19 = .ok (.bipush (-2), 2) := by decide +kernel
theorem dX7_tape_21 : decode cX7_tape 21 = .ok (.ireturn, 1) := by decide +kernel
theorem dX7_tape_22 : decode cX7_tape 22 = .ok (.iload_n 2, 1) := by decide +kernel
theorem dX7_tape_23 : decode cX7_tape 23 = .ok (.iconst (-1), 1) := by decide +kernel
theorem dX7_tape_24 : decode cX7_tape 24 = .ok (.if_icmp .ne 16, 3) := by decide +kernel
theorem dX7_tape_27 : decode cX7_tape 27 = .ok (.aload_n 0, 1) := by decide +kernel
theorem dX7_tape_28 : decode cX7_tape 28 = .ok (.getfield 60, 3) := by decide +kernel
theorem dX7_tape_31 : decode cX7_tape 31 = .ok (.iload_n 1, 1) := by decide +kernel
theorem dX7_tape_32 : decode cX7_tape 32 = .ok (.aaload, 1) := by decide +kernel
theorem dX7_tape_33 : decode cX7_tape 33 = .ok (.iload_n 2, 1) := by decide +kernel
theorem dX7_tape_34 : decode cX7_tape 34 = .ok (.iconst 0, 1) := by decide +kernel
theorem dX7_tape_35 : decode cX7_tape 35 = .ok (.invokevirtual 298, 3) := by decide +kernel
theorem dX7_tape_38 : decode cX7_tape 38 = .ok (.iconst 1, 1) := by decide +kernel
theorem dX7_tape_39 : decode cX7_tape 39 = .ok (.ireturn, 1) := by decide +kernel
theorem dX7_tape_40 : decode cX7_tape 40 = .ok (.iload_n 3, 1) := by decide +kernel
theorem dX7_tape_41 : decode cX7_tape 41 = .ok (.bipush 60, 2) := by decide +kernel
theorem dX7_tape_43 : decode cX7_tape 43 = .ok (.if_icmp .le 6, 3) := by decide +kernel
theorem dX7_tape_46 : decode cX7_tape 46 = .ok (.bipush (-2), 2) := by decide +kernel
theorem dX7_tape_48 : decode cX7_tape 48 = .ok (.ireturn, 1) := by decide +kernel
theorem dX7_tape_49 : decode cX7_tape 49 = .ok (.iload_n 3, 1) := by decide +kernel
theorem dX7_tape_50 : decode cX7_tape 50 = .ok (.ifCond .ge 6, 3) := by decide +kernel
theorem dX7_tape_53 : decode cX7_tape 53 = .ok (.bipush (-14), 2) := by decide +kernel
theorem dX7_tape_55 : decode cX7_tape 55 = .ok (.ireturn, 1) := by decide +kernel
theorem dX7_tape_56 : decode cX7_tape 56 = .ok (.aload_n 0, 1) := by decide +kernel
theorem dX7_tape_57 : decode cX7_tape 57 = .ok (.getfield 60, 3) := by decide +kernel
theorem dX7_tape_60 : decode cX7_tape 60 = .ok (.iload_n 1, 1) := by decide +kernel
theorem dX7_tape_61 : decode cX7_tape 61 = .ok (.aaload, 1) := by decide +kernel
theorem dX7_tape_62 : decode cX7_tape 62 = .ok (.iload_n 2, 1) := by decide +kernel
theorem dX7_tape_63 : decode cX7_tape 63 = .ok (.iload_n 3, 1) := by decide +kernel
theorem dX7_tape_64 : decode cX7_tape 64 = .ok (.invokevirtual 298, 3) := by decide +kernel
theorem dX7_tape_67 : decode cX7_tape 67 = .ok (.iconst 1, 1) := by decide +kernel
theorem dX7_tape_68 : decode cX7_tape 68 = .ok (.ireturn, 1) := by decide +kernel
theorem dX7_item_0 : decode cX7_item 0 = .ok (.iload_n 1, 1) := by decide +kernel
theorem dX7_item_1 : decode cX7_item 1 = .ok (.invokestatic 253, 3) := by decide +kernel
theorem dX7_item_4 : decode cX7_item 4 = .ok (.ifCond .ne 5, 3) := by decide +kernel
theorem dX7_item_7 : decode cX7_item 7 = .ok (.iconst (-1), 1) := by decide +kernel
theorem dX7_item_8 : decode cX7_item 8 = .ok (.ireturn, 1) := by decide +kernel
theorem dX7_item_9 : decode cX7_item 9 = .ok (.aload_n 0, 1) := by decide +kernel
theorem dX7_item_10 : decode cX7_item 10 = .ok (.getfield 60, 3) := by decide +kernel
theorem dX7_item_13 : decode cX7_item 13 = .ok (.iload_n 1, 1) := by decide +kernel
theorem dX7_item_14 : decode cX7_item 14 = .ok (.aaload, 1) := by decide +kernel
theorem dX7_item_15 : decode cX7_item 15 = .ok (.astore 5, 2) := by decide +kernel
theorem dX7_item_17 : decode cX7_item 17 = .ok (.aload 5, 2) := by decide +kernel
theorem dX7_item_19 : decode cX7_item 19 = .ok (.invokevirtual 256, 3) := by decide +kernel
theorem dX7_item_22 : decode cX7_item 22 = .ok (.ifCond .ne 6, 3) := by decide +kernel
theorem dX7_item_25 : decode cX7_item 25 = .ok (.bipush (-11), 2) := by decide +kernel
theorem dX7_item_27 : decode cX7_item 27 = .ok (.ireturn, 1) := by decide +kernel
theorem dX7_item_28 : decode cX7_item 28 = .ok (.aload 5, 2) := by decide +kernel
theorem dX7_item_30 : decode cX7_item 30 = .ok (.iload_n 2, 1) := by decide +kernel
theorem dX7_item_31 : decode cX7_item 31 = .ok (.invokevirtual 263, 3) := by decide +kernel
theorem dX7_item_34 : decode cX7_item 34 = .ok (.ifCond .ne 6, 3) := by decide +kernel
theorem dX7_item_37 : decode cX7_item 37 = .ok (.bipush (-13), 2) := by decide +kernel
theorem dX7_item_39 : decode cX7_item 39 = .ok (.ireturn, 1) := by decide +kernel
theorem dX7_item_40 : decode cX7_item 40 = .ok (.aload 5, 2) := by decide +kernel
theorem dX7_item_42 : decode cX7_item 42 = .ok (.iload_n 2, 1) := by decide +kernel
theorem dX7_item_43 : decode cX7_item 43 = .ok (.lload_n 3, 1) := by decide +kernel
theorem dX7_item_44 : decode cX7_item 44 = .ok (.invokevirtual 302, 3) := by decide +kernel
theorem dX7_item_47 : decode cX7_item 47 = .ok (.iconst 1, 1) := by decide +kernel
theorem dX7_item_48 : decode cX7_item 48 = .ok (.ireturn, 1) := by decide +kernel
theorem dX7_read_0 : decode cX7_read 0 = .ok (.iload_n 1, 1) := by decide +kernel
theorem dX7_read_1 : decode cX7_read 1 = .ok (.invokestatic 253, 3) := by decide +kernel
theorem dX7_read_4 : decode cX7_read 4 = .ok (.ifCond .eq 16, 3) := by decide +kernel
theorem dX7_read_7 : decode cX7_read 7 = .ok (.aload_n 0, 1) := by decide +kernel
theorem dX7_read_8 : decode cX7_read 8 = .ok (.getfield 60, 3) := by decide +kernel
theorem dX7_read_11 : decode cX7_read 11 = .ok (.iload_n 1, 1) := by decide +kernel
theorem dX7_read_12 : decode cX7_read 12 = .ok (.aaload, 1) := by decide +kernel
theorem dX7_read_13 : decode cX7_read 13 = .ok (.iload_n 2, 1) := by decide +kernel
theorem dX7_read_14 : decode cX7_read 14 = .ok (.invokevirtual 263, 3) := by decide +kernel
theorem dX7_read_17 : decode cX7_read 17 = .ok (.ifCond .ne 7, 3) := by decide +kernel
theorem dX7_read_20 : decode cX7_read 20 = .ok (.ldc2_w 240, 3) := by decide +kernel
theorem dX7_read_23 : decode cX7_read 23 = .ok (.lreturn, 1) := by decide +kernel
theorem dX7_read_24 : decode cX7_read 24 = .ok (.aload_n 0, 1) := by decide +kernel
theorem dX7_read_25 : decode cX7_read 25 = .ok (.getfield 60, 3) := by decide +kernel
theorem dX7_read_28 : decode cX7_read 28 = .ok (.iload_n 1, 1) := by decide +kernel
theorem dX7_read_29 : decode cX7_read 29 = .ok (.aaload, 1) := by decide +kernel
theorem dX7_read_30 : decode cX7_read 30 = .ok (.getfield 266, 3) := by decide +kernel
theorem dX7_read_33 : decode cX7_read 33 = .ok (.iload_n 2, 1) := by decide +kernel
theorem dX7_read_34 : decode cX7_read 34 = .ok (.laload, 1) := by decide +kernel
theorem dX7_read_35 : decode cX7_read 35 = .ok (.lreturn, 1) := by decide +kernel
theorem dX7_shift_0 : decode cX7_shift 0 = .ok (.iload_n 1, 1) := by decide +kernel
theorem dX7_shift_1 : decode cX7_shift 1 = .ok (.invokestatic 253, 3) := by decide +kernel
theorem dX7_shift_4 : decode cX7_shift 4 = .ok (.ifCond .eq 10, 3) := by decide +kernel
theorem dX7_shift_7 : decode cX7_shift 7 = .ok (.iload_n 3, 1) := by decide +kernel
theorem dX7_shift_8 : decode cX7_shift 8 = .ok (.invokestatic 253, 3) := by decide +kernel
theorem dX7_shift_11 : decode cX7_shift 11 = .ok (.ifCond .ne 5, 3) := by decide +kernel
theorem dX7_shift_14 : decode cX7_shift 14 = .ok (.iconst (-1), 1) := by decide +kernel
theorem dX7_shift_15 : decode cX7_shift 15 = .ok (.ireturn, 1) := by decide +kernel
theorem dX7_shift_16 : decode cX7_shift 16 = .ok (.aload_n 0, 1) := by decide +kernel
theorem dX7_shift_17 : decode cX7_shift 17 = .ok (.getfield 60, 3) := by decide +kernel
theorem dX7_shift_20 : decode cX7_shift 20 = .ok (.iload_n 1, 1) := by decide +kernel
theorem dX7_shift_21 : decode cX7_shift 21 = .ok (.aaload, 1) := by decide +kernel
theorem dX7_shift_22 : decode cX7_shift 22 = .ok (.astore 6, 2) := by decide +kernel
theorem dX7_shift_24 : decode cX7_shift 24 = .ok (.aload_n 0, 1) := by decide +kernel
theorem dX7_shift_25 : decode cX7_shift 25 = .ok (.getfield 60, 3) := by decide +kernel
theorem dX7_shift_28 : decode cX7_shift 28 = .ok (.iload_n 3, 1) := by decide +kernel
theorem dX7_shift_29 : decode cX7_shift 29 = .ok (.aaload, 1) := by decide +kernel
theorem dX7_shift_30 : decode cX7_shift 30 = .ok (.astore 7, 2) := by decide +kernel
theorem dX7_shift_32 : decode cX7_shift 32 = .ok (.aload 6, 2) := by decide +kernel
theorem dX7_shift_34 : decode cX7_shift 34 = .ok (.invokevirtual 256, 3) := by decide +kernel
theorem dX7_shift_37 : decode cX7_shift 37 = .ok (.ifCond .eq 11, 3) := by decide +kernel
theorem dX7_shift_40 : decode cX7_shift 40 = .ok (.aload 7, 2) := by decide +kernel
theorem dX7_shift_42 : decode cX7_shift 42 = .ok (.invokevirtual 256, 3) := by decide +kernel
theorem dX7_shift_45 : decode cX7_shift 45 = .ok (.ifCond .ne 6, 3) := by decide +kernel
theorem dX7_shift_48 : decode cX7_shift 48 = .ok (.bipush (-11), 2) := by decide +kernel
theorem dX7_shift_50 : decode cX7_shift 50 = .ok (.ireturn, 1) := by decide +kernel
theorem dX7_shift_51 : decode cX7_shift 51 = .ok (.aload 6, 2) := by decide +kernel
theorem dX7_shift_53 : decode cX7_shift 53 = .ok (.getfield 260, 3) := by decide +kernel
theorem dX7_shift_56 : decode cX7_shift 56 = .ok (.aload 7, 2) := by decide +kernel
theorem dX7_shift_58 : decode cX7_shift 58 = .ok (.getfield 260, 3) := by decide +kernel
theorem dX7_shift_61 : decode cX7_shift 61 = .ok (.if_icmp .eq 6, 3) := by decide +kernel
theorem dX7_shift_64 : decode cX7_shift 64 = .ok (.bipush (-12), 2) := by decide +kernel
theorem dX7_shift_66 : decode cX7_shift 66 = .ok (.ireturn, 1) := by decide +kernel
theorem dX7_shift_67 : decode cX7_shift 67 = .ok (.aload 6, 2) := by decide +kernel
theorem dX7_shift_69 : decode cX7_shift 69 = .ok (.iload_n 2, 1) := by decide +kernel
theorem dX7_shift_70 : decode cX7_shift 70 = .ok (.iload 5, 2) := by decide +kernel
theorem dX7_shift_72 : decode cX7_shift 72 = .ok (.invokevirtual 306, 3) := by decide +kernel
theorem dX7_shift_75 : decode cX7_shift 75 = .ok (.ifCond .eq 15, 3) := by decide +kernel
theorem dX7_shift_78 : decode cX7_shift 78 = .ok (.aload 7, 2) := by decide +kernel
theorem dX7_shift_80 : decode cX7_shift 80 = .ok (.iload 4, 2) := by decide +kernel
theorem dX7_shift_82 : decode cX7_shift 82 = .ok (.iload 5, 2) := by decide +kernel
theorem dX7_shift_84 : decode cX7_shift 84 = .ok (.invokevirtual 306, 3) := by decide +kernel
theorem dX7_shift_87 : decode cX7_shift 87 = .ok (.ifCond .ne 6, 3) := by decide +kernel
theorem dX7_shift_90 : decode cX7_shift 90 = .ok (.bipush (-13), 2) := by decide +kernel
theorem dX7_shift_92 : decode cX7_shift 92 = .ok (.ireturn, 1) := by decide +kernel
theorem dX7_shift_93 : decode cX7_shift 93 = .ok (.aload 6, 2) := by decide +kernel
theorem dX7_shift_95 : decode cX7_shift 95 = .ok (.getfield 266, 3) := by decide +kernel
theorem dX7_shift_98 : decode cX7_shift 98 = .ok (.iload_n 2, 1) := by decide +kernel
theorem dX7_shift_99 : decode cX7_shift 99 = .ok (.aload 7, 2) := by decide +kernel
theorem dX7_shift_101 : decode cX7_shift 101 = .ok (.getfield 266, 3) := by decide +kernel
theorem dX7_shift_104 : decode cX7_shift 104 = .ok (.iload 4, 2) := by decide +kernel
theorem dX7_shift_106 : decode cX7_shift 106 = .ok (.iload 5, 2) := by decide +kernel
theorem dX7_shift_108 : decode cX7_shift 108 = .ok (.invokestatic 310, 3) := by decide +kernel
theorem dX7_shift_111 : decode cX7_shift 111 = .ok (.iload 5, 2) := by decide +kernel
theorem dX7_shift_113 : decode cX7_shift 113 = .ok (.ireturn, 1) := by decide +kernel
theorem dX7_isPlace_0 : decode cX7_isPlace 0 = .ok (.iload_n 0, 1) := by decide +kernel
theorem dX7_isPlace_1 : decode cX7_isPlace 1 = .ok (.ifCond .lt 13, 3) := by decide +kernel
theorem dX7_isPlace_4 : decode cX7_isPlace 4 = .ok (.iload_n 0, 1) := by decide +kernel
theorem dX7_isPlace_5 : decode cX7_isPlace 5 = .ok (.bipush 40, 2) := by decide +kernel
theorem dX7_isPlace_7 : decode cX7_isPlace 7 = .ok (.if_icmp .gt 7, 3) := by decide +kernel
theorem dX7_isPlace_10 : decode cX7_isPlace 10 = .ok (.iconst 1, 1) := by decide +kernel
theorem dX7_isPlace_11 : decode cX7_isPlace 11 = .ok (.goto 4, 3) := by decide +kernel
theorem dX7_isPlace_14 : decode cX7_isPlace 14 = .ok (.iconst 0, 1) := by decide +kernel
theorem dX7_isPlace_15 : decode cX7_isPlace 15 = .ok (.ireturn, 1) := by decide +kernel
theorem dX7_isTenth_0 : decode cX7_isTenth 0 = .ok (.iload_n 0, 1) := by decide +kernel
theorem dX7_isTenth_1 : decode cX7_isTenth 1 = .ok (.ifCond .lt 13, 3) := by decide +kernel
theorem dX7_isTenth_4 : decode cX7_isTenth 4 = .ok (.iload_n 0, 1) := by decide +kernel
theorem dX7_isTenth_5 : decode cX7_isTenth 5 = .ok (.bipush 39, 2) := by decide +kernel
theorem dX7_isTenth_7 : decode cX7_isTenth 7 = .ok (.if_icmp .gt 7, 3) := by decide +kernel
theorem dX7_isTenth_10 : decode cX7_isTenth 10 = .ok (.iconst 1, 1) := by decide +kernel
theorem dX7_isTenth_11 : decode cX7_isTenth 11 = .ok (.goto 4, 3) := by decide +kernel
theorem dX7_isTenth_14 : decode cX7_isTenth 14 = .ok (.iconst 0, 1) := by decide +kernel
theorem dX7_isTenth_15 : decode cX7_isTenth 15 = .ok (.ireturn, 1) := by decide +kernel
theorem dX7_isLetter_0 : decode cX7_isLetter 0 = .ok (.iload_n 0, 1) := by decide +kernel
theorem dX7_isLetter_1 : decode cX7_isLetter 1 = .ok (.ifCond .lt 13, 3) := by decide +kernel
theorem dX7_isLetter_4 : decode cX7_isLetter 4 = .ok (.iload_n 0, 1) := by decide +kernel
theorem dX7_isLetter_5 : decode cX7_isLetter 5 = .ok (.bipush 10, 2) := by decide +kernel
theorem dX7_isLetter_7 : decode cX7_isLetter 7 = .ok (.if_icmp .ge 7, 3) := by decide +kernel
theorem dX7_isLetter_10 : decode cX7_isLetter 10 = .ok (.iconst 1, 1) := by decide +kernel
theorem dX7_isLetter_11 : decode cX7_isLetter 11 = .ok (.goto 4, 3) := by decide +kernel
theorem dX7_isLetter_14 : decode cX7_isLetter 14 = .ok (.iconst 0, 1) := by decide +kernel
theorem dX7_isLetter_15 : decode cX7_isLetter 15 = .ok (.ireturn, 1) := by decide +kernel
theorem dX7_isTape_0 : decode cX7_isTape 0 = .ok (.iload_n 0, 1) := by decide +kernel
theorem dX7_isTape_1 : decode cX7_isTape 1 = .ok (.ifCond .lt 13, 3) := by decide +kernel
theorem dX7_isTape_4 : decode cX7_isTape 4 = .ok (.iload_n 0, 1) := by decide +kernel
theorem dX7_isTape_5 : decode cX7_isTape 5 = .ok (.bipush 6, 2) := by decide +kernel
theorem dX7_isTape_7 : decode cX7_isTape 7 = .ok (.if_icmp .ge 7, 3) := by decide +kernel
theorem dX7_isTape_10 : decode cX7_isTape 10 = .ok (.iconst 1, 1) := by decide +kernel
theorem dX7_isTape_11 : decode cX7_isTape 11 = .ok (.goto 4, 3) := by decide +kernel
theorem dX7_isTape_14 : decode cX7_isTape 14 = .ok (.iconst 0, 1) := by decide +kernel
theorem dX7_isTape_15 : decode cX7_isTape 15 = .ok (.ireturn, 1) := by decide +kernel
theorem dX7_isSeat_0 : decode cX7_isSeat 0 = .ok (.iload_n 1, 1) := by decide +kernel
theorem dX7_isSeat_1 : decode cX7_isSeat 1 = .ok (.ifCond .lt 15, 3) := by decide +kernel
theorem dX7_isSeat_4 : decode cX7_isSeat 4 = .ok (.iload_n 1, 1) := by decide +kernel
theorem dX7_isSeat_5 : decode cX7_isSeat 5 = .ok (.aload_n 0, 1) := by decide +kernel
theorem dX7_isSeat_6 : decode cX7_isSeat 6 = .ok (.getfield 90, 3) := by decide +kernel
theorem dX7_isSeat_9 : decode cX7_isSeat 9 = .ok (.if_icmp .ge 7, 3) := by decide +kernel
theorem dX7_isSeat_12 : decode cX7_isSeat 12 = .ok (.iconst 1, 1) := by decide +kernel
theorem dX7_isSeat_13 : decode cX7_isSeat 13 = .ok (.goto 4, 3) := by decide +kernel
theorem dX7_isSeat_16 : decode cX7_isSeat 16 = .ok (.iconst 0, 1) := by decide +kernel
theorem dX7_isSeat_17 : decode cX7_isSeat 17 = .ok (.ireturn, 1) := by decide +kernel
theorem dX7_isSaid_0 : decode cX7_isSaid 0 = .ok (.iload_n 1, 1) := by decide +kernel
theorem dX7_isSaid_1 : decode cX7_isSaid 1 = .ok (.ifCond .lt 18, 3) := by decide +kernel
theorem dX7_isSaid_4 : decode cX7_isSaid 4 = .ok (.iload_n 1, 1) := by decide +kernel
theorem dX7_isSaid_5 : decode cX7_isSaid 5 = .ok (.aload_n 0, 1) := by decide +kernel
theorem dX7_isSaid_6 : decode cX7_isSaid 6 = .ok (.getfield 12, 3) := by decide +kernel
theorem dX7_isSaid_9 : decode cX7_isSaid 9 = .ok (.getfield 96, 3) := by decide +kernel
theorem dX7_isSaid_12 : decode cX7_isSaid 12 = .ok (.if_icmp .ge 7, 3) := by decide +kernel
theorem dX7_isSaid_15 : decode cX7_isSaid 15 = .ok (.iconst 1, 1) := by decide +kernel
theorem dX7_isSaid_16 : decode cX7_isSaid 16 = .ok (.goto 4, 3) := by decide +kernel
theorem dX7_isSaid_19 : decode cX7_isSaid 19 = .ok (.iconst 0, 1) := by decide +kernel
theorem dX7_isSaid_20 : decode cX7_isSaid 20 = .ok (.ireturn, 1) := by decide +kernel
theorem dX7_voiceAt_0 : decode cX7_voiceAt 0 = .ok (.iload_n 1, 1) := by decide +kernel
theorem dX7_voiceAt_1 : decode cX7_voiceAt 1 = .ok (.ifCond .lt 20, 3) := by decide +kernel
theorem dX7_voiceAt_4 : decode cX7_voiceAt 4 = .ok (.iload_n 1, 1) := by decide +kernel
theorem dX7_voiceAt_5 : decode cX7_voiceAt 5 = .ok (.aload_n 0, 1) := by decide +kernel
theorem dX7_voiceAt_6 : decode cX7_voiceAt 6 = .ok (.getfield 133, 3) := by decide +kernel
theorem dX7_voiceAt_9 : decode cX7_voiceAt 9 = .ok (.if_icmp .ge 12, 3) := by decide +kernel
theorem dX7_voiceAt_12 : decode cX7_voiceAt 12 = .ok (.aload_n 0, 1) := by decide +kernel
theorem dX7_voiceAt_13 : decode cX7_voiceAt 13 = .ok (.getfield 47, 3) := by decide +kernel
theorem dX7_voiceAt_16 : decode cX7_voiceAt 16 = .ok (.iload_n 1, 1) := by decide +kernel
theorem dX7_voiceAt_17 : decode cX7_voiceAt 17 = .ok (.aaload, 1) := by decide +kernel
theorem dX7_voiceAt_18 : decode cX7_voiceAt 18 = .ok (.goto 4, 3) := by decide +kernel
theorem dX7_voiceAt_21 : decode cX7_voiceAt 21 = .ok (.aconst_null, 1) := by decide +kernel
theorem dX7_voiceAt_22 : decode cX7_voiceAt 22 = .ok (.areturn, 1) := by decide +kernel
theorem dX7_holding_0 : decode cX7_holding 0 = .ok (.aload_n 0, 1) := by decide +kernel
theorem dX7_holding_1 : decode cX7_holding 1 = .ok (.getfield 34, 3) := by decide +kernel
theorem dX7_holding_4 : decode cX7_holding 4 = .ok (.aload_n 0, 1) := by decide +kernel
theorem dX7_holding_5 : decode cX7_holding 5 = .ok (.getfield 12, 3) := by decide +kernel
theorem dX7_holding_8 : decode cX7_holding 8 = .ok (.getfield 112, 3) := by decide +kernel
theorem dX7_holding_11 : decode cX7_holding 11 = .ok (.aaload, 1) := by decide +kernel
theorem dX7_holding_12 : decode cX7_holding 12 = .ok (.areturn, 1) := by decide +kernel
theorem dX7_lookAt_0 : decode cX7_lookAt 0 = .ok (.aload_n 0, 1) := by decide +kernel
theorem dX7_lookAt_1 : decode cX7_lookAt 1 = .ok (.getfield 25, 3) := by decide +kernel
theorem dX7_lookAt_4 : decode cX7_lookAt 4 = .ok (.iload_n 2, 1) := by decide +kernel
theorem dX7_lookAt_5 : decode cX7_lookAt 5 = .ok (.iaload, 1) := by decide +kernel
theorem dX7_lookAt_6 : decode cX7_lookAt 6 = .ok (.aload_n 0, 1) := by decide +kernel
theorem dX7_lookAt_7 : decode cX7_lookAt 7 = .ok (.getfield 12, 3) := by decide +kernel
theorem dX7_lookAt_10 : decode cX7_lookAt 10 = .ok (.getfield 77, 3) := by decide +kernel
theorem dX7_lookAt_13 : decode cX7_lookAt 13 = .ok (.isub, 1) := by decide +kernel
theorem dX7_lookAt_14 : decode cX7_lookAt 14 = .ok (.invokestatic 206, 3) := by decide +kernel
theorem dX7_lookAt_17 : decode cX7_lookAt 17 = .ok (.istore 4, 2) := by decide +kernel
theorem dX7_lookAt_19 : decode cX7_lookAt 19 = .ok (.aload_n 0, 1) := by decide +kernel
theorem dX7_lookAt_20 : decode cX7_lookAt 20 = .ok (.getfield 67, 3) := by decide +kernel
theorem dX7_lookAt_23 : decode cX7_lookAt 23 = .ok (.aload_n 0, 1) := by decide +kernel
theorem dX7_lookAt_24 : decode cX7_lookAt 24 = .ok (.getfield 21, 3) := by decide +kernel
theorem dX7_lookAt_27 : decode cX7_lookAt 27 = .ok (.iload_n 2, 1) := by decide +kernel
theorem dX7_lookAt_28 : decode cX7_lookAt 28 = .ok (.iaload, 1) := by decide +kernel
theorem dX7_lookAt_29 : decode cX7_lookAt 29 = .ok (.iload 4, 2) := by decide +kernel
theorem dX7_lookAt_31 : decode cX7_lookAt 31 = .ok (.aload_n 1, 1) := by decide +kernel
theorem dX7_lookAt_32 : decode cX7_lookAt 32 = .ok (.getfield 292, 3) := by decide +kernel
theorem dX7_lookAt_35 : decode cX7_lookAt 35 = .ok (.aload_n 0, 1) := by decide +kernel
theorem dX7_lookAt_36 : decode cX7_lookAt 36 = .ok (.getfield 12, 3) := by decide +kernel
theorem dX7_lookAt_39 : decode cX7_lookAt 39 = .ok (.iload_n 3, 1) := by decide +kernel
theorem dX7_lookAt_40 : decode cX7_lookAt 40 = .ok (.invokevirtual 316, 3) := by decide +kernel
theorem dX7_lookAt_43 : decode cX7_lookAt 43 = .ok (.iload_n 3, 1) := by decide +kernel
theorem dX7_lookAt_44 : decode cX7_lookAt 44 = .ok (.invokevirtual 319, 3) := by decide +kernel
theorem dX7_lookAt_47 : decode cX7_lookAt 47 = .ok (.aload_n 0, 1) := by decide +kernel
theorem dX7_lookAt_48 : decode cX7_lookAt 48 = .ok (.getfield 67, 3) := by decide +kernel
theorem dX7_lookAt_51 : decode cX7_lookAt 51 = .ok (.aload_n 1, 1) := by decide +kernel
theorem dX7_lookAt_52 : decode cX7_lookAt 52 = .ok (.aload_n 0, 1) := by decide +kernel
theorem dX7_lookAt_53 : decode cX7_lookAt 53 = .ok (.invokevirtual 118, 3) := by decide +kernel
theorem dX7_lookAt_56 : decode cX7_lookAt 56 = .ok (.iconst 0, 1) := by decide +kernel
theorem dX7_lookAt_57 : decode cX7_lookAt 57 = .ok (.aload_n 0, 1) := by decide +kernel
theorem dX7_lookAt_58 : decode cX7_lookAt 58 = .ok (.getfield 67, 3) := by decide +kernel
theorem dX7_lookAt_61 : decode cX7_lookAt 61 = .ok (.getfield 323, 3) := by decide +kernel
theorem dX7_lookAt_64 : decode cX7_lookAt 64 = .ok (.invokevirtual 326, 3) := by decide +kernel
theorem dX7_lookAt_67 : decode cX7_lookAt 67 = .ok (.invokevirtual 330, 3) := by decide +kernel
theorem dX7_lookAt_70 : decode cX7_lookAt 70 = .ok (.putfield 150, 3) := by decide +kernel
theorem dX7_lookAt_73 : decode cX7_lookAt 73 = .ok (.aload_n 0, 1) := by decide +kernel
theorem dX7_lookAt_74 : decode cX7_lookAt 74 = .ok (.getfield 67, 3) := by decide +kernel
theorem dX7_lookAt_77 : decode cX7_lookAt 77 = .ok (.aload_n 0, 1) := by decide +kernel
theorem dX7_lookAt_78 : decode cX7_lookAt 78 = .ok (.invokevirtual 118, 3) := by decide +kernel
theorem dX7_lookAt_81 : decode cX7_lookAt 81 = .ok (.iconst 1, 1) := by decide +kernel
theorem dX7_lookAt_82 : decode cX7_lookAt 82 = .ok (.aload_n 0, 1) := by decide +kernel
theorem dX7_lookAt_83 : decode cX7_lookAt 83 = .ok (.getfield 67, 3) := by decide +kernel
theorem dX7_lookAt_86 : decode cX7_lookAt 86 = .ok (.getfield 323, 3) := by decide +kernel
theorem dX7_lookAt_89 : decode cX7_lookAt 89 = .ok (.invokevirtual 326, 3) := by decide +kernel
theorem dX7_lookAt_92 : decode cX7_lookAt 92 = .ok (.putfield 153, 3) := by decide +kernel
theorem dX7_lookAt_95 : decode cX7_lookAt 95 = .ok (.aload_n 0, 1) := by decide +kernel
theorem dX7_lookAt_96 : decode cX7_lookAt 96 = .ok (.getfield 67, 3) := by decide +kernel
theorem dX7_lookAt_99 : decode cX7_lookAt 99 = .ok (.aload_n 1, 1) := by decide +kernel
theorem dX7_lookAt_100 : decode cX7_lookAt 100 = .ok (.aload_n 0, 1) := by decide +kernel
theorem dX7_lookAt_101 : decode cX7_lookAt 101 = .ok (.getfield 12, 3) := by decide +kernel
theorem dX7_lookAt_104 : decode cX7_lookAt 104 = .ok (.getfield 77, 3) := by decide +kernel
theorem dX7_lookAt_107 : decode cX7_lookAt 107 = .ok (.aload_n 0, 1) := by decide +kernel
theorem dX7_lookAt_108 : decode cX7_lookAt 108 = .ok (.getfield 12, 3) := by decide +kernel
theorem dX7_lookAt_111 : decode cX7_lookAt 111 = .ok (.getfield 83, 3) := by decide +kernel
theorem dX7_lookAt_114 : decode cX7_lookAt 114 = .ok (.invokevirtual 203, 3) := by decide +kernel
theorem dX7_lookAt_117 : decode cX7_lookAt 117 = .ok (.putfield 156, 3) := by decide +kernel
theorem dX7_lookAt_120 : decode cX7_lookAt 120 = .ok (.aload_n 0, 1) := by decide +kernel
theorem dX7_lookAt_121 : decode cX7_lookAt 121 = .ok (.getfield 67, 3) := by decide +kernel
theorem dX7_lookAt_124 : decode cX7_lookAt 124 = .ok (.aload_n 0, 1) := by decide +kernel
theorem dX7_lookAt_125 : decode cX7_lookAt 125 = .ok (.aload_n 1, 1) := by decide +kernel
theorem dX7_lookAt_126 : decode cX7_lookAt 126 = .ok (.iload_n 3, 1) := by decide +kernel
theorem dX7_lookAt_127 : decode cX7_lookAt 127 = .ok (.invokevirtual 188, 3) := by decide +kernel
theorem dX7_lookAt_130 : decode cX7_lookAt 130 = .ok (.ifCond .eq 35, 3) := by decide +kernel
theorem dX7_lookAt_133 : decode cX7_lookAt 133 = .ok (.aload_n 0, 1) := by decide +kernel
theorem dX7_lookAt_134 : decode cX7_lookAt 134 = .ok (.getfield 12, 3) := by decide +kernel
theorem dX7_lookAt_137 : decode cX7_lookAt 137 = .ok (.getfield 83, 3) := by decide +kernel
theorem dX7_lookAt_140 : decode cX7_lookAt 140 = .ok (.aload_n 0, 1) := by decide +kernel
theorem dX7_lookAt_141 : decode cX7_lookAt 141 = .ok (.getfield 67, 3) := by decide +kernel
theorem dX7_lookAt_144 : decode cX7_lookAt 144 = .ok (.getfield 156, 3) := by decide +kernel
theorem dX7_lookAt_147 : decode cX7_lookAt 147 = .ok (.isub, 1) := by decide +kernel
theorem dX7_lookAt_148 : decode cX7_lookAt 148 = .ok (.invokestatic 206, 3) := by decide +kernel
theorem dX7_lookAt_151 : decode cX7_lookAt 151 = .ok (.aload_n 0, 1) := by decide +kernel
theorem dX7_lookAt_152 : decode cX7_lookAt 152 = .ok (.getfield 67, 3) := by decide +kernel
theorem dX7_lookAt_155 : decode cX7_lookAt 155 = .ok (.invokevirtual 199, 3) := by decide +kernel
theorem dX7_lookAt_158 : decode cX7_lookAt 158 = .ok (.if_icmp .gt 7, 3) := by decide +kernel
theorem dX7_lookAt_161 : decode cX7_lookAt 161 = .ok (.iconst 1, 1) := by decide +kernel
theorem dX7_lookAt_162 : decode cX7_lookAt 162 = .ok (.goto 4, 3) := by decide +kernel
theorem dX7_lookAt_165 : decode cX7_lookAt 165 = .ok (.iconst 0, 1) := by decide +kernel
theorem dX7_lookAt_166 : decode cX7_lookAt 166 = .ok (.putfield 214, 3) := by decide +kernel
theorem dX7_lookAt_169 : decode cX7_lookAt 169 = .ok (.aload_n 0, 1) := by decide +kernel
theorem dX7_lookAt_170 : decode cX7_lookAt 170 = .ok (.getfield 67, 3) := by decide +kernel
theorem dX7_lookAt_173 : decode cX7_lookAt 173 = .ok (.aload_n 0, 1) := by decide +kernel
theorem dX7_lookAt_174 : decode cX7_lookAt 174 = .ok (.getfield 67, 3) := by decide +kernel
theorem dX7_lookAt_177 : decode cX7_lookAt 177 = .ok (.getfield 214, 3) := by decide +kernel
theorem dX7_lookAt_180 : decode cX7_lookAt 180 = .ok (.ifCond .eq 26, 3) := by decide +kernel
theorem dX7_lookAt_183 : decode cX7_lookAt 183 = .ok (.aload_n 0, 1) := by decide +kernel
theorem dX7_lookAt_184 : decode cX7_lookAt 184 = .ok (.aload_n 1, 1) := by decide +kernel
theorem dX7_lookAt_185 : decode cX7_lookAt 185 = .ok (.aload_n 0, 1) := by decide +kernel
theorem dX7_lookAt_186 : decode cX7_lookAt 186 = .ok (.getfield 12, 3) := by decide +kernel
theorem dX7_lookAt_189 : decode cX7_lookAt 189 = .ok (.getfield 86, 3) := by decide +kernel
theorem dX7_lookAt_192 : decode cX7_lookAt 192 = .ok (.invokevirtual 191, 3) := by decide +kernel
theorem dX7_lookAt_195 : decode cX7_lookAt 195 = .ok (.iload_n 3, 1) := by decide +kernel
theorem dX7_lookAt_196 : decode cX7_lookAt 196 = .ok (.invokevirtual 195, 3) := by decide +kernel
theorem dX7_lookAt_199 : decode cX7_lookAt 199 = .ok (.ifCond .eq 7, 3) := by decide +kernel
theorem dX7_lookAt_202 : decode cX7_lookAt 202 = .ok (.iconst 1, 1) := by decide +kernel
theorem dX7_lookAt_203 : decode cX7_lookAt 203 = .ok (.goto 4, 3) := by decide +kernel
theorem dX7_lookAt_206 : decode cX7_lookAt 206 = .ok (.iconst 0, 1) := by decide +kernel
theorem dX7_lookAt_207 : decode cX7_lookAt 207 = .ok (.putfield 159, 3) := by decide +kernel
theorem dX7_lookAt_210 : decode cX7_lookAt 210 = .ok (.aload_n 0, 1) := by decide +kernel
theorem dX7_lookAt_211 : decode cX7_lookAt 211 = .ok (.getfield 67, 3) := by decide +kernel
theorem dX7_lookAt_214 : decode cX7_lookAt 214 = .ok (.aload_n 0, 1) := by decide +kernel
theorem dX7_lookAt_215 : decode cX7_lookAt 215 = .ok (.getfield 12, 3) := by decide +kernel
theorem dX7_lookAt_218 : decode cX7_lookAt 218 = .ok (.getfield 77, 3) := by decide +kernel
theorem dX7_lookAt_221 : decode cX7_lookAt 221 = .ok (.aload_n 0, 1) := by decide +kernel
theorem dX7_lookAt_222 : decode cX7_lookAt 222 = .ok (.getfield 12, 3) := by decide +kernel
theorem dX7_lookAt_225 : decode cX7_lookAt 225 = .ok (.getfield 83, 3) := by decide +kernel
theorem dX7_lookAt_228 : decode cX7_lookAt 228 = .ok (.invokevirtual 333, 3) := by decide +kernel
theorem dX7_lookAt_231 : decode cX7_lookAt 231 = .ok (.aload_n 0, 1) := by decide +kernel
theorem dX7_lookAt_232 : decode cX7_lookAt 232 = .ok (.getfield 67, 3) := by decide +kernel
theorem dX7_lookAt_235 : decode cX7_lookAt 235 = .ok (.areturn, 1) := by decide +kernel
theorem dX7_canJoin_0 : decode cX7_canJoin 0 = .ok (.iload_n 2, 1) := by decide +kernel
theorem dX7_canJoin_1 : decode cX7_canJoin 1 = .ok (.aload_n 0, 1) := by decide +kernel
theorem dX7_canJoin_2 : decode cX7_canJoin 2 = .ok (.getfield 12, 3) := by decide +kernel
theorem dX7_canJoin_5 : decode cX7_canJoin 5 = .ok (.invokevirtual 211, 3) := by decide +kernel
theorem dX7_canJoin_8 : decode cX7_canJoin 8 = .ok (.if_icmp .ge 15, 3) := by decide +kernel
theorem dX7_canJoin_11 : decode cX7_canJoin 11 = .ok (.aload_n 1, 1) := by decide +kernel
theorem dX7_canJoin_12 : decode cX7_canJoin 12 = .ok (.iload_n 2, 1) := by decide +kernel
theorem dX7_canJoin_13 : decode cX7_canJoin 13 = .ok (.invokevirtual 336, 3) := by decide +kernel
theorem dX7_canJoin_16 : decode cX7_canJoin 16 = .ok (.ifCond .ne 7, 3) := by decide +kernel
theorem dX7_canJoin_19 : decode cX7_canJoin 19 = .ok (.iconst 1, 1) := by decide +kernel
theorem dX7_canJoin_20 : decode cX7_canJoin 20 = .ok (.goto 4, 3) := by decide +kernel
theorem dX7_canJoin_23 : decode cX7_canJoin 23 = .ok (.iconst 0, 1) := by decide +kernel
theorem dX7_canJoin_24 : decode cX7_canJoin 24 = .ok (.ireturn, 1) := by decide +kernel
theorem dX7_later_0 : decode cX7_later 0 = .ok (.lload_n 0, 1) := by decide +kernel
theorem dX7_later_1 : decode cX7_later 1 = .ok (.iload_n 2, 1) := by decide +kernel
theorem dX7_later_2 : decode cX7_later 2 = .ok (.lshl, 1) := by decide +kernel
theorem dX7_later_3 : decode cX7_later 3 = .ok (.ldc2_w 81, 3) := by decide +kernel
theorem dX7_later_6 : decode cX7_later 6 = .ok (.land, 1) := by decide +kernel
theorem dX7_later_7 : decode cX7_later 7 = .ok (.lreturn, 1) := by decide +kernel
theorem dX7_movingAround_0 : decode cX7_movingAround 0 = .ok (.aload_n 0, 1) := by decide +kernel
theorem dX7_movingAround_1 : decode cX7_movingAround 1 = .ok (.invokevirtual 118, 3) := by decide +kernel
theorem dX7_movingAround_4 : decode cX7_movingAround 4 = .ok (.getfield 130, 3) := by decide +kernel
theorem dX7_movingAround_7 : decode cX7_movingAround 7 = .ok (.istore 4, 2) := by decide +kernel
theorem dX7_movingAround_9 : decode cX7_movingAround 9 = .ok (.iconst 0, 1) := by decide +kernel
theorem dX7_movingAround_10 : decode cX7_movingAround 10 = .ok (.iload_n 3, 1) := by decide +kernel
theorem dX7_movingAround_11 : decode cX7_movingAround 11 = .ok (.iload 4, 2) := by decide +kernel
theorem dX7_movingAround_13 : decode cX7_movingAround 13 = .ok (.isub, 1) := by decide +kernel
theorem dX7_movingAround_14 : decode cX7_movingAround 14 = .ok (.invokestatic 339, 3) := by decide +kernel
theorem dX7_movingAround_17 : decode cX7_movingAround 17 = .ok (.istore 5, 2) := by decide +kernel
theorem dX7_movingAround_19 : decode cX7_movingAround 19 = .ok (.bipush 39, 2) := by decide +kernel
theorem dX7_movingAround_21 : decode cX7_movingAround 21 = .ok (.iload_n 3, 1) := by decide +kernel
theorem dX7_movingAround_22 : decode cX7_movingAround 22 = .ok (.iload 4, 2) := by decide +kernel
theorem dX7_movingAround_24 : decode cX7_movingAround 24 = .ok (.iadd, 1) := by decide +kernel
theorem dX7_movingAround_25 : decode cX7_movingAround 25 = .ok (.invokestatic 342, 3) := by decide +kernel
theorem dX7_movingAround_28 : decode cX7_movingAround 28 = .ok (.istore 6, 2) := by decide +kernel
theorem dX7_movingAround_30 : decode cX7_movingAround 30 = .ok (.lload_n 1, 1) := by decide +kernel
theorem dX7_movingAround_31 : decode cX7_movingAround 31 = .ok (.iload 5, 2) := by decide +kernel
theorem dX7_movingAround_33 : decode cX7_movingAround 33 = .ok (.lushr, 1) := by decide +kernel
theorem dX7_movingAround_34 : decode cX7_movingAround 34 = .ok (.lconst 1, 1) := by decide +kernel
theorem dX7_movingAround_35 : decode cX7_movingAround 35 = .ok (.iload 6, 2) := by decide +kernel
theorem dX7_movingAround_37 : decode cX7_movingAround 37 = .ok (.iload 5, 2) := by decide +kernel
theorem dX7_movingAround_39 : decode cX7_movingAround 39 = .ok (.isub, 1) := by decide +kernel
theorem dX7_movingAround_40 : decode cX7_movingAround 40 = .ok (.iconst 1, 1) := by decide +kernel
theorem dX7_movingAround_41 : decode cX7_movingAround 41 = .ok (.iadd, 1) := by decide +kernel
theorem dX7_movingAround_42 : decode cX7_movingAround 42 = .ok (.lshl, 1) := by decide +kernel
theorem dX7_movingAround_43 : decode cX7_movingAround 43 = .ok (.lconst 1, 1) := by decide +kernel
theorem dX7_movingAround_44 : decode cX7_movingAround 44 = .ok (.lsub, 1) := by decide +kernel
theorem dX7_movingAround_45 : decode cX7_movingAround 45 = .ok (.land, 1) := by decide +kernel
theorem dX7_movingAround_46 : decode cX7_movingAround 46 = .ok (.lreturn, 1) := by decide +kernel
theorem dX7_isMoving_0 : decode cX7_isMoving 0 = .ok (.aload_n 0, 1) := by decide +kernel
theorem dX7_isMoving_1 : decode cX7_isMoving 1 = .ok (.lload_n 1, 1) := by decide +kernel
theorem dX7_isMoving_2 : decode cX7_isMoving 2 = .ok (.iload_n 3, 1) := by decide +kernel
theorem dX7_isMoving_3 : decode cX7_isMoving 3 = .ok (.invokevirtual 242, 3) := by decide +kernel
theorem dX7_isMoving_6 : decode cX7_isMoving 6 = .ok (.lconst 0, 1) := by decide +kernel
theorem dX7_isMoving_7 : decode cX7_isMoving 7 = .ok (.lcmp, 1) := by decide +kernel
theorem dX7_isMoving_8 : decode cX7_isMoving 8 = .ok (.ifCond .eq 7, 3) := by decide +kernel
theorem dX7_isMoving_11 : decode cX7_isMoving 11 = .ok (.iconst 1, 1) := by decide +kernel
theorem dX7_isMoving_12 : decode cX7_isMoving 12 = .ok (.goto 4, 3) := by decide +kernel
theorem dX7_isMoving_15 : decode cX7_isMoving 15 = .ok (.iconst 0, 1) := by decide +kernel
theorem dX7_isMoving_16 : decode cX7_isMoving 16 = .ok (.ireturn, 1) := by decide +kernel
theorem dX7_isMovingThroughout_0 : decode cX7_isMovingThroughout 0 = .ok (.iconst 0, 1) := by decide +kernel
theorem dX7_isMovingThroughout_1 : decode cX7_isMovingThroughout 1 = .ok (.istore 4, 2) := by decide +kernel
theorem dX7_isMovingThroughout_3 : decode cX7_isMovingThroughout 3 = .ok (.iload 4, 2) := by decide +kernel
theorem dX7_isMovingThroughout_5 : decode cX7_isMovingThroughout 5 = .ok (.iload_n 3, 1) := by decide +kernel
theorem dX7_isMovingThroughout_6 : decode cX7_isMovingThroughout 6 = .ok (.if_icmp .ge 21, 3) := by decide +kernel
theorem dX7_isMovingThroughout_9 : decode cX7_isMovingThroughout 9 = .ok (.aload_n 0, 1) := by decide +kernel
theorem dX7_isMovingThroughout_10 : decode cX7_isMovingThroughout 10 = .ok (.lload_n 1, 1) := by decide +kernel
theorem dX7_isMovingThroughout_11 : decode cX7_isMovingThroughout 11 = .ok (.iload 4, 2) := by decide +kernel
theorem dX7_isMovingThroughout_13 : decode cX7_isMovingThroughout 13 = .ok (.invokevirtual 195, 3) := by decide +kernel
theorem dX7_isMovingThroughout_16 : decode cX7_isMovingThroughout 16 = .ok (.ifCond .ne 5, 3) := by decide +kernel
theorem dX7_isMovingThroughout_19 : decode cX7_isMovingThroughout 19 = .ok (.iconst 0, 1) := by decide +kernel
theorem dX7_isMovingThroughout_20 : decode cX7_isMovingThroughout 20 = .ok (.ireturn, 1) := by decide +kernel
theorem dX7_isMovingThroughout_21 : decode cX7_isMovingThroughout 21 = .ok (.iinc 4 1, 3) := by decide +kernel
theorem dX7_isMovingThroughout_24 : decode cX7_isMovingThroughout 24 = .ok (.goto (-21), 3) := by decide +kernel
theorem dX7_isMovingThroughout_27 : decode cX7_isMovingThroughout 27 = .ok (.iconst 1, 1) := by decide +kernel
theorem dX7_isMovingThroughout_28 : decode cX7_isMovingThroughout 28 = .ok (.ireturn, 1) := by decide +kernel
theorem dX7_isAlwaysCaught_0 : decode cX7_isAlwaysCaught 0 = .ok (.aload_n 0, 1) := by decide +kernel
theorem dX7_isAlwaysCaught_1 : decode cX7_isAlwaysCaught 1 = .ok (.getfield 12, 3) := by decide +kernel
theorem dX7_isAlwaysCaught_4 : decode cX7_isAlwaysCaught 4 = .ok (.invokevirtual 211, 3) := by decide +kernel
theorem dX7_isAlwaysCaught_7 : decode cX7_isAlwaysCaught 7 = .ok (.istore_n 3, 1) := by decide +kernel
theorem dX7_isAlwaysCaught_8 : decode cX7_isAlwaysCaught 8 = .ok (.iconst 0, 1) := by decide +kernel
theorem dX7_isAlwaysCaught_9 : decode cX7_isAlwaysCaught 9 = .ok (.istore 4, 2) := by decide +kernel
theorem dX7_isAlwaysCaught_11 : decode cX7_isAlwaysCaught 11 = .ok (.iload 4, 2) := by decide +kernel
theorem dX7_isAlwaysCaught_13 : decode cX7_isAlwaysCaught 13 = .ok (.iload_n 3, 1) := by decide +kernel
theorem dX7_isAlwaysCaught_14 : decode cX7_isAlwaysCaught 14 = .ok (.if_icmp .ge 25, 3) := by decide +kernel
theorem dX7_isAlwaysCaught_17 : decode cX7_isAlwaysCaught 17 = .ok (.aload_n 0, 1) := by decide +kernel
theorem dX7_isAlwaysCaught_18 : decode cX7_isAlwaysCaught 18 = .ok (.aload_n 1, 1) := by decide +kernel
theorem dX7_isAlwaysCaught_19 : decode cX7_isAlwaysCaught 19 = .ok (.iload_n 2, 1) := by decide +kernel
theorem dX7_isAlwaysCaught_20 : decode cX7_isAlwaysCaught 20 = .ok (.iload 4, 2) := by decide +kernel
theorem dX7_isAlwaysCaught_22 : decode cX7_isAlwaysCaught 22 = .ok (.invokevirtual 146, 3) := by decide +kernel
theorem dX7_isAlwaysCaught_25 : decode cX7_isAlwaysCaught 25 = .ok (.getfield 166, 3) := by decide +kernel
theorem dX7_isAlwaysCaught_28 : decode cX7_isAlwaysCaught 28 = .ok (.ifCond .ne 5, 3) := by decide +kernel
theorem dX7_isAlwaysCaught_31 : decode cX7_isAlwaysCaught 31 = .ok (.iconst 0, 1) := by decide +kernel
theorem dX7_isAlwaysCaught_32 : decode cX7_isAlwaysCaught 32 = .ok (.ireturn, 1) := by decide +kernel
theorem dX7_isAlwaysCaught_33 : decode cX7_isAlwaysCaught 33 = .ok (.iinc 4 1, 3) := by decide +kernel
theorem dX7_isAlwaysCaught_36 : decode cX7_isAlwaysCaught 36 = .ok (.goto (-25), 3) := by decide +kernel
theorem dX7_isAlwaysCaught_39 : decode cX7_isAlwaysCaught 39 = .ok (.iconst 1, 1) := by decide +kernel
theorem dX7_isAlwaysCaught_40 : decode cX7_isAlwaysCaught 40 = .ok (.ireturn, 1) := by decide +kernel
theorem dX7_joinedSeats_0 : decode cX7_joinedSeats 0 = .ok (.iconst 0, 1) := by decide +kernel
theorem dX7_joinedSeats_1 : decode cX7_joinedSeats 1 = .ok (.istore_n 3, 1) := by decide +kernel
theorem dX7_joinedSeats_2 : decode cX7_joinedSeats 2 = .ok (.iconst 0, 1) := by decide +kernel
theorem dX7_joinedSeats_3 : decode cX7_joinedSeats 3 = .ok (.istore 4, 2) := by decide +kernel
theorem dX7_joinedSeats_5 : decode cX7_joinedSeats 5 = .ok (.iload 4, 2) := by decide +kernel
theorem dX7_joinedSeats_7 : decode cX7_joinedSeats 7 = .ok (.aload_n 0, 1) := by decide +kernel
theorem dX7_joinedSeats_8 : decode cX7_joinedSeats 8 = .ok (.getfield 90, 3) := by decide +kernel
theorem dX7_joinedSeats_11 : decode cX7_joinedSeats 11 = .ok (.if_icmp .ge 30, 3) := by decide +kernel
theorem dX7_joinedSeats_14 : decode cX7_joinedSeats 14 = .ok (.aload_n 0, 1) := by decide +kernel
theorem dX7_joinedSeats_15 : decode cX7_joinedSeats 15 = .ok (.aload_n 1, 1) := by decide +kernel
theorem dX7_joinedSeats_16 : decode cX7_joinedSeats 16 = .ok (.iload 4, 2) := by decide +kernel
theorem dX7_joinedSeats_18 : decode cX7_joinedSeats 18 = .ok (.iload_n 2, 1) := by decide +kernel
theorem dX7_joinedSeats_19 : decode cX7_joinedSeats 19 = .ok (.invokevirtual 146, 3) := by decide +kernel
theorem dX7_joinedSeats_22 : decode cX7_joinedSeats 22 = .ok (.getfield 159, 3) := by decide +kernel
theorem dX7_joinedSeats_25 : decode cX7_joinedSeats 25 = .ok (.ifCond .eq 10, 3) := by decide +kernel
theorem dX7_joinedSeats_28 : decode cX7_joinedSeats 28 = .ok (.iload_n 3, 1) := by decide +kernel
theorem dX7_joinedSeats_29 : decode cX7_joinedSeats 29 = .ok (.iconst 1, 1) := by decide +kernel
theorem dX7_joinedSeats_30 : decode cX7_joinedSeats 30 = .ok (.iload 4, 2) := by decide +kernel
theorem dX7_joinedSeats_32 : decode cX7_joinedSeats 32 = .ok (.ishl, 1) := by decide +kernel
theorem dX7_joinedSeats_33 : decode cX7_joinedSeats 33 = .ok (.ior, 1) := by decide +kernel
theorem dX7_joinedSeats_34 : decode cX7_joinedSeats 34 = .ok (.istore_n 3, 1) := by decide +kernel
theorem dX7_joinedSeats_35 : decode cX7_joinedSeats 35 = .ok (.iinc 4 1, 3) := by decide +kernel
theorem dX7_joinedSeats_38 : decode cX7_joinedSeats 38 = .ok (.goto (-33), 3) := by decide +kernel
theorem dX7_joinedSeats_41 : decode cX7_joinedSeats 41 = .ok (.iload_n 3, 1) := by decide +kernel
theorem dX7_joinedSeats_42 : decode cX7_joinedSeats 42 = .ok (.ireturn, 1) := by decide +kernel
theorem dX7_letterSaid_0 : decode cX7_letterSaid 0 = .ok (.aload_n 0, 1) := by decide +kernel
theorem dX7_letterSaid_1 : decode cX7_letterSaid 1 = .ok (.getfield 12, 3) := by decide +kernel
theorem dX7_letterSaid_4 : decode cX7_letterSaid 4 = .ok (.getfield 99, 3) := by decide +kernel
theorem dX7_letterSaid_7 : decode cX7_letterSaid 7 = .ok (.iload_n 2, 1) := by decide +kernel
theorem dX7_letterSaid_8 : decode cX7_letterSaid 8 = .ok (.iaload, 1) := by decide +kernel
theorem dX7_letterSaid_9 : decode cX7_letterSaid 9 = .ok (.istore_n 3, 1) := by decide +kernel
theorem dX7_letterSaid_10 : decode cX7_letterSaid 10 = .ok (.aload_n 1, 1) := by decide +kernel
theorem dX7_letterSaid_11 : decode cX7_letterSaid 11 = .ok (.getfield 292, 3) := by decide +kernel
theorem dX7_letterSaid_14 : decode cX7_letterSaid 14 = .ok (.iconst 5, 1) := by decide +kernel
theorem dX7_letterSaid_15 : decode cX7_letterSaid 15 = .ok (.if_icmp .ne 14, 3) := by decide +kernel
theorem dX7_letterSaid_18 : decode cX7_letterSaid 18 = .ok (.aload_n 0, 1) := by decide +kernel
theorem dX7_letterSaid_19 : decode cX7_letterSaid 19 = .ok (.invokevirtual 118, 3) := by decide +kernel
theorem dX7_letterSaid_22 : decode cX7_letterSaid 22 = .ok (.iload_n 3, 1) := by decide +kernel
theorem dX7_letterSaid_23 : decode cX7_letterSaid 23 = .ok (.invokevirtual 126, 3) := by decide +kernel
theorem dX7_letterSaid_26 : decode cX7_letterSaid 26 = .ok (.goto 4, 3) := by decide +kernel
theorem dX7_letterSaid_29 : decode cX7_letterSaid 29 = .ok (.iload_n 3, 1) := by decide +kernel
theorem dX7_letterSaid_30 : decode cX7_letterSaid 30 = .ok (.ireturn, 1) := by decide +kernel
theorem dX7_soundAt_0 : decode cX7_soundAt 0 = .ok (.iload_n 3, 1) := by decide +kernel
theorem dX7_soundAt_1 : decode cX7_soundAt 1 = .ok (.ifCond .eq 13, 3) := by decide +kernel
theorem dX7_soundAt_4 : decode cX7_soundAt 4 = .ok (.aload_n 0, 1) := by decide +kernel
theorem dX7_soundAt_5 : decode cX7_soundAt 5 = .ok (.invokevirtual 118, 3) := by decide +kernel
theorem dX7_soundAt_8 : decode cX7_soundAt 8 = .ok (.iload_n 2, 1) := by decide +kernel
theorem dX7_soundAt_9 : decode cX7_soundAt 9 = .ok (.iconst 0, 1) := by decide +kernel
theorem dX7_soundAt_10 : decode cX7_soundAt 10 = .ok (.invokevirtual 122, 3) := by decide +kernel
theorem dX7_soundAt_13 : decode cX7_soundAt 13 = .ok (.ireturn, 1) := by decide +kernel
theorem dX7_soundAt_14 : decode cX7_soundAt 14 = .ok (.aload_n 0, 1) := by decide +kernel
theorem dX7_soundAt_15 : decode cX7_soundAt 15 = .ok (.getfield 21, 3) := by decide +kernel
theorem dX7_soundAt_18 : decode cX7_soundAt 18 = .ok (.iload_n 1, 1) := by decide +kernel
theorem dX7_soundAt_19 : decode cX7_soundAt 19 = .ok (.iaload, 1) := by decide +kernel
theorem dX7_soundAt_20 : decode cX7_soundAt 20 = .ok (.bipush 20, 2) := by decide +kernel
theorem dX7_soundAt_22 : decode cX7_soundAt 22 = .ok (.if_icmp .gt 22, 3) := by decide +kernel
theorem dX7_soundAt_25 : decode cX7_soundAt 25 = .ok (.aload_n 0, 1) := by decide +kernel
theorem dX7_soundAt_26 : decode cX7_soundAt 26 = .ok (.invokevirtual 118, 3) := by decide +kernel
theorem dX7_soundAt_29 : decode cX7_soundAt 29 = .ok (.iload_n 2, 1) := by decide +kernel
theorem dX7_soundAt_30 : decode cX7_soundAt 30 = .ok (.iload_n 2, 1) := by decide +kernel
theorem dX7_soundAt_31 : decode cX7_soundAt 31 = .ok (.iconst 2, 1) := by decide +kernel
theorem dX7_soundAt_32 : decode cX7_soundAt 32 = .ok (.if_icmp .gt 7, 3) := by decide +kernel
theorem dX7_soundAt_35 : decode cX7_soundAt 35 = .ok (.iconst 1, 1) := by decide +kernel
theorem dX7_soundAt_36 : decode cX7_soundAt 36 = .ok (.goto 4, 3) := by decide +kernel
theorem dX7_soundAt_39 : decode cX7_soundAt 39 = .ok (.iconst 0, 1) := by decide +kernel
theorem dX7_soundAt_40 : decode cX7_soundAt 40 = .ok (.invokevirtual 122, 3) := by decide +kernel
theorem dX7_soundAt_43 : decode cX7_soundAt 43 = .ok (.ireturn, 1) := by decide +kernel
theorem dX7_soundAt_44 : decode cX7_soundAt 44 = .ok (.iload_n 2, 1) := by decide +kernel
theorem dX7_soundAt_45 : decode cX7_soundAt 45 = .ok (.ireturn, 1) := by decide +kernel
theorem dX7_letterHeard_0 : decode cX7_letterHeard 0 = .ok (.aload_n 0, 1) := by decide +kernel
theorem dX7_letterHeard_1 : decode cX7_letterHeard 1 = .ok (.iload_n 2, 1) := by decide +kernel
theorem dX7_letterHeard_2 : decode cX7_letterHeard 2 = .ok (.aload_n 0, 1) := by decide +kernel
theorem dX7_letterHeard_3 : decode cX7_letterHeard 3 = .ok (.aload_n 1, 1) := by decide +kernel
theorem dX7_letterHeard_4 : decode cX7_letterHeard 4 = .ok (.iload_n 3, 1) := by decide +kernel
theorem dX7_letterHeard_5 : decode cX7_letterHeard 5 = .ok (.invokevirtual 172, 3) := by decide +kernel
theorem dX7_letterHeard_8 : decode cX7_letterHeard 8 = .ok (.aload_n 0, 1) := by decide +kernel
theorem dX7_letterHeard_9 : decode cX7_letterHeard 9 = .ok (.aload_n 1, 1) := by decide +kernel
theorem dX7_letterHeard_10 : decode cX7_letterHeard 10 = .ok (.iload_n 2, 1) := by decide +kernel
theorem dX7_letterHeard_11 : decode cX7_letterHeard 11 = .ok (.iconst 2, 1) := by decide +kernel
theorem dX7_letterHeard_12 : decode cX7_letterHeard 12 = .ok (.iload_n 3, 1) := by decide +kernel
theorem dX7_letterHeard_13 : decode cX7_letterHeard 13 = .ok (.imul, 1) := by decide +kernel
theorem dX7_letterHeard_14 : decode cX7_letterHeard 14 = .ok (.invokevirtual 146, 3) := by decide +kernel
theorem dX7_letterHeard_17 : decode cX7_letterHeard 17 = .ok (.getfield 159, 3) := by decide +kernel
theorem dX7_letterHeard_20 : decode cX7_letterHeard 20 = .ok (.invokevirtual 345, 3) := by decide +kernel
theorem dX7_letterHeard_23 : decode cX7_letterHeard 23 = .ok (.ireturn, 1) := by decide +kernel
theorem dX7_isRight_0 : decode cX7_isRight 0 = .ok (.aload_n 0, 1) := by decide +kernel
theorem dX7_isRight_1 : decode cX7_isRight 1 = .ok (.aload_n 1, 1) := by decide +kernel
theorem dX7_isRight_2 : decode cX7_isRight 2 = .ok (.iload_n 2, 1) := by decide +kernel
theorem dX7_isRight_3 : decode cX7_isRight 3 = .ok (.iload_n 3, 1) := by decide +kernel
theorem dX7_isRight_4 : decode cX7_isRight 4 = .ok (.invokevirtual 176, 3) := by decide +kernel
theorem dX7_isRight_7 : decode cX7_isRight 7 = .ok (.aload_n 0, 1) := by decide +kernel
theorem dX7_isRight_8 : decode cX7_isRight 8 = .ok (.getfield 12, 3) := by decide +kernel
theorem dX7_isRight_11 : decode cX7_isRight 11 = .ok (.getfield 99, 3) := by decide +kernel
theorem dX7_isRight_14 : decode cX7_isRight 14 = .ok (.iload_n 3, 1) := by decide +kernel
theorem dX7_isRight_15 : decode cX7_isRight 15 = .ok (.iaload, 1) := by decide +kernel
theorem dX7_isRight_16 : decode cX7_isRight 16 = .ok (.if_icmp .ne 7, 3) := by decide +kernel
theorem dX7_isRight_19 : decode cX7_isRight 19 = .ok (.iconst 1, 1) := by decide +kernel
theorem dX7_isRight_20 : decode cX7_isRight 20 = .ok (.goto 4, 3) := by decide +kernel
theorem dX7_isRight_23 : decode cX7_isRight 23 = .ok (.iconst 0, 1) := by decide +kernel
theorem dX7_isRight_24 : decode cX7_isRight 24 = .ok (.ireturn, 1) := by decide +kernel
theorem dX7_canBeHeard_0 : decode cX7_canBeHeard 0 = .ok (.aload_n 0, 1) := by decide +kernel
theorem dX7_canBeHeard_1 : decode cX7_canBeHeard 1 = .ok (.aload_n 1, 1) := by decide +kernel
theorem dX7_canBeHeard_2 : decode cX7_canBeHeard 2 = .ok (.iload_n 2, 1) := by decide +kernel
theorem dX7_canBeHeard_3 : decode cX7_canBeHeard 3 = .ok (.iconst 2, 1) := by decide +kernel
theorem dX7_canBeHeard_4 : decode cX7_canBeHeard 4 = .ok (.iload_n 3, 1) := by decide +kernel
theorem dX7_canBeHeard_5 : decode cX7_canBeHeard 5 = .ok (.imul, 1) := by decide +kernel
theorem dX7_canBeHeard_6 : decode cX7_canBeHeard 6 = .ok (.invokevirtual 146, 3) := by decide +kernel
theorem dX7_canBeHeard_9 : decode cX7_canBeHeard 9 = .ok (.getfield 159, 3) := by decide +kernel
theorem dX7_canBeHeard_12 : decode cX7_canBeHeard 12 = .ok (.istore 4, 2) := by decide +kernel
theorem dX7_canBeHeard_14 : decode cX7_canBeHeard 14 = .ok (.iconst 0, 1) := by decide +kernel
theorem dX7_canBeHeard_15 : decode cX7_canBeHeard 15 = .ok (.istore 5, 2) := by decide +kernel
theorem dX7_canBeHeard_17 : decode cX7_canBeHeard 17 = .ok (.iload 5, 2) := by decide +kernel
theorem dX7_canBeHeard_19 : decode cX7_canBeHeard 19 = .ok (.bipush 10, 2) := by decide +kernel
theorem dX7_canBeHeard_21 : decode cX7_canBeHeard 21 = .ok (.if_icmp .ge 32, 3) := by decide +kernel
theorem dX7_canBeHeard_24 : decode cX7_canBeHeard 24 = .ok (.aload_n 0, 1) := by decide +kernel
theorem dX7_canBeHeard_25 : decode cX7_canBeHeard 25 = .ok (.iload_n 2, 1) := by decide +kernel
theorem dX7_canBeHeard_26 : decode cX7_canBeHeard 26 = .ok (.iload 5, 2) := by decide +kernel
theorem dX7_canBeHeard_28 : decode cX7_canBeHeard 28 = .ok (.iload 4, 2) := by decide +kernel
theorem dX7_canBeHeard_30 : decode cX7_canBeHeard 30 = .ok (.invokevirtual 345, 3) := by decide +kernel
theorem dX7_canBeHeard_33 : decode cX7_canBeHeard 33 = .ok (.aload_n 0, 1) := by decide +kernel
theorem dX7_canBeHeard_34 : decode cX7_canBeHeard 34 = .ok (.getfield 12, 3) := by decide +kernel
theorem dX7_canBeHeard_37 : decode cX7_canBeHeard 37 = .ok (.getfield 99, 3) := by decide +kernel
theorem dX7_canBeHeard_40 : decode cX7_canBeHeard 40 = .ok (.iload_n 3, 1) := by decide +kernel
theorem dX7_canBeHeard_41 : decode cX7_canBeHeard 41 = .ok (.iaload, 1) := by decide +kernel
theorem dX7_canBeHeard_42 : decode cX7_canBeHeard 42 = .ok (.if_icmp .ne 5, 3) := by decide +kernel
theorem dX7_canBeHeard_45 : decode cX7_canBeHeard 45 = .ok (.iconst 1, 1) := by decide +kernel
theorem dX7_canBeHeard_46 : decode cX7_canBeHeard 46 = .ok (.ireturn, 1) := by decide +kernel
theorem dX7_canBeHeard_47 : decode cX7_canBeHeard 47 = .ok (.iinc 5 1, 3) := by decide +kernel
theorem dX7_canBeHeard_50 : decode cX7_canBeHeard 50 = .ok (.goto (-33), 3) := by decide +kernel
theorem dX7_canBeHeard_53 : decode cX7_canBeHeard 53 = .ok (.iconst 0, 1) := by decide +kernel
theorem dX7_canBeHeard_54 : decode cX7_canBeHeard 54 = .ok (.ireturn, 1) := by decide +kernel
theorem dX7_seatsHearing_0 : decode cX7_seatsHearing 0 = .ok (.iconst 0, 1) := by decide +kernel
theorem dX7_seatsHearing_1 : decode cX7_seatsHearing 1 = .ok (.istore 4, 2) := by decide +kernel
theorem dX7_seatsHearing_3 : decode cX7_seatsHearing 3 = .ok (.iconst 0, 1) := by decide +kernel
theorem dX7_seatsHearing_4 : decode cX7_seatsHearing 4 = .ok (.istore 5, 2) := by decide +kernel
theorem dX7_seatsHearing_6 : decode cX7_seatsHearing 6 = .ok (.iload 5, 2) := by decide +kernel
theorem dX7_seatsHearing_8 : decode cX7_seatsHearing 8 = .ok (.aload_n 0, 1) := by decide +kernel
theorem dX7_seatsHearing_9 : decode cX7_seatsHearing 9 = .ok (.getfield 90, 3) := by decide +kernel
theorem dX7_seatsHearing_12 : decode cX7_seatsHearing 12 = .ok (.if_icmp .ge 37, 3) := by decide +kernel
theorem dX7_seatsHearing_15 : decode cX7_seatsHearing 15 = .ok (.aload_n 0, 1) := by decide +kernel
theorem dX7_seatsHearing_16 : decode cX7_seatsHearing 16 = .ok (.iload 5, 2) := by decide +kernel
theorem dX7_seatsHearing_18 : decode cX7_seatsHearing 18 = .ok (.iload_n 2, 1) := by decide +kernel
theorem dX7_seatsHearing_19 : decode cX7_seatsHearing 19 = .ok (.iload_n 3, 1) := by decide +kernel
theorem dX7_seatsHearing_20 : decode cX7_seatsHearing 20 = .ok (.iload 5, 2) := by decide +kernel
theorem dX7_seatsHearing_22 : decode cX7_seatsHearing 22 = .ok (.ishr, 1) := by decide +kernel
theorem dX7_seatsHearing_23 : decode cX7_seatsHearing 23 = .ok (.iconst 1, 1) := by decide +kernel
theorem dX7_seatsHearing_24 : decode cX7_seatsHearing 24 = .ok (.iand, 1) := by decide +kernel
theorem dX7_seatsHearing_25 : decode cX7_seatsHearing 25 = .ok (.ifCond .eq 7, 3) := by decide +kernel
theorem dX7_seatsHearing_28 : decode cX7_seatsHearing 28 = .ok (.iconst 1, 1) := by decide +kernel
theorem dX7_seatsHearing_29 : decode cX7_seatsHearing 29 = .ok (.goto 4, 3) := by decide +kernel
theorem dX7_seatsHearing_32 : decode cX7_seatsHearing 32 = .ok (.iconst 0, 1) := by decide +kernel
theorem dX7_seatsHearing_33 : decode cX7_seatsHearing 33 = .ok (.invokevirtual 345, 3) := by decide +kernel
theorem dX7_seatsHearing_36 : decode cX7_seatsHearing 36 = .ok (.iload_n 1, 1) := by decide +kernel
theorem dX7_seatsHearing_37 : decode cX7_seatsHearing 37 = .ok (.if_icmp .ne 6, 3) := by decide +kernel
theorem dX7_seatsHearing_40 : decode cX7_seatsHearing 40 = .ok (.iinc 4 1, 3) := by decide +kernel
theorem dX7_seatsHearing_43 : decode cX7_seatsHearing 43 = .ok (.iinc 5 1, 3) := by decide +kernel
theorem dX7_seatsHearing_46 : decode cX7_seatsHearing 46 = .ok (.goto (-40), 3) := by decide +kernel
theorem dX7_seatsHearing_49 : decode cX7_seatsHearing 49 = .ok (.iload 4, 2) := by decide +kernel
theorem dX7_seatsHearing_51 : decode cX7_seatsHearing 51 = .ok (.ireturn, 1) := by decide +kernel
theorem dX7_boxesSum_0 : decode cX7_boxesSum 0 = .ok (.iconst 0, 1) := by decide +kernel
theorem dX7_boxesSum_1 : decode cX7_boxesSum 1 = .ok (.istore_n 3, 1) := by decide +kernel
theorem dX7_boxesSum_2 : decode cX7_boxesSum 2 = .ok (.iconst 0, 1) := by decide +kernel
theorem dX7_boxesSum_3 : decode cX7_boxesSum 3 = .ok (.istore 4, 2) := by decide +kernel
theorem dX7_boxesSum_5 : decode cX7_boxesSum 5 = .ok (.iload 4, 2) := by decide +kernel
theorem dX7_boxesSum_7 : decode cX7_boxesSum 7 = .ok (.aload_n 0, 1) := by decide +kernel
theorem dX7_boxesSum_8 : decode cX7_boxesSum 8 = .ok (.getfield 90, 3) := by decide +kernel
theorem dX7_boxesSum_11 : decode cX7_boxesSum 11 = .ok (.if_icmp .ge 51, 3) := by decide +kernel
theorem dX7_boxesSum_14 : decode cX7_boxesSum 14 = .ok (.iload_n 1, 1) := by decide +kernel
theorem dX7_boxesSum_15 : decode cX7_boxesSum 15 = .ok (.aload_n 0, 1) := by decide +kernel
theorem dX7_boxesSum_16 : decode cX7_boxesSum 16 = .ok (.getfield 25, 3) := by decide +kernel
theorem dX7_boxesSum_19 : decode cX7_boxesSum 19 = .ok (.iload 4, 2) := by decide +kernel
theorem dX7_boxesSum_21 : decode cX7_boxesSum 21 = .ok (.iaload, 1) := by decide +kernel
theorem dX7_boxesSum_22 : decode cX7_boxesSum 22 = .ok (.isub, 1) := by decide +kernel
theorem dX7_boxesSum_23 : decode cX7_boxesSum 23 = .ok (.invokestatic 206, 3) := by decide +kernel
theorem dX7_boxesSum_26 : decode cX7_boxesSum 26 = .ok (.iload_n 2, 1) := by decide +kernel
theorem dX7_boxesSum_27 : decode cX7_boxesSum 27 = .ok (.aload_n 0, 1) := by decide +kernel
theorem dX7_boxesSum_28 : decode cX7_boxesSum 28 = .ok (.getfield 25, 3) := by decide +kernel
theorem dX7_boxesSum_31 : decode cX7_boxesSum 31 = .ok (.iload 4, 2) := by decide +kernel
theorem dX7_boxesSum_33 : decode cX7_boxesSum 33 = .ok (.iaload, 1) := by decide +kernel
theorem dX7_boxesSum_34 : decode cX7_boxesSum 34 = .ok (.isub, 1) := by decide +kernel
theorem dX7_boxesSum_35 : decode cX7_boxesSum 35 = .ok (.invokestatic 206, 3) := by decide +kernel
theorem dX7_boxesSum_38 : decode cX7_boxesSum 38 = .ok (.invokestatic 342, 3) := by decide +kernel
theorem dX7_boxesSum_41 : decode cX7_boxesSum 41 = .ok (.istore 5, 2) := by decide +kernel
theorem dX7_boxesSum_43 : decode cX7_boxesSum 43 = .ok (.iload_n 3, 1) := by decide +kernel
theorem dX7_boxesSum_44 : decode cX7_boxesSum 44 = .ok (.iload 5, 2) := by decide +kernel
theorem dX7_boxesSum_46 : decode cX7_boxesSum 46 = .ok (.aload_n 0, 1) := by decide +kernel
theorem dX7_boxesSum_47 : decode cX7_boxesSum 47 = .ok (.getfield 21, 3) := by decide +kernel
theorem dX7_boxesSum_50 : decode cX7_boxesSum 50 = .ok (.iload 4, 2) := by decide +kernel
theorem dX7_boxesSum_52 : decode cX7_boxesSum 52 = .ok (.iaload, 1) := by decide +kernel
theorem dX7_boxesSum_53 : decode cX7_boxesSum 53 = .ok (.imul, 1) := by decide +kernel
theorem dX7_boxesSum_54 : decode cX7_boxesSum 54 = .ok (.iadd, 1) := by decide +kernel
theorem dX7_boxesSum_55 : decode cX7_boxesSum 55 = .ok (.istore_n 3, 1) := by decide +kernel
theorem dX7_boxesSum_56 : decode cX7_boxesSum 56 = .ok (.iinc 4 1, 3) := by decide +kernel
theorem dX7_boxesSum_59 : decode cX7_boxesSum 59 = .ok (.goto (-54), 3) := by decide +kernel
theorem dX7_boxesSum_62 : decode cX7_boxesSum 62 = .ok (.iload_n 3, 1) := by decide +kernel
theorem dX7_boxesSum_63 : decode cX7_boxesSum 63 = .ok (.ireturn, 1) := by decide +kernel
theorem dX7_bestBoxes_0 : decode cX7_bestBoxes 0 = .ok (.bipush 41, 2) := by decide +kernel
theorem dX7_bestBoxes_2 : decode cX7_bestBoxes 2 = .ok (.istore_n 2, 1) := by decide +kernel
theorem dX7_bestBoxes_3 : decode cX7_bestBoxes 3 = .ok (.ldc_w 351, 3) := by decide +kernel
theorem dX7_bestBoxes_6 : decode cX7_bestBoxes 6 = .ok (.istore_n 3, 1) := by decide +kernel
theorem dX7_bestBoxes_7 : decode cX7_bestBoxes 7 = .ok (.iconst 0, 1) := by decide +kernel
theorem dX7_bestBoxes_8 : decode cX7_bestBoxes 8 = .ok (.istore 4, 2) := by decide +kernel
theorem dX7_bestBoxes_10 : decode cX7_bestBoxes 10 = .ok (.iload 4, 2) := by decide +kernel
theorem dX7_bestBoxes_12 : decode cX7_bestBoxes 12 = .ok (.bipush 40, 2) := by decide +kernel
theorem dX7_bestBoxes_14 : decode cX7_bestBoxes 14 = .ok (.if_icmp .gt 83, 3) := by decide +kernel
theorem dX7_bestBoxes_17 : decode cX7_bestBoxes 17 = .ok (.iload_n 1, 1) := by decide +kernel
theorem dX7_bestBoxes_18 : decode cX7_bestBoxes 18 = .ok (.iconst 1, 1) := by decide +kernel
theorem dX7_bestBoxes_19 : decode cX7_bestBoxes 19 = .ok (.if_icmp .ne 8, 3) := by decide +kernel
theorem dX7_bestBoxes_22 : decode cX7_bestBoxes 22 = .ok (.iload 4, 2) := by decide +kernel
theorem dX7_bestBoxes_24 : decode cX7_bestBoxes 24 = .ok (.goto 7, 3) := by decide +kernel
theorem dX7_bestBoxes_27 : decode cX7_bestBoxes 27 = .ok (.iload 4, 2) := by decide +kernel
theorem dX7_bestBoxes_29 : decode cX7_bestBoxes 29 = .ok (.iconst 1, 1) := by decide +kernel
theorem dX7_bestBoxes_30 : decode cX7_bestBoxes 30 = .ok (.iadd, 1) := by decide +kernel
theorem dX7_bestBoxes_31 : decode cX7_bestBoxes 31 = .ok (.istore 5, 2) := by decide +kernel
theorem dX7_bestBoxes_33 : decode cX7_bestBoxes 33 = .ok (.iload_n 1, 1) := by decide +kernel
theorem dX7_bestBoxes_34 : decode cX7_bestBoxes 34 = .ok (.iconst 1, 1) := by decide +kernel
theorem dX7_bestBoxes_35 : decode cX7_bestBoxes 35 = .ok (.if_icmp .ne 8, 3) := by decide +kernel
theorem dX7_bestBoxes_38 : decode cX7_bestBoxes 38 = .ok (.iload 4, 2) := by decide +kernel
theorem dX7_bestBoxes_40 : decode cX7_bestBoxes 40 = .ok (.goto 5, 3) := by decide +kernel
theorem dX7_bestBoxes_43 : decode cX7_bestBoxes 43 = .ok (.bipush 40, 2) := by decide +kernel
theorem dX7_bestBoxes_45 : decode cX7_bestBoxes 45 = .ok (.istore 6, 2) := by decide +kernel
theorem dX7_bestBoxes_47 : decode cX7_bestBoxes 47 = .ok (.iload 5, 2) := by decide +kernel
theorem dX7_bestBoxes_49 : decode cX7_bestBoxes 49 = .ok (.istore 7, 2) := by decide +kernel
theorem dX7_bestBoxes_51 : decode cX7_bestBoxes 51 = .ok (.iload 7, 2) := by decide +kernel
theorem dX7_bestBoxes_53 : decode cX7_bestBoxes 53 = .ok (.iload 6, 2) := by decide +kernel
theorem dX7_bestBoxes_55 : decode cX7_bestBoxes 55 = .ok (.if_icmp .gt 36, 3) := by decide +kernel
theorem dX7_bestBoxes_58 : decode cX7_bestBoxes 58 = .ok (.aload_n 0, 1) := by decide +kernel
theorem dX7_bestBoxes_59 : decode cX7_bestBoxes 59 = .ok (.iload 4, 2) := by decide +kernel
theorem dX7_bestBoxes_61 : decode cX7_bestBoxes 61 = .ok (.iload 7, 2) := by decide +kernel
theorem dX7_bestBoxes_63 : decode cX7_bestBoxes 63 = .ok (.invokevirtual 352, 3) := by decide +kernel
theorem dX7_bestBoxes_66 : decode cX7_bestBoxes 66 = .ok (.iload_n 2, 1) := by decide +kernel
theorem dX7_bestBoxes_67 : decode cX7_bestBoxes 67 = .ok (.imul, 1) := by decide +kernel
theorem dX7_bestBoxes_68 : decode cX7_bestBoxes 68 = .ok (.iload 4, 2) := by decide +kernel
theorem dX7_bestBoxes_70 : decode cX7_bestBoxes 70 = .ok (.iadd, 1) := by decide +kernel
theorem dX7_bestBoxes_71 : decode cX7_bestBoxes 71 = .ok (.iload_n 2, 1) := by decide +kernel
theorem dX7_bestBoxes_72 : decode cX7_bestBoxes 72 = .ok (.imul, 1) := by decide +kernel
theorem dX7_bestBoxes_73 : decode cX7_bestBoxes 73 = .ok (.iload 7, 2) := by decide +kernel
theorem dX7_bestBoxes_75 : decode cX7_bestBoxes 75 = .ok (.iadd, 1) := by decide +kernel
theorem dX7_bestBoxes_76 : decode cX7_bestBoxes 76 = .ok (.istore 8, 2) := by decide +kernel
theorem dX7_bestBoxes_78 : decode cX7_bestBoxes 78 = .ok (.iload_n 3, 1) := by decide +kernel
theorem dX7_bestBoxes_79 : decode cX7_bestBoxes 79 = .ok (.iload 8, 2) := by decide +kernel
theorem dX7_bestBoxes_81 : decode cX7_bestBoxes 81 = .ok (.invokestatic 342, 3) := by decide +kernel
theorem dX7_bestBoxes_84 : decode cX7_bestBoxes 84 = .ok (.istore_n 3, 1) := by decide +kernel
theorem dX7_bestBoxes_85 : decode cX7_bestBoxes 85 = .ok (.iinc 7 1, 3) := by decide +kernel
theorem dX7_bestBoxes_88 : decode cX7_bestBoxes 88 = .ok (.goto (-37), 3) := by decide +kernel
theorem dX7_bestBoxes_91 : decode cX7_bestBoxes 91 = .ok (.iinc 4 1, 3) := by decide +kernel
theorem dX7_bestBoxes_94 : decode cX7_bestBoxes 94 = .ok (.goto (-84), 3) := by decide +kernel
theorem dX7_bestBoxes_97 : decode cX7_bestBoxes 97 = .ok (.iload_n 3, 1) := by decide +kernel
theorem dX7_bestBoxes_98 : decode cX7_bestBoxes 98 = .ok (.ireturn, 1) := by decide +kernel
theorem dX7_partOfSure_0 : decode cX7_partOfSure 0 = .ok (.aload_n 0, 1) := by decide +kernel
theorem dX7_partOfSure_1 : decode cX7_partOfSure 1 = .ok (.getfield 12, 3) := by decide +kernel
theorem dX7_partOfSure_4 : decode cX7_partOfSure 4 = .ok (.getfield 237, 3) := by decide +kernel
theorem dX7_partOfSure_7 : decode cX7_partOfSure 7 = .ok (.istore_n 3, 1) := by decide +kernel
theorem dX7_partOfSure_8 : decode cX7_partOfSure 8 = .ok (.bipush 10, 2) := by decide +kernel
theorem dX7_partOfSure_10 : decode cX7_partOfSure 10 = .ok (.istore 4, 2) := by decide +kernel
theorem dX7_partOfSure_12 : decode cX7_partOfSure 12 = .ok (.iconst 2, 1) := by decide +kernel
theorem dX7_partOfSure_13 : decode cX7_partOfSure 13 = .ok (.istore 5, 2) := by decide +kernel
theorem dX7_partOfSure_15 : decode cX7_partOfSure 15 = .ok (.iload 5, 2) := by decide +kernel
theorem dX7_partOfSure_17 : decode cX7_partOfSure 17 = .ok (.iconst 5, 1) := by decide +kernel
theorem dX7_partOfSure_18 : decode cX7_partOfSure 18 = .ok (.if_icmp .gt 28, 3) := by decide +kernel
theorem dX7_partOfSure_21 : decode cX7_partOfSure 21 = .ok (.iload_n 3, 1) := by decide +kernel
theorem dX7_partOfSure_22 : decode cX7_partOfSure 22 = .ok (.iload 5, 2) := by decide +kernel
theorem dX7_partOfSure_24 : decode cX7_partOfSure 24 = .ok (.irem, 1) := by decide +kernel
theorem dX7_partOfSure_25 : decode cX7_partOfSure 25 = .ok (.ifCond .ne 15, 3) := by decide +kernel
theorem dX7_partOfSure_28 : decode cX7_partOfSure 28 = .ok (.iload_n 3, 1) := by decide +kernel
theorem dX7_partOfSure_29 : decode cX7_partOfSure 29 = .ok (.iload 5, 2) := by decide +kernel
theorem dX7_partOfSure_31 : decode cX7_partOfSure 31 = .ok (.idiv, 1) := by decide +kernel
theorem dX7_partOfSure_32 : decode cX7_partOfSure 32 = .ok (.istore_n 3, 1) := by decide +kernel
theorem dX7_partOfSure_33 : decode cX7_partOfSure 33 = .ok (.iload 4, 2) := by decide +kernel
theorem dX7_partOfSure_35 : decode cX7_partOfSure 35 = .ok (.iload 5, 2) := by decide +kernel
theorem dX7_partOfSure_37 : decode cX7_partOfSure 37 = .ok (.idiv, 1) := by decide +kernel
theorem dX7_partOfSure_38 : decode cX7_partOfSure 38 = .ok (.istore 4, 2) := by decide +kernel
theorem dX7_partOfSure_40 : decode cX7_partOfSure 40 = .ok (.iinc 5 3, 3) := by decide +kernel
theorem dX7_partOfSure_43 : decode cX7_partOfSure 43 = .ok (.goto (-28), 3) := by decide +kernel
theorem dX7_partOfSure_46 : decode cX7_partOfSure 46 = .ok (.lconst 1, 1) := by decide +kernel
theorem dX7_partOfSure_47 : decode cX7_partOfSure 47 = .ok (.lstore 5, 2) := by decide +kernel
theorem dX7_partOfSure_49 : decode cX7_partOfSure 49 = .ok (.lconst 1, 1) := by decide +kernel
theorem dX7_partOfSure_50 : decode cX7_partOfSure 50 = .ok (.lstore 7, 2) := by decide +kernel
theorem dX7_partOfSure_52 : decode cX7_partOfSure 52 = .ok (.iconst 0, 1) := by decide +kernel
theorem dX7_partOfSure_53 : decode cX7_partOfSure 53 = .ok (.istore 9, 2) := by decide +kernel
theorem dX7_partOfSure_55 : decode cX7_partOfSure 55 = .ok (.iload 9, 2) := by decide +kernel
theorem dX7_partOfSure_57 : decode cX7_partOfSure 57 = .ok (.iload_n 1, 1) := by decide +kernel
theorem dX7_partOfSure_58 : decode cX7_partOfSure 58 = .ok (.if_icmp .ge 24, 3) := by decide +kernel
theorem dX7_partOfSure_61 : decode cX7_partOfSure 61 = .ok (.lload 5, 2) := by decide +kernel
theorem dX7_partOfSure_63 : decode cX7_partOfSure 63 = .ok (.iload_n 3, 1) := by decide +kernel
theorem dX7_partOfSure_64 : decode cX7_partOfSure 64 = .ok (.i2l, 1) := by decide +kernel
theorem dX7_partOfSure_65 : decode cX7_partOfSure 65 = .ok (.lmul, 1) := by decide +kernel
theorem dX7_partOfSure_66 : decode cX7_partOfSure 66 = .ok (.lstore 5, 2) := by decide +kernel
theorem dX7_partOfSure_68 : decode cX7_partOfSure 68 = .ok (.lload 7, 2) := by decide +kernel
theorem dX7_partOfSure_70 : decode cX7_partOfSure 70 = .ok (.iload 4, 2) := by decide +kernel
theorem dX7_partOfSure_72 : decode cX7_partOfSure 72 = .ok (.i2l, 1) := by decide +kernel
theorem dX7_partOfSure_73 : decode cX7_partOfSure 73 = .ok (.lmul, 1) := by decide +kernel
theorem dX7_partOfSure_74 : decode cX7_partOfSure 74 = .ok (.lstore 7, 2) := by decide +kernel
theorem dX7_partOfSure_76 : decode cX7_partOfSure 76 = .ok (.iinc 9 1, 3) := by decide +kernel
theorem dX7_partOfSure_79 : decode cX7_partOfSure 79 = .ok (.goto (-24), 3) := by decide +kernel
theorem dX7_partOfSure_82 : decode cX7_partOfSure 82 = .ok (.iload_n 2, 1) := by decide +kernel
theorem dX7_partOfSure_83 : decode cX7_partOfSure 83 = .ok (.ifCond .ne 11, 3) := by decide +kernel
theorem dX7_partOfSure_86 : decode cX7_partOfSure 86 = .ok (.lload 7, 2) := by decide +kernel
theorem dX7_partOfSure_88 : decode cX7_partOfSure 88 = .ok (.lload 5, 2) := by decide +kernel
theorem dX7_partOfSure_90 : decode cX7_partOfSure 90 = .ok (.lsub, 1) := by decide +kernel
theorem dX7_partOfSure_91 : decode cX7_partOfSure 91 = .ok (.goto 5, 3) := by decide +kernel
theorem dX7_partOfSure_94 : decode cX7_partOfSure 94 = .ok (.lload 7, 2) := by decide +kernel
theorem dX7_partOfSure_96 : decode cX7_partOfSure 96 = .ok (.lreturn, 1) := by decide +kernel
theorem dX8_init_0 : decode cX8_init 0 = .ok (.aload_n 0, 1) := by decide +kernel
theorem dX8_init_1 : decode cX8_init 1 = .ok (.invokespecial 1, 3) := by decide +kernel
theorem dX8_init_4 : decode cX8_init 4 = .ok (.aload_n 0, 1) := by decide +kernel
theorem dX8_init_5 : decode cX8_init 5 = .ok (.bipush 20, 2) := by decide +kernel
theorem dX8_init_7 : decode cX8_init 7 = .ok (.putfield 7, 3) := by decide +kernel
theorem dX8_init_10 : decode cX8_init 10 = .ok (.aload_n 0, 1) := by decide +kernel
theorem dX8_init_11 : decode cX8_init 11 = .ok (.bipush 26, 2) := by decide +kernel
theorem dX8_init_13 : decode cX8_init 13 = .ok (.putfield 13, 3) := by decide +kernel
theorem dX8_init_16 : decode cX8_init 16 = .ok (.aload_n 0, 1) := by decide +kernel
theorem dX8_init_17 : decode cX8_init 17 = .ok (.iconst 0, 1) := by decide +kernel
theorem dX8_init_18 : decode cX8_init 18 = .ok (.putfield 16, 3) := by decide +kernel
theorem dX8_init_21 : decode cX8_init 21 = .ok (.aload_n 0, 1) := by decide +kernel
theorem dX8_init_22 : decode cX8_init 22 = .ok (.iconst 0, 1) := by decide +kernel
theorem dX8_init_23 : decode cX8_init 23 = .ok (.putfield 19, 3) := by decide +kernel
theorem dX8_init_26 : decode cX8_init 26 = .ok (.aload_n 0, 1) := by decide +kernel
theorem dX8_init_27 : decode cX8_init 27 = .ok (.iconst 0, 1) := by decide +kernel
theorem dX8_init_28 : decode cX8_init 28 = .ok (.putfield 22, 3) := by decide +kernel
theorem dX8_init_31 : decode cX8_init 31 = .ok (.aload_n 0, 1) := by decide +kernel
theorem dX8_init_32 : decode cX8_init 32 = .ok (.lconst 0, 1) := by decide +kernel
theorem dX8_init_33 : decode cX8_init 33 = .ok (.putfield 25, 3) := by decide +kernel
theorem dX8_init_36 : decode cX8_init 36 = .ok (.aload_n 0, 1) := by decide +kernel
theorem dX8_init_37 : decode cX8_init 37 = .ok (.bipush 8, 2) := by decide +kernel
theorem dX8_init_39 : decode cX8_init 39 = .ok (.newarray .int, 2) := by decide +kernel
theorem dX8_init_41 : decode cX8_init 41 = .ok (.putfield 29, 3) := by decide +kernel
theorem dX8_init_44 : decode cX8_init 44 = .ok (.aload_n 0, 1) := by decide +kernel
theorem dX8_init_45 : decode cX8_init 45 = .ok (.bipush 8, 2) := by decide +kernel
theorem dX8_init_47 : decode cX8_init 47 = .ok (.newarray .int, 2) := by decide +kernel
theorem dX8_init_49 : decode cX8_init 49 = .ok (.putfield 33, 3) := by decide +kernel
theorem dX8_init_52 : decode cX8_init 52 = .ok (.aload_n 0, 1) := by decide +kernel
theorem dX8_init_53 : decode cX8_init 53 = .ok (.bipush 20, 2) := by decide +kernel
theorem dX8_init_55 : decode cX8_init 55 = .ok (.newarray .int, 2) := by decide +kernel
theorem dX8_init_57 : decode cX8_init 57 = .ok (.putfield 36, 3) := by decide +kernel
theorem dX8_init_60 : decode cX8_init 60 = .ok (.aload_n 0, 1) := by decide +kernel
theorem dX8_init_61 : decode cX8_init 61 = .ok (.iconst 0, 1) := by decide +kernel
theorem dX8_init_62 : decode cX8_init 62 = .ok (.putfield 39, 3) := by decide +kernel
theorem dX8_init_65 : decode cX8_init 65 = .ok (.aload_n 0, 1) := by decide +kernel
theorem dX8_init_66 : decode cX8_init 66 = .ok (.iconst (-1), 1) := by decide +kernel
theorem dX8_init_67 : decode cX8_init 67 = .ok (.putfield 42, 3) := by decide +kernel
theorem dX8_init_70 : decode cX8_init 70 = .ok (.aload_n 0, 1) := by decide +kernel
theorem dX8_init_71 : decode cX8_init 71 = .ok (.iconst 0, 1) := by decide +kernel
theorem dX8_init_72 : decode cX8_init 72 = .ok (.putfield 45, 3) := by decide +kernel
theorem dX8_init_75 : decode cX8_init 75 = .ok (.aload_n 0, 1) := by decide +kernel
theorem dX8_init_76 : decode cX8_init 76 = .ok (.iconst 0, 1) := by decide +kernel
theorem dX8_init_77 : decode cX8_init 77 = .ok (.putfield 48, 3) := by decide +kernel
theorem dX8_init_80 : decode cX8_init 80 = .ok (.aload_n 0, 1) := by decide +kernel
theorem dX8_init_81 : decode cX8_init 81 = .ok (.iconst 0, 1) := by decide +kernel
theorem dX8_init_82 : decode cX8_init 82 = .ok (.putfield 51, 3) := by decide +kernel
theorem dX8_init_85 : decode cX8_init 85 = .ok (.aload_n 0, 1) := by decide +kernel
theorem dX8_init_86 : decode cX8_init 86 = .ok (.bipush 100, 2) := by decide +kernel
theorem dX8_init_88 : decode cX8_init 88 = .ok (.newarray .int, 2) := by decide +kernel
theorem dX8_init_90 : decode cX8_init 90 = .ok (.putfield 54, 3) := by decide +kernel
theorem dX8_init_93 : decode cX8_init 93 = .ok (.aload_n 0, 1) := by decide +kernel
theorem dX8_init_94 : decode cX8_init 94 = .ok (.iconst 5, 1) := by decide +kernel
theorem dX8_init_95 : decode cX8_init 95 = .ok (.newarray .int, 2) := by decide +kernel
theorem dX8_init_97 : decode cX8_init 97 = .ok (.putfield 57, 3) := by decide +kernel
theorem dX8_init_100 : decode cX8_init 100 = .ok (.aload_n 0, 1) := by decide +kernel
theorem dX8_init_101 : decode cX8_init 101 = .ok (.bipush 50, 2) := by decide +kernel
theorem dX8_init_103 : decode cX8_init 103 = .ok (.newarray .int, 2) := by decide +kernel
theorem dX8_init_105 : decode cX8_init 105 = .ok (.putfield 60, 3) := by decide +kernel
theorem dX8_init_108 : decode cX8_init 108 = .ok (.aload_n 0, 1) := by decide +kernel
theorem dX8_init_109 : decode cX8_init 109 = .ok (.bipush 50, 2) := by decide +kernel
theorem dX8_init_111 : decode cX8_init 111 = .ok (.newarray .int, 2) := by decide +kernel
theorem dX8_init_113 : decode cX8_init 113 = .ok (.putfield 63, 3) := by decide +kernel
theorem dX8_init_116 : decode cX8_init 116 = .ok (.aload_n 0, 1) := by decide +kernel
theorem dX8_init_117 : decode cX8_init 117 = .ok (.bipush 50, 2) := by decide +kernel
theorem dX8_init_119 : decode cX8_init 119 = .ok (.newarray .int, 2) := by decide +kernel
theorem dX8_init_121 : decode cX8_init 121 = .ok (.putfield 66, 3) := by decide +kernel
theorem dX8_init_124 : decode cX8_init 124 = .ok (.aload_n 0, 1) := by decide +kernel
theorem dX8_init_125 : decode cX8_init 125 = .ok (.bipush 50, 2) := by decide +kernel
theorem dX8_init_127 : decode cX8_init 127 = .ok (.newarray .int, 2) := by decide +kernel
theorem dX8_init_129 : decode cX8_init 129 = .ok (.putfield 69, 3) := by decide +kernel
theorem dX8_init_132 : decode cX8_init 132 = .ok (.aload_n 0, 1) := by decide +kernel
theorem dX8_init_133 : decode cX8_init 133 = .ok (.bipush 50, 2) := by decide +kernel
theorem dX8_init_135 : decode cX8_init 135 = .ok (.newarray .int, 2) := by decide +kernel
theorem dX8_init_137 : decode cX8_init 137 = .ok (.putfield 72, 3) := by decide +kernel
theorem dX8_init_140 : decode cX8_init 140 = .ok (.aload_n 0, 1) := by decide +kernel
theorem dX8_init_141 : decode cX8_init 141 = .ok (.sipush 500, 3) := by decide +kernel
theorem dX8_init_144 : decode cX8_init 144 = .ok (.newarray .int, 2) := by decide +kernel
theorem dX8_init_146 : decode cX8_init 146 = .ok (.putfield 75, 3) := by decide +kernel
theorem dX8_init_149 : decode cX8_init 149 = .ok (.aload_n 0, 1) := by decide +kernel
theorem dX8_init_150 : decode cX8_init 150 = .ok (.bipush 101, 2) := by decide +kernel
theorem dX8_init_152 : decode cX8_init 152 = .ok (.newarray .int, 2) := by decide +kernel
theorem dX8_init_154 : decode cX8_init 154 = .ok (.putfield 78, 3) := by decide +kernel
theorem dX8_init_157 : decode cX8_init 157 = .ok (.aload_n 0, 1) := by decide +kernel
theorem dX8_init_158 : decode cX8_init 158 = .ok (.iconst 0, 1) := by decide +kernel
theorem dX8_init_159 : decode cX8_init 159 = .ok (.putfield 81, 3) := by decide +kernel
theorem dX8_init_162 : decode cX8_init 162 = .ok (.aload_n 0, 1) := by decide +kernel
theorem dX8_init_163 : decode cX8_init 163 = .ok (.iconst 0, 1) := by decide +kernel
theorem dX8_init_164 : decode cX8_init 164 = .ok (.putfield 84, 3) := by decide +kernel
theorem dX8_init_167 : decode cX8_init 167 = .ok (.aload_n 0, 1) := by decide +kernel
theorem dX8_init_168 : decode cX8_init 168 = .ok (.iconst 0, 1) := by decide +kernel
theorem dX8_init_169 : decode cX8_init 169 = .ok (.putfield 87, 3) := by decide +kernel
theorem dX8_init_172 : decode cX8_init 172 = .ok (.aload_n 0, 1) := by decide +kernel
theorem dX8_init_173 : decode cX8_init 173 = .ok (.bipush 19, 2) := by decide +kernel
theorem dX8_init_175 : decode cX8_init 175 = .ok (.newarray .int, 2) := by decide +kernel
theorem dX8_init_177 : decode cX8_init 177 = .ok (.dup, 1) := by decide +kernel
theorem dX8_init_178 : decode cX8_init 178 = .ok (.iconst 0, 1) := by decide +kernel
theorem dX8_init_179 : decode cX8_init 179 = .ok (.bipush 101, 2) := by decide +kernel
theorem dX8_init_181 : decode cX8_init 181 = .ok (.iastore, 1) := by decide +kernel
theorem dX8_init_182 : decode cX8_init 182 = .ok (.dup, 1) := by decide +kernel
theorem dX8_init_183 : decode cX8_init 183 = .ok (.iconst 1, 1) := by decide +kernel
theorem dX8_init_184 : decode cX8_init 184 = .ok (.bipush 121, 2) := by decide +kernel
theorem dX8_init_186 : decode cX8_init 186 = .ok (.iastore, 1) := by decide +kernel
theorem dX8_init_187 : decode cX8_init 187 = .ok (.dup, 1) := by decide +kernel
theorem dX8_init_188 : decode cX8_init 188 = .ok (.iconst 2, 1) := by decide +kernel
theorem dX8_init_189 : decode cX8_init 189 = .ok (.bipush 101, 2) := by decide +kernel
theorem dX8_init_191 : decode cX8_init 191 = .ok (.iastore, 1) := by decide +kernel
theorem dX8_init_192 : decode cX8_init 192 = .ok (.dup, 1) := by decide +kernel
theorem dX8_init_193 : decode cX8_init 193 = .ok (.iconst 3, 1) := by decide +kernel
theorem dX8_init_194 : decode cX8_init 194 = .ok (.bipush 101, 2) := by decide +kernel
theorem dX8_init_196 : decode cX8_init 196 = .ok (.iastore, 1) := by decide +kernel
theorem dX8_init_197 : decode cX8_init 197 = .ok (.dup, 1) := by decide +kernel
theorem dX8_init_198 : decode cX8_init 198 = .ok (.iconst 4, 1) := by decide +kernel
theorem dX8_init_199 : decode cX8_init 199 = .ok (.bipush 97, 2) := by decide +kernel
theorem dX8_init_201 : decode cX8_init 201 = .ok (.iastore, 1) := by decide +kernel
theorem dX8_init_202 : decode cX8_init 202 = .ok (.dup, 1) := by decide +kernel
theorem dX8_init_203 : decode cX8_init 203 = .ok (.iconst 5, 1) := by decide +kernel
theorem dX8_init_204 : decode cX8_init 204 = .ok (.bipush 114, 2) := by decide +kernel
theorem dX8_init_206 : decode cX8_init 206 = .ok (.iastore, 1) := by decide +kernel
theorem dX8_init_207 : decode cX8_init 207 = .ok (.dup, 1) := by decide +kernel
theorem dX8_init_208 : decode cX8_init 208 = .ok (.bipush 6, 2) := by decide +kernel
theorem dX8_init_210 : decode cX8_init 210 = .ok (.bipush 108, 2) := by decide +kernel
theorem dX8_init_212 : decode cX8_init 212 = .ok (.iastore, 1) := by decide +kernel
theorem dX8_init_213 : decode cX8_init 213 = .ok (.dup, 1) := by decide +kernel
theorem dX8_init_214 : decode cX8_init 214 = .ok (.bipush 7, 2) := by decide +kernel
theorem dX8_init_216 : decode cX8_init 216 = .ok (.bipush 97, 2) := by decide +kernel
theorem dX8_init_218 : decode cX8_init 218 = .ok (.iastore, 1) := by decide +kernel
theorem dX8_init_219 : decode cX8_init 219 = .ok (.dup, 1) := by decide +kernel
theorem dX8_init_220 : decode cX8_init 220 = .ok (.bipush 8, 2) := by decide +kernel
theorem dX8_init_222 : decode cX8_init 222 = .ok (.bipush 116, 2) := by decide +kernel
theorem dX8_init_224 : decode cX8_init 224 = .ok (.iastore, 1) := by decide +kernel
theorem dX8_init_225 : decode cX8_init 225 = .ok (.dup, 1) := by decide +kernel
theorem dX8_init_226 : decode cX8_init 226 = .ok (.bipush 9, 2) := by decide +kernel
theorem dX8_init_228 : decode cX8_init 228 = .ok (.bipush 101, 2) := by decide +kernel
theorem dX8_init_230 : decode cX8_init 230 = .ok (.iastore, 1) := by decide +kernel
theorem dX8_init_231 : decode cX8_init 231 = .ok (.dup, 1) := by decide +kernel
theorem dX8_init_232 : decode cX8_init 232 = .ok (.bipush 10, 2) := by decide +kernel
theorem dX8_init_234 : decode cX8_init 234 = .ok (.bipush 104, 2) := by decide +kernel
theorem dX8_init_236 : decode cX8_init 236 = .ok (.iastore, 1) := by decide +kernel
theorem dX8_init_237 : decode cX8_init 237 = .ok (.dup, 1) := by decide +kernel
theorem dX8_init_238 : decode cX8_init 238 = .ok (.bipush 11, 2) := by decide +kernel
theorem dX8_init_240 : decode cX8_init 240 = .ok (.bipush 101, 2) := by decide +kernel
theorem dX8_init_242 : decode cX8_init 242 = .ok (.iastore, 1) := by decide +kernel
theorem dX8_init_243 : decode cX8_init 243 = .ok (.dup, 1) := by decide +kernel
theorem dX8_init_244 : decode cX8_init 244 = .ok (.bipush 12, 2) := by decide +kernel
theorem dX8_init_246 : decode cX8_init 246 = .ok (.bipush 97, 2) := by decide +kernel
theorem dX8_init_248 : decode cX8_init 248 = .ok (.iastore, 1) := by decide +kernel
theorem dX8_init_249 : decode cX8_init 249 = .ok (.dup, 1) := by decide +kernel
theorem dX8_init_250 : decode cX8_init 250 = .ok (.bipush 13, 2) := by decide +kernel
theorem dX8_init_252 : decode cX8_init 252 = .ok (.bipush 114, 2) := by decide +kernel
theorem dX8_init_254 : decode cX8_init 254 = .ok (.iastore, 1) := by decide +kernel
theorem dX8_init_255 : decode cX8_init 255 = .ok (.dup, 1) := by decide +kernel
theorem dX8_init_256 : decode cX8_init 256 = .ok (.bipush 14, 2) := by decide +kernel
theorem dX8_init_258 : decode cX8_init 258 = .ok (.bipush 115, 2) := by decide +kernel
theorem dX8_init_260 : decode cX8_init 260 = .ok (.iastore, 1) := by decide +kernel
theorem dX8_init_261 : decode cX8_init 261 = .ok (.dup, 1) := by decide +kernel
theorem dX8_init_262 : decode cX8_init 262 = .ok (.bipush 15, 2) := by decide +kernel
theorem dX8_init_264 : decode cX8_init 264 = .ok (.bipush 115, 2) := by decide +kernel
theorem dX8_init_266 : decode cX8_init 266 = .ok (.iastore, 1) := by decide +kernel
theorem dX8_init_267 : decode cX8_init 267 = .ok (.dup, 1) := by decide +kernel
theorem dX8_init_268 : decode cX8_init 268 = .ok (.bipush 16, 2) := by decide +kernel
theorem dX8_init_270 : decode cX8_init 270 = .ok (.bipush 119, 2) := by decide +kernel
theorem dX8_init_272 : decode cX8_init 272 = .ok (.iastore, 1) := by decide +kernel
theorem dX8_init_273 : decode cX8_init 273 = .ok (.dup, 1) := by decide +kernel
theorem dX8_init_274 : decode cX8_init 274 = .ok (.bipush 17, 2) := by decide +kernel
theorem dX8_init_276 : decode cX8_init 276 = .ok (.bipush 97, 2) := by decide +kernel
theorem dX8_init_278 : decode cX8_init 278 = .ok (.iastore, 1) := by decide +kernel
theorem dX8_init_279 : decode cX8_init 279 = .ok (.dup, 1) := by decide +kernel
theorem dX8_init_280 : decode cX8_init 280 = .ok (.bipush 18, 2) := by decide +kernel
theorem dX8_init_282 : decode cX8_init 282 = .ok (.bipush 112, 2) := by decide +kernel
theorem dX8_init_284 : decode cX8_init 284 = .ok (.iastore, 1) := by decide +kernel
theorem dX8_init_285 : decode cX8_init 285 = .ok (.putfield 90, 3) := by decide +kernel
theorem dX8_init_288 : decode cX8_init 288 = .ok (.aload_n 0, 1) := by decide +kernel
theorem dX8_init_289 : decode cX8_init 289 = .ok (.iconst 0, 1) := by decide +kernel
theorem dX8_init_290 : decode cX8_init 290 = .ok (.putfield 93, 3) := by decide +kernel
theorem dX8_init_293 : decode cX8_init 293 = .ok (.aload_n 0, 1) := by decide +kernel
theorem dX8_init_294 : decode cX8_init 294 = .ok (.bipush 10, 2) := by decide +kernel
theorem dX8_init_296 : decode cX8_init 296 = .ok (.newarray .int, 2) := by decide +kernel
theorem dX8_init_298 : decode cX8_init 298 = .ok (.putfield 96, 3) := by decide +kernel
theorem dX8_init_301 : decode cX8_init 301 = .ok (.aload_n 0, 1) := by decide +kernel
theorem dX8_init_302 : decode cX8_init 302 = .ok (.bipush 10, 2) := by decide +kernel
theorem dX8_init_304 : decode cX8_init 304 = .ok (.newarray .int, 2) := by decide +kernel
theorem dX8_init_306 : decode cX8_init 306 = .ok (.putfield 99, 3) := by decide +kernel
theorem dX8_init_309 : decode cX8_init 309 = .ok (.aload_n 0, 1) := by decide +kernel
theorem dX8_init_310 : decode cX8_init 310 = .ok (.bipush 100, 2) := by decide +kernel
theorem dX8_init_312 : decode cX8_init 312 = .ok (.newarray .boolean, 2) := by decide +kernel
theorem dX8_init_314 : decode cX8_init 314 = .ok (.putfield 102, 3) := by decide +kernel
theorem dX8_init_317 : decode cX8_init 317 = .ok (.aload_n 0, 1) := by decide +kernel
theorem dX8_init_318 : decode cX8_init 318 = .ok (.iconst 0, 1) := by decide +kernel
theorem dX8_init_319 : decode cX8_init 319 = .ok (.putfield 106, 3) := by decide +kernel
theorem dX8_init_322 : decode cX8_init 322 = .ok (.aload_n 0, 1) := by decide +kernel
theorem dX8_init_323 : decode cX8_init 323 = .ok (.iconst (-1), 1) := by decide +kernel
theorem dX8_init_324 : decode cX8_init 324 = .ok (.putfield 110, 3) := by decide +kernel
theorem dX8_init_327 : decode cX8_init 327 = .ok (.aload_n 0, 1) := by decide +kernel
theorem dX8_init_328 : decode cX8_init 328 = .ok (.bipush 20, 2) := by decide +kernel
theorem dX8_init_330 : decode cX8_init 330 = .ok (.putfield 113, 3) := by decide +kernel
theorem dX8_init_333 : decode cX8_init 333 = .ok (.aload_n 0, 1) := by decide +kernel
theorem dX8_init_334 : decode cX8_init 334 = .ok (.bipush 26, 2) := by decide +kernel
theorem dX8_init_336 : decode cX8_init 336 = .ok (.putfield 116, 3) := by decide +kernel
theorem dX8_init_339 : decode cX8_init 339 = .ok (.aload_n 0, 1) := by decide +kernel
theorem dX8_init_340 : decode cX8_init 340 = .ok (.iconst 0, 1) := by decide +kernel
theorem dX8_init_341 : decode cX8_init 341 = .ok (.putfield 119, 3) := by decide +kernel
theorem dX8_init_344 : decode cX8_init 344 = .ok (.aload_n 0, 1) := by decide +kernel
theorem dX8_init_345 : decode cX8_init 345 = .ok (.iconst 0, 1) := by decide +kernel
theorem dX8_init_346 : decode cX8_init 346 = .ok (.putfield 122, 3) := by decide +kernel
theorem dX8_init_349 : decode cX8_init 349 = .ok (.aload_n 0, 1) := by decide +kernel
theorem dX8_init_350 : decode cX8_init 350 = .ok (.lconst 0, 1) := by decide +kernel
theorem dX8_init_351 : decode cX8_init 351 = .ok (.putfield 125, 3) := by decide +kernel
theorem dX8_init_354 : decode cX8_init 354 = .ok (.aload_n 0, 1) := by decide +kernel
theorem dX8_init_355 : decode cX8_init 355 = .ok (.bipush 20, 2) := by decide +kernel
theorem dX8_init_357 : decode cX8_init 357 = .ok (.newarray .int, 2) := by decide +kernel
theorem dX8_init_359 : decode cX8_init 359 = .ok (.putfield 128, 3) := by decide +kernel
theorem dX8_init_362 : decode cX8_init 362 = .ok (.aload_n 0, 1) := by decide +kernel
theorem dX8_init_363 : decode cX8_init 363 = .ok (.iconst 0, 1) := by decide +kernel
theorem dX8_init_364 : decode cX8_init 364 = .ok (.putfield 131, 3) := by decide +kernel
theorem dX8_init_367 : decode cX8_init 367 = .ok (.aload_n 0, 1) := by decide +kernel
theorem dX8_init_368 : decode cX8_init 368 = .ok (.bipush 20, 2) := by decide +kernel
theorem dX8_init_370 : decode cX8_init 370 = .ok (.newarray .int, 2) := by decide +kernel
theorem dX8_init_372 : decode cX8_init 372 = .ok (.putfield 134, 3) := by decide +kernel
theorem dX8_init_375 : decode cX8_init 375 = .ok (.aload_n 0, 1) := by decide +kernel
theorem dX8_init_376 : decode cX8_init 376 = .ok (.bipush 6, 2) := by decide +kernel
theorem dX8_init_378 : decode cX8_init 378 = .ok (.newarray .int, 2) := by decide +kernel
theorem dX8_init_380 : decode cX8_init 380 = .ok (.dup, 1) := by decide +kernel
theorem dX8_init_381 : decode cX8_init 381 = .ok (.iconst 0, 1) := by decide +kernel
theorem dX8_init_382 : decode cX8_init 382 = .ok (.iconst (-1), 1) := by decide +kernel
theorem dX8_init_383 : decode cX8_init 383 = .ok (.iastore, 1) := by decide +kernel
theorem dX8_init_384 : decode cX8_init 384 = .ok (.dup, 1) := by decide +kernel
theorem dX8_init_385 : decode cX8_init 385 = .ok (.iconst 1, 1) := by decide +kernel
theorem dX8_init_386 : decode cX8_init 386 = .ok (.iconst (-1), 1) := by decide +kernel
theorem dX8_init_387 : decode cX8_init 387 = .ok (.iastore, 1) := by decide +kernel
theorem dX8_init_388 : decode cX8_init 388 = .ok (.dup, 1) := by decide +kernel
theorem dX8_init_389 : decode cX8_init 389 = .ok (.iconst 2, 1) := by decide +kernel
theorem dX8_init_390 : decode cX8_init 390 = .ok (.iconst (-1), 1) := by decide +kernel
theorem dX8_init_391 : decode cX8_init 391 = .ok (.iastore, 1) := by decide +kernel
theorem dX8_init_392 : decode cX8_init 392 = .ok (.dup, 1) := by decide +kernel
theorem dX8_init_393 : decode cX8_init 393 = .ok (.iconst 3, 1) := by decide +kernel
theorem dX8_init_394 : decode cX8_init 394 = .ok (.iconst (-1), 1) := by decide +kernel
theorem dX8_init_395 : decode cX8_init 395 = .ok (.iastore, 1) := by decide +kernel
theorem dX8_init_396 : decode cX8_init 396 = .ok (.dup, 1) := by decide +kernel
theorem dX8_init_397 : decode cX8_init 397 = .ok (.iconst 4, 1) := by decide +kernel
theorem dX8_init_398 : decode cX8_init 398 = .ok (.iconst (-1), 1) := by decide +kernel
theorem dX8_init_399 : decode cX8_init 399 = .ok (.iastore, 1) := by decide +kernel
theorem dX8_init_400 : decode cX8_init 400 = .ok (.dup, 1) := by decide +kernel
theorem dX8_init_401 : decode cX8_init 401 = .ok (.iconst 5, 1) := by decide +kernel
theorem dX8_init_402 : decode cX8_init 402 = .ok (.iconst (-1), 1) := by decide +kernel
theorem dX8_init_403 : decode cX8_init 403 = .ok (.iastore, 1) := by decide +kernel
theorem dX8_init_404 : decode cX8_init 404 = .ok (.putfield 137, 3) := by decide +kernel
theorem dX8_init_407 : decode cX8_init 407 = .ok (.aload_n 0, 1) := by decide +kernel
theorem dX8_init_408 : decode cX8_init 408 = .ok (.bipush 6, 2) := by decide +kernel
theorem dX8_init_410 : decode cX8_init 410 = .ok (.newarray .int, 2) := by decide +kernel
theorem dX8_init_412 : decode cX8_init 412 = .ok (.putfield 140, 3) := by decide +kernel
theorem dX8_init_415 : decode cX8_init 415 = .ok (.aload_n 0, 1) := by decide +kernel
theorem dX8_init_416 : decode cX8_init 416 = .ok (.sipush 360, 3) := by decide +kernel
theorem dX8_init_419 : decode cX8_init 419 = .ok (.newarray .long, 2) := by decide +kernel
theorem dX8_init_421 : decode cX8_init 421 = .ok (.putfield 143, 3) := by decide +kernel
theorem dX8_init_424 : decode cX8_init 424 = .ok (.aload_n 0, 1) := by decide +kernel
theorem dX8_init_425 : decode cX8_init 425 = .ok (.bipush 60, 2) := by decide +kernel
theorem dX8_init_427 : decode cX8_init 427 = .ok (.newarray .long, 2) := by decide +kernel
theorem dX8_init_429 : decode cX8_init 429 = .ok (.putfield 147, 3) := by decide +kernel
theorem dX8_init_432 : decode cX8_init 432 = .ok (.return_, 1) := by decide +kernel
theorem dX8_in_0 : decode cX8_in 0 = .ok (.iload_n 1, 1) := by decide +kernel
theorem dX8_in_1 : decode cX8_in 1 = .ok (.iload_n 2, 1) := by decide +kernel
theorem dX8_in_2 : decode cX8_in 2 = .ok (.if_icmp .lt 12, 3) := by decide +kernel
theorem dX8_in_5 : decode cX8_in 5 = .ok (.iload_n 1, 1) := by decide +kernel
theorem dX8_in_6 : decode cX8_in 6 = .ok (.iload_n 3, 1) := by decide +kernel
theorem dX8_in_7 : decode cX8_in 7 = .ok (.if_icmp .gt 7, 3) := by decide +kernel
theorem dX8_in_10 : decode cX8_in 10 = .ok (.iconst 1, 1) := by decide +kernel
theorem dX8_in_11 : decode cX8_in 11 = .ok (.goto 4, 3) := by decide +kernel
theorem dX8_in_14 : decode cX8_in 14 = .ok (.iconst 0, 1) := by decide +kernel
theorem dX8_in_15 : decode cX8_in 15 = .ok (.ireturn, 1) := by decide +kernel
theorem dX8_min_0 : decode cX8_min 0 = .ok (.iload_n 1, 1) := by decide +kernel
theorem dX8_min_1 : decode cX8_min 1 = .ok (.iload_n 2, 1) := by decide +kernel
theorem dX8_min_2 : decode cX8_min 2 = .ok (.if_icmp .ge 7, 3) := by decide +kernel
theorem dX8_min_5 : decode cX8_min 5 = .ok (.iload_n 1, 1) := by decide +kernel
theorem dX8_min_6 : decode cX8_min 6 = .ok (.goto 4, 3) := by decide +kernel
theorem dX8_min_9 : decode cX8_min 9 = .ok (.iload_n 2, 1) := by decide +kernel
theorem dX8_min_10 : decode cX8_min 10 = .ok (.ireturn, 1) := by decide +kernel
theorem dX8_apart_0 : decode cX8_apart 0 = .ok (.iload_n 1, 1) := by decide +kernel
theorem dX8_apart_1 : decode cX8_apart 1 = .ok (.iload_n 2, 1) := by decide +kernel
theorem dX8_apart_2 : decode cX8_apart 2 = .ok (.if_icmp .ge 9, 3) := by decide +kernel
theorem dX8_apart_5 : decode cX8_apart 5 = .ok (.iload_n 2, 1) := by decide +kernel
theorem dX8_apart_6 : decode cX8_apart 6 = .ok (.iload_n 1, 1) := by decide +kernel
theorem dX8_apart_7 : decode cX8_apart 7 = .ok (.isub, 1) := by decide +kernel
theorem dX8_apart_8 : decode cX8_apart 8 = .ok (.goto 6, 3) := by decide +kernel
theorem dX8_apart_11 : decode cX8_apart 11 = .ok (.iload_n 1, 1) := by decide +kernel
theorem dX8_apart_12 : decode cX8_apart 12 = .ok (.iload_n 2, 1) := by decide +kernel
theorem dX8_apart_13 : decode cX8_apart 13 = .ok (.isub, 1) := by decide +kernel
theorem dX8_apart_14 : decode cX8_apart 14 = .ok (.ireturn, 1) := by decide +kernel
theorem dX8_isPlace_0 : decode cX8_isPlace 0 = .ok (.aload_n 0, 1) := by decide +kernel
theorem dX8_isPlace_1 : decode cX8_isPlace 1 = .ok (.iload_n 1, 1) := by decide +kernel
theorem dX8_isPlace_2 : decode cX8_isPlace 2 = .ok (.iconst 0, 1) := by decide +kernel
theorem dX8_isPlace_3 : decode cX8_isPlace 3 = .ok (.bipush 40, 2) := by decide +kernel
theorem dX8_isPlace_5 : decode cX8_isPlace 5 = .ok (.invokevirtual 150, 3) := by decide +kernel
theorem dX8_isPlace_8 : decode cX8_isPlace 8 = .ok (.ireturn, 1) := by decide +kernel
theorem dX8_isSeat_0 : decode cX8_isSeat 0 = .ok (.aload_n 0, 1) := by decide +kernel
theorem dX8_isSeat_1 : decode cX8_isSeat 1 = .ok (.iload_n 1, 1) := by decide +kernel
theorem dX8_isSeat_2 : decode cX8_isSeat 2 = .ok (.iconst 0, 1) := by decide +kernel
theorem dX8_isSeat_3 : decode cX8_isSeat 3 = .ok (.aload_n 0, 1) := by decide +kernel
theorem dX8_isSeat_4 : decode cX8_isSeat 4 = .ok (.getfield 16, 3) := by decide +kernel
theorem dX8_isSeat_7 : decode cX8_isSeat 7 = .ok (.iconst 1, 1) := by decide +kernel
theorem dX8_isSeat_8 : decode cX8_isSeat 8 = .ok (.isub, 1) := by decide +kernel
theorem dX8_isSeat_9 : decode cX8_isSeat 9 = .ok (.invokevirtual 150, 3) := by decide +kernel
theorem dX8_isSeat_12 : decode cX8_isSeat 12 = .ok (.ireturn, 1) := by decide +kernel
theorem dX8_mouth_0 : decode cX8_mouth 0 = .ok (.aload_n 0, 1) := by decide +kernel
theorem dX8_mouth_1 : decode cX8_mouth 1 = .ok (.iload_n 1, 1) := by decide +kernel
theorem dX8_mouth_2 : decode cX8_mouth 2 = .ok (.invokevirtual 154, 3) := by decide +kernel
theorem dX8_mouth_5 : decode cX8_mouth 5 = .ok (.ifCond .ne 5, 3) := by decide +kernel
theorem dX8_mouth_8 : decode cX8_mouth 8 = .ok (.iconst (-1), 1) := by decide +kernel
theorem dX8_mouth_9 : decode cX8_mouth 9 = .ok (.ireturn, 1) := by decide +kernel
theorem dX8_mouth_10 : decode cX8_mouth 10 = .ok (.aload_n 0, 1) := by decide +kernel
theorem dX8_mouth_11 : decode cX8_mouth 11 = .ok (.getfield 7, 3) := by decide +kernel
theorem dX8_mouth_14 : decode cX8_mouth 14 = .ok (.istore_n 2, 1) := by decide +kernel
theorem dX8_mouth_15 : decode cX8_mouth 15 = .ok (.aload_n 0, 1) := by decide +kernel
theorem dX8_mouth_16 : decode cX8_mouth 16 = .ok (.iload_n 1, 1) := by decide +kernel
theorem dX8_mouth_17 : decode cX8_mouth 17 = .ok (.putfield 7, 3) := by decide +kernel
theorem dX8_mouth_20 : decode cX8_mouth 20 = .ok (.iload_n 2, 1) := by decide +kernel
theorem dX8_mouth_21 : decode cX8_mouth 21 = .ok (.ireturn, 1) := by decide +kernel
theorem dX8_jaw_0 : decode cX8_jaw 0 = .ok (.aload_n 0, 1) := by decide +kernel
theorem dX8_jaw_1 : decode cX8_jaw 1 = .ok (.iload_n 1, 1) := by decide +kernel
theorem dX8_jaw_2 : decode cX8_jaw 2 = .ok (.invokevirtual 154, 3) := by decide +kernel
theorem dX8_jaw_5 : decode cX8_jaw 5 = .ok (.ifCond .ne 5, 3) := by decide +kernel
theorem dX8_jaw_8 : decode cX8_jaw 8 = .ok (.iconst (-1), 1) := by decide +kernel
theorem dX8_jaw_9 : decode cX8_jaw 9 = .ok (.ireturn, 1) := by decide +kernel
theorem dX8_jaw_10 : decode cX8_jaw 10 = .ok (.lload_n 2, 1) := by decide +kernel
theorem dX8_jaw_11 : decode cX8_jaw 11 = .ok (.lconst 0, 1) := by decide +kernel
theorem dX8_jaw_12 : decode cX8_jaw 12 = .ok (.lcmp, 1) := by decide +kernel
theorem dX8_jaw_13 : decode cX8_jaw 13 = .ok (.ifCond .lt 11, 3) := by decide +kernel
theorem dX8_jaw_16 : decode cX8_jaw 16 = .ok (.lload_n 2, 1) := by decide +kernel
theorem dX8_jaw_17 : decode cX8_jaw 17 = .ok (.ldc2_w 158, 3) := by decide +kernel
theorem dX8_jaw_20 : decode cX8_jaw 20 = .ok (.lcmp, 1) := by decide +kernel
theorem dX8_jaw_21 : decode cX8_jaw 21 = .ok (.ifCond .le 6, 3) := by decide +kernel
theorem dX8_jaw_24 : decode cX8_jaw 24 = .ok (.bipush (-2), 2) := by decide +kernel
theorem dX8_jaw_26 : decode cX8_jaw 26 = .ok (.ireturn, 1) := by decide +kernel
theorem dX8_jaw_27 : decode cX8_jaw 27 = .ok (.aload_n 0, 1) := by decide +kernel
theorem dX8_jaw_28 : decode cX8_jaw 28 = .ok (.getfield 13, 3) := by decide +kernel
theorem dX8_jaw_31 : decode cX8_jaw 31 = .ok (.istore 4, 2) := by decide +kernel
theorem dX8_jaw_33 : decode cX8_jaw 33 = .ok (.aload_n 0, 1) := by decide +kernel
theorem dX8_jaw_34 : decode cX8_jaw 34 = .ok (.iload_n 1, 1) := by decide +kernel
theorem dX8_jaw_35 : decode cX8_jaw 35 = .ok (.putfield 13, 3) := by decide +kernel
theorem dX8_jaw_38 : decode cX8_jaw 38 = .ok (.aload_n 0, 1) := by decide +kernel
theorem dX8_jaw_39 : decode cX8_jaw 39 = .ok (.lload_n 2, 1) := by decide +kernel
theorem dX8_jaw_40 : decode cX8_jaw 40 = .ok (.putfield 25, 3) := by decide +kernel
theorem dX8_jaw_43 : decode cX8_jaw 43 = .ok (.iload 4, 2) := by decide +kernel
theorem dX8_jaw_45 : decode cX8_jaw 45 = .ok (.ireturn, 1) := by decide +kernel
theorem dX8_seat_0 : decode cX8_seat 0 = .ok (.aload_n 0, 1) := by decide +kernel
theorem dX8_seat_1 : decode cX8_seat 1 = .ok (.iload_n 1, 1) := by decide +kernel
theorem dX8_seat_2 : decode cX8_seat 2 = .ok (.iconst 1, 1) := by decide +kernel
theorem dX8_seat_3 : decode cX8_seat 3 = .ok (.bipush 40, 2) := by decide +kernel
theorem dX8_seat_5 : decode cX8_seat 5 = .ok (.invokevirtual 150, 3) := by decide +kernel
theorem dX8_seat_8 : decode cX8_seat 8 = .ok (.ifCond .ne 6, 3) := by decide +kernel
theorem dX8_seat_11 : decode cX8_seat 11 = .ok (.bipush (-2), 2) := by decide +kernel
theorem dX8_seat_13 : decode cX8_seat 13 = .ok (.ireturn, 1) := by decide +kernel
theorem dX8_seat_14 : decode cX8_seat 14 = .ok (.aload_n 0, 1) := by decide +kernel
theorem dX8_seat_15 : decode cX8_seat 15 = .ok (.iload_n 2, 1) := by decide +kernel
theorem dX8_seat_16 : decode cX8_seat 16 = .ok (.invokevirtual 154, 3) := by decide +kernel
theorem dX8_seat_19 : decode cX8_seat 19 = .ok (.ifCond .ne 5, 3) := by decide +kernel
theorem dX8_seat_22 : decode cX8_seat 22 = .ok (.iconst (-1), 1) := by decide +kernel
theorem dX8_seat_23 : decode cX8_seat 23 = .ok (.ireturn, 1) := by decide +kernel
theorem dX8_seat_24 : decode cX8_seat 24 = .ok (.aload_n 0, 1) := by decide +kernel
theorem dX8_seat_25 : decode cX8_seat 25 = .ok (.getfield 16, 3) := by decide +kernel
theorem dX8_seat_28 : decode cX8_seat 28 = .ok (.bipush 8, 2) := by decide +kernel
theorem dX8_seat_30 : decode cX8_seat 30 = .ok (.if_icmp .ne 6, 3) := by decide +kernel
theorem dX8_seat_33 : decode cX8_seat 33 = .ok (.bipush (-4), 2) := by decide +kernel
theorem dX8_seat_35 : decode cX8_seat 35 = .ok (.ireturn, 1) := by decide +kernel
theorem dX8_seat_36 : decode cX8_seat 36 = .ok (.aload_n 0, 1) := by decide +kernel
theorem dX8_seat_37 : decode cX8_seat 37 = .ok (.getfield 29, 3) := by decide +kernel
theorem dX8_seat_40 : decode cX8_seat 40 = .ok (.aload_n 0, 1) := by decide +kernel
theorem dX8_seat_41 : decode cX8_seat 41 = .ok (.getfield 16, 3) := by decide +kernel
theorem dX8_seat_44 : decode cX8_seat 44 = .ok (.iload_n 1, 1) := by decide +kernel
theorem dX8_seat_45 : decode cX8_seat 45 = .ok (.iastore, 1) := by decide +kernel
theorem dX8_seat_46 : decode cX8_seat 46 = .ok (.aload_n 0, 1) := by decide +kernel
theorem dX8_seat_47 : decode cX8_seat 47 = .ok (.getfield 33, 3) := by decide +kernel
theorem dX8_seat_50 : decode cX8_seat 50 = .ok (.aload_n 0, 1) := by decide +kernel
theorem dX8_seat_51 : decode cX8_seat 51 = .ok (.getfield 16, 3) := by decide +kernel
theorem dX8_seat_54 : decode cX8_seat 54 = .ok (.iload_n 2, 1) := by decide +kernel
theorem dX8_seat_55 : decode cX8_seat 55 = .ok (.iastore, 1) := by decide +kernel
theorem dX8_seat_56 : decode cX8_seat 56 = .ok (.aload_n 0, 1) := by decide +kernel
theorem dX8_seat_57 : decode cX8_seat 57 = .ok (.dup, 1) := by decide +kernel
theorem dX8_seat_58 : decode cX8_seat 58 = .ok (.getfield 16, 3) := by decide +kernel
theorem dX8_seat_61 : decode cX8_seat 61 = .ok (.iconst 1, 1) := by decide +kernel
theorem dX8_seat_62 : decode cX8_seat 62 = .ok (.iadd, 1) := by decide +kernel
theorem dX8_seat_63 : decode cX8_seat 63 = .ok (.putfield 16, 3) := by decide +kernel
theorem dX8_seat_66 : decode cX8_seat 66 = .ok (.aload_n 0, 1) := by decide +kernel
theorem dX8_seat_67 : decode cX8_seat 67 = .ok (.getfield 16, 3) := by decide +kernel
theorem dX8_seat_70 : decode cX8_seat 70 = .ok (.iconst 1, 1) := by decide +kernel
theorem dX8_seat_71 : decode cX8_seat 71 = .ok (.isub, 1) := by decide +kernel
theorem dX8_seat_72 : decode cX8_seat 72 = .ok (.ireturn, 1) := by decide +kernel
theorem dX8_of_0 : decode cX8_of 0 = .ok (.aload_n 0, 1) := by decide +kernel
theorem dX8_of_1 : decode cX8_of 1 = .ok (.iload_n 1, 1) := by decide +kernel
theorem dX8_of_2 : decode cX8_of 2 = .ok (.invokevirtual 160, 3) := by decide +kernel
theorem dX8_of_5 : decode cX8_of 5 = .ok (.ifCond .eq 13, 3) := by decide +kernel
theorem dX8_of_8 : decode cX8_of 8 = .ok (.aload_n 0, 1) := by decide +kernel
theorem dX8_of_9 : decode cX8_of 9 = .ok (.iload_n 2, 1) := by decide +kernel
theorem dX8_of_10 : decode cX8_of 10 = .ok (.iconst 0, 1) := by decide +kernel
theorem dX8_of_11 : decode cX8_of 11 = .ok (.iconst 1, 1) := by decide +kernel
theorem dX8_of_12 : decode cX8_of 12 = .ok (.invokevirtual 150, 3) := by decide +kernel
theorem dX8_of_15 : decode cX8_of 15 = .ok (.ifCond .ne 7, 3) := by decide +kernel
theorem dX8_of_18 : decode cX8_of 18 = .ok (.iconst (-1), 1) := by decide +kernel
theorem dX8_of_19 : decode cX8_of 19 = .ok (.goto 22, 3) := by decide +kernel
theorem dX8_of_22 : decode cX8_of 22 = .ok (.iload_n 2, 1) := by decide +kernel
theorem dX8_of_23 : decode cX8_of 23 = .ok (.ifCond .ne 12, 3) := by decide +kernel
theorem dX8_of_26 : decode cX8_of 26 = .ok (.aload_n 0, 1) := by decide +kernel
theorem dX8_of_27 : decode cX8_of 27 = .ok (.getfield 29, 3) := by decide +kernel
theorem dX8_of_30 : decode cX8_of 30 = .ok (.iload_n 1, 1) := by decide +kernel
theorem dX8_of_31 : decode cX8_of 31 = .ok (.iaload, 1) := by decide +kernel
theorem dX8_of_32 : decode cX8_of 32 = .ok (.goto 9, 3) := by decide +kernel
theorem dX8_of_35 : decode cX8_of 35 = .ok (.aload_n 0, 1) := by decide +kernel
theorem dX8_of_36 : decode cX8_of 36 = .ok (.getfield 33, 3) := by decide +kernel
theorem dX8_of_39 : decode cX8_of 39 = .ok (.iload_n 1, 1) := by decide +kernel
theorem dX8_of_40 : decode cX8_of 40 = .ok (.iaload, 1) := by decide +kernel
theorem dX8_of_41 : decode cX8_of 41 = .ok (.ireturn, 1) := by decide +kernel
theorem dX8_say_0 : decode cX8_say 0 = .ok (.iload_n 1, 1) := by decide +kernel
theorem dX8_say_1 : decode cX8_say 1 = .ok (.iconst (-1), 1) := by decide +kernel
theorem dX8_say_2 : decode cX8_say 2 = .ok (.if_icmp .ne 10, 3) := by decide +kernel
theorem dX8_say_5 : decode cX8_say 5 = .ok (.aload_n 0, 1) := by decide +kernel
theorem dX8_say_6 : decode cX8_say 6 = .ok (.iconst 0, 1) := by decide +kernel
theorem dX8_say_7 : decode cX8_say 7 = .ok (.putfield 19, 3) := by decide +kernel
theorem dX8_say_10 : decode cX8_say 10 = .ok (.iconst 0, 1) := by decide +kernel
theorem dX8_say_11 : decode cX8_say 11 = .ok (.ireturn, 1) := by decide +kernel
theorem dX8_say_12 : decode cX8_say 12 = .ok (.aload_n 0, 1) := by decide +kernel
theorem dX8_say_13 : decode cX8_say 13 = .ok (.iload_n 1, 1) := by decide +kernel
theorem dX8_say_14 : decode cX8_say 14 = .ok (.iconst 0, 1) := by decide +kernel
theorem dX8_say_15 : decode cX8_say 15 = .ok (.bipush 9, 2) := by decide +kernel
theorem dX8_say_17 : decode cX8_say 17 = .ok (.invokevirtual 150, 3) := by decide +kernel
theorem dX8_say_20 : decode cX8_say 20 = .ok (.ifCond .ne 5, 3) := by decide +kernel
theorem dX8_say_23 : decode cX8_say 23 = .ok (.iconst (-1), 1) := by decide +kernel
theorem dX8_say_24 : decode cX8_say 24 = .ok (.ireturn, 1) := by decide +kernel
theorem dX8_say_25 : decode cX8_say 25 = .ok (.aload_n 0, 1) := by decide +kernel
theorem dX8_say_26 : decode cX8_say 26 = .ok (.getfield 19, 3) := by decide +kernel
theorem dX8_say_29 : decode cX8_say 29 = .ok (.bipush 20, 2) := by decide +kernel
theorem dX8_say_31 : decode cX8_say 31 = .ok (.if_icmp .ne 6, 3) := by decide +kernel
theorem dX8_say_34 : decode cX8_say 34 = .ok (.bipush (-4), 2) := by decide +kernel
theorem dX8_say_36 : decode cX8_say 36 = .ok (.ireturn, 1) := by decide +kernel
theorem dX8_say_37 : decode cX8_say 37 = .ok (.aload_n 0, 1) := by decide +kernel
theorem dX8_say_38 : decode cX8_say 38 = .ok (.getfield 36, 3) := by decide +kernel
theorem dX8_say_41 : decode cX8_say 41 = .ok (.aload_n 0, 1) := by decide +kernel
theorem dX8_say_42 : decode cX8_say 42 = .ok (.getfield 19, 3) := by decide +kernel
theorem dX8_say_45 : decode cX8_say 45 = .ok (.iload_n 1, 1) := by decide +kernel
theorem dX8_say_46 : decode cX8_say 46 = .ok (.iastore, 1) := by decide +kernel
theorem dX8_say_47 : decode cX8_say 47 = .ok (.aload_n 0, 1) := by decide +kernel
theorem dX8_say_48 : decode cX8_say 48 = .ok (.dup, 1) := by decide +kernel
theorem dX8_say_49 : decode cX8_say 49 = .ok (.getfield 19, 3) := by decide +kernel
theorem dX8_say_52 : decode cX8_say 52 = .ok (.iconst 1, 1) := by decide +kernel
theorem dX8_say_53 : decode cX8_say 53 = .ok (.iadd, 1) := by decide +kernel
theorem dX8_say_54 : decode cX8_say 54 = .ok (.putfield 19, 3) := by decide +kernel
theorem dX8_say_57 : decode cX8_say 57 = .ok (.aload_n 0, 1) := by decide +kernel
theorem dX8_say_58 : decode cX8_say 58 = .ok (.getfield 19, 3) := by decide +kernel
theorem dX8_say_61 : decode cX8_say 61 = .ok (.ireturn, 1) := by decide +kernel
theorem dX8_feed_0 : decode cX8_feed 0 = .ok (.aload_n 0, 1) := by decide +kernel
theorem dX8_feed_1 : decode cX8_feed 1 = .ok (.iload_n 2, 1) := by decide +kernel
theorem dX8_feed_2 : decode cX8_feed 2 = .ok (.iconst 0, 1) := by decide +kernel
theorem dX8_feed_3 : decode cX8_feed 3 = .ok (.iconst 4, 1) := by decide +kernel
theorem dX8_feed_4 : decode cX8_feed 4 = .ok (.invokevirtual 150, 3) := by decide +kernel
theorem dX8_feed_7 : decode cX8_feed 7 = .ok (.ifCond .ne 6, 3) := by decide +kernel
theorem dX8_feed_10 : decode cX8_feed 10 = .ok (.bipush (-2), 2) := by decide +kernel
theorem dX8_feed_12 : decode cX8_feed 12 = .ok (.ireturn, 1) := by decide +kernel
theorem dX8_feed_13 : decode cX8_feed 13 = .ok (.aload_n 0, 1) := by decide +kernel
theorem dX8_feed_14 : decode cX8_feed 14 = .ok (.getfield 45, 3) := by decide +kernel
theorem dX8_feed_17 : decode cX8_feed 17 = .ok (.iload_n 2, 1) := by decide +kernel
theorem dX8_feed_18 : decode cX8_feed 18 = .ok (.iadd, 1) := by decide +kernel
theorem dX8_feed_19 : decode cX8_feed 19 = .ok (.bipush 100, 2) := by decide +kernel
theorem dX8_feed_21 : decode cX8_feed 21 = .ok (.if_icmp .le 6, 3) := by decide +kernel
theorem dX8_feed_24 : decode cX8_feed 24 = .ok (.bipush (-4), 2) := by decide +kernel
theorem dX8_feed_26 : decode cX8_feed 26 = .ok (.ireturn, 1) := by decide +kernel
theorem dX8_feed_27 : decode cX8_feed 27 = .ok (.iload_n 2, 1) := by decide +kernel
theorem dX8_feed_28 : decode cX8_feed 28 = .ok (.iconst 1, 1) := by decide +kernel
theorem dX8_feed_29 : decode cX8_feed 29 = .ok (.isub, 1) := by decide +kernel
theorem dX8_feed_30 : decode cX8_feed 30 = .ok (.istore_n 3, 1) := by decide +kernel
theorem dX8_feed_31 : decode cX8_feed 31 = .ok (.iload_n 3, 1) := by decide +kernel
theorem dX8_feed_32 : decode cX8_feed 32 = .ok (.ifCond .lt 35, 3) := by decide +kernel
theorem dX8_feed_35 : decode cX8_feed 35 = .ok (.aload_n 0, 1) := by decide +kernel
theorem dX8_feed_36 : decode cX8_feed 36 = .ok (.getfield 54, 3) := by decide +kernel
theorem dX8_feed_39 : decode cX8_feed 39 = .ok (.aload_n 0, 1) := by decide +kernel
theorem dX8_feed_40 : decode cX8_feed 40 = .ok (.getfield 45, 3) := by decide +kernel
theorem dX8_feed_43 : decode cX8_feed 43 = .ok (.iload_n 1, 1) := by decide +kernel
theorem dX8_feed_44 : decode cX8_feed 44 = .ok (.bipush 8, 2) := by decide +kernel
theorem dX8_feed_46 : decode cX8_feed 46 = .ok (.iload_n 3, 1) := by decide +kernel
theorem dX8_feed_47 : decode cX8_feed 47 = .ok (.imul, 1) := by decide +kernel
theorem dX8_feed_48 : decode cX8_feed 48 = .ok (.ishr, 1) := by decide +kernel
theorem dX8_feed_49 : decode cX8_feed 49 = .ok (.i2b, 1) := by decide +kernel
theorem dX8_feed_50 : decode cX8_feed 50 = .ok (.iastore, 1) := by decide +kernel
theorem dX8_feed_51 : decode cX8_feed 51 = .ok (.aload_n 0, 1) := by decide +kernel
theorem dX8_feed_52 : decode cX8_feed 52 = .ok (.dup, 1) := by decide +kernel
theorem dX8_feed_53 : decode cX8_feed 53 = .ok (.getfield 45, 3) := by decide +kernel
theorem dX8_feed_56 : decode cX8_feed 56 = .ok (.iconst 1, 1) := by decide +kernel
theorem dX8_feed_57 : decode cX8_feed 57 = .ok (.iadd, 1) := by decide +kernel
theorem dX8_feed_58 : decode cX8_feed 58 = .ok (.putfield 45, 3) := by decide +kernel
theorem dX8_feed_61 : decode cX8_feed 61 = .ok (.iinc 3 (-1), 3) := by decide +kernel
theorem dX8_feed_64 : decode cX8_feed 64 = .ok (.goto (-33), 3) := by decide +kernel
theorem dX8_feed_67 : decode cX8_feed 67 = .ok (.aload_n 0, 1) := by decide +kernel
theorem dX8_feed_68 : decode cX8_feed 68 = .ok (.getfield 45, 3) := by decide +kernel
theorem dX8_feed_71 : decode cX8_feed 71 = .ok (.ireturn, 1) := by decide +kernel
theorem dX8_next_0 : decode cX8_next 0 = .ok (.aload_n 0, 1) := by decide +kernel
theorem dX8_next_1 : decode cX8_next 1 = .ok (.getfield 48, 3) := by decide +kernel
theorem dX8_next_4 : decode cX8_next 4 = .ok (.aload_n 0, 1) := by decide +kernel
theorem dX8_next_5 : decode cX8_next 5 = .ok (.getfield 45, 3) := by decide +kernel
theorem dX8_next_8 : decode cX8_next 8 = .ok (.if_icmp .ge 15, 3) := by decide +kernel
theorem dX8_next_11 : decode cX8_next 11 = .ok (.aload_n 0, 1) := by decide +kernel
theorem dX8_next_12 : decode cX8_next 12 = .ok (.getfield 54, 3) := by decide +kernel
theorem dX8_next_15 : decode cX8_next 15 = .ok (.aload_n 0, 1) := by decide +kernel
theorem dX8_next_16 : decode cX8_next 16 = .ok (.getfield 48, 3) := by decide +kernel
theorem dX8_next_19 : decode cX8_next 19 = .ok (.iaload, 1) := by decide +kernel
theorem dX8_next_20 : decode cX8_next 20 = .ok (.goto 4, 3) := by decide +kernel
theorem dX8_next_23 : decode cX8_next 23 = .ok (.iconst (-1), 1) := by decide +kernel
theorem dX8_next_24 : decode cX8_next 24 = .ok (.ireturn, 1) := by decide +kernel
theorem dX8_second_0 : decode cX8_second 0 = .ok (.aload_n 0, 1) := by decide +kernel
theorem dX8_second_1 : decode cX8_second 1 = .ok (.getfield 48, 3) := by decide +kernel
theorem dX8_second_4 : decode cX8_second 4 = .ok (.iconst 1, 1) := by decide +kernel
theorem dX8_second_5 : decode cX8_second 5 = .ok (.iadd, 1) := by decide +kernel
theorem dX8_second_6 : decode cX8_second 6 = .ok (.aload_n 0, 1) := by decide +kernel
theorem dX8_second_7 : decode cX8_second 7 = .ok (.getfield 45, 3) := by decide +kernel
theorem dX8_second_10 : decode cX8_second 10 = .ok (.if_icmp .ge 17, 3) := by decide +kernel
theorem dX8_second_13 : decode cX8_second 13 = .ok (.aload_n 0, 1) := by decide +kernel
theorem dX8_second_14 : decode cX8_second 14 = .ok (.getfield 54, 3) := by decide +kernel
theorem dX8_second_17 : decode cX8_second 17 = .ok (.aload_n 0, 1) := by decide +kernel
theorem dX8_second_18 : decode cX8_second 18 = .ok (.getfield 48, 3) := by decide +kernel
theorem dX8_second_21 : decode cX8_second 21 = .ok (.iconst 1, 1) := by decide +kernel
theorem dX8_second_22 : decode cX8_second 22 = .ok (.iadd, 1) := by decide +kernel
theorem dX8_second_23 : decode cX8_second 23 = .ok (.iaload, 1) := by decide +kernel
theorem dX8_second_24 : decode cX8_second 24 = .ok (.goto 4, 3) := by decide +kernel
theorem dX8_second_27 : decode cX8_second 27 = .ok (.iconst (-1), 1) := by decide +kernel
theorem dX8_second_28 : decode cX8_second 28 = .ok (.ireturn, 1) := by decide +kernel
theorem dX8_takesSign_0 : decode cX8_takesSign 0 = .ok (.aload_n 0, 1) := by decide +kernel
theorem dX8_takesSign_1 : decode cX8_takesSign 1 = .ok (.invokevirtual 163, 3) := by decide +kernel
theorem dX8_takesSign_4 : decode cX8_takesSign 4 = .ok (.iload_n 1, 1) := by decide +kernel
theorem dX8_takesSign_5 : decode cX8_takesSign 5 = .ok (.if_icmp .eq 5, 3) := by decide +kernel
theorem dX8_takesSign_8 : decode cX8_takesSign 8 = .ok (.iconst 0, 1) := by decide +kernel
theorem dX8_takesSign_9 : decode cX8_takesSign 9 = .ok (.ireturn, 1) := by decide +kernel
theorem dX8_takesSign_10 : decode cX8_takesSign 10 = .ok (.aload_n 0, 1) := by decide +kernel
theorem dX8_takesSign_11 : decode cX8_takesSign 11 = .ok (.dup, 1) := by decide +kernel
theorem dX8_takesSign_12 : decode cX8_takesSign 12 = .ok (.getfield 48, 3) := by decide +kernel
theorem dX8_takesSign_15 : decode cX8_takesSign 15 = .ok (.iconst 1, 1) := by decide +kernel
theorem dX8_takesSign_16 : decode cX8_takesSign 16 = .ok (.iadd, 1) := by decide +kernel
theorem dX8_takesSign_17 : decode cX8_takesSign 17 = .ok (.putfield 48, 3) := by decide +kernel
theorem dX8_takesSign_20 : decode cX8_takesSign 20 = .ok (.iconst 1, 1) := by decide +kernel
theorem dX8_takesSign_21 : decode cX8_takesSign 21 = .ok (.ireturn, 1) := by decide +kernel
theorem dX8_takesWord_0 : decode cX8_takesWord 0 = .ok (.iconst 0, 1) := by decide +kernel
theorem dX8_takesWord_1 : decode cX8_takesWord 1 = .ok (.istore_n 3, 1) := by decide +kernel
theorem dX8_takesWord_2 : decode cX8_takesWord 2 = .ok (.iload_n 3, 1) := by decide +kernel
theorem dX8_takesWord_3 : decode cX8_takesWord 3 = .ok (.iload_n 2, 1) := by decide +kernel
theorem dX8_takesWord_4 : decode cX8_takesWord 4 = .ok (.if_icmp .ge 26, 3) := by decide +kernel
theorem dX8_takesWord_7 : decode cX8_takesWord 7 = .ok (.aload_n 0, 1) := by decide +kernel
theorem dX8_takesWord_8 : decode cX8_takesWord 8 = .ok (.aload_n 0, 1) := by decide +kernel
theorem dX8_takesWord_9 : decode cX8_takesWord 9 = .ok (.getfield 90, 3) := by decide +kernel
theorem dX8_takesWord_12 : decode cX8_takesWord 12 = .ok (.iload_n 1, 1) := by decide +kernel
theorem dX8_takesWord_13 : decode cX8_takesWord 13 = .ok (.iload_n 3, 1) := by decide +kernel
theorem dX8_takesWord_14 : decode cX8_takesWord 14 = .ok (.iadd, 1) := by decide +kernel
theorem dX8_takesWord_15 : decode cX8_takesWord 15 = .ok (.iaload, 1) := by decide +kernel
theorem dX8_takesWord_16 : decode cX8_takesWord 16 = .ok (.invokevirtual 167, 3) := by decide +kernel
theorem dX8_takesWord_19 : decode cX8_takesWord 19 = .ok (.ifCond .ne 5, 3) := by decide +kernel
theorem dX8_takesWord_22 : decode cX8_takesWord 22 = .ok (.iconst 0, 1) := by decide +kernel
theorem dX8_takesWord_23 : decode cX8_takesWord 23 = .ok (.ireturn, 1) := by decide +kernel
theorem dX8_takesWord_24 : decode cX8_takesWord 24 = .ok (.iinc 3 1, 3) := by decide +kernel
theorem dX8_takesWord_27 : decode cX8_takesWord 27 = .ok (.goto (-25), 3) := by decide +kernel
theorem dX8_takesWord_30 : decode cX8_takesWord 30 = .ok (.aload_n 0, 1) := by decide +kernel
theorem dX8_takesWord_31 : decode cX8_takesWord 31 = .ok (.bipush 32, 2) := by decide +kernel
theorem dX8_takesWord_33 : decode cX8_takesWord 33 = .ok (.invokevirtual 167, 3) := by decide +kernel
theorem dX8_takesWord_36 : decode cX8_takesWord 36 = .ok (.ireturn, 1) := by decide +kernel
theorem dX8_isDigit_0 : decode cX8_isDigit 0 = .ok (.aload_n 0, 1) := by decide +kernel
theorem dX8_isDigit_1 : decode cX8_isDigit 1 = .ok (.aload_n 0, 1) := by decide +kernel
theorem dX8_isDigit_2 : decode cX8_isDigit 2 = .ok (.invokevirtual 163, 3) := by decide +kernel
theorem dX8_isDigit_5 : decode cX8_isDigit 5 = .ok (.bipush 48, 2) := by decide +kernel
theorem dX8_isDigit_7 : decode cX8_isDigit 7 = .ok (.bipush 57, 2) := by decide +kernel
theorem dX8_isDigit_9 : decode cX8_isDigit 9 = .ok (.invokevirtual 150, 3) := by decide +kernel
theorem dX8_isDigit_12 : decode cX8_isDigit 12 = .ok (.ireturn, 1) := by decide +kernel
theorem dX8_takesNumber_0 : decode cX8_takesNumber 0 = .ok (.aload_n 0, 1) := by decide +kernel
theorem dX8_takesNumber_1 : decode cX8_takesNumber 1 = .ok (.invokevirtual 170, 3) := by decide +kernel
theorem dX8_takesNumber_4 : decode cX8_takesNumber 4 = .ok (.ifCond .ne 5, 3) := by decide +kernel
theorem dX8_takesNumber_7 : decode cX8_takesNumber 7 = .ok (.iconst 0, 1) := by decide +kernel
theorem dX8_takesNumber_8 : decode cX8_takesNumber 8 = .ok (.ireturn, 1) := by decide +kernel
theorem dX8_takesNumber_9 : decode cX8_takesNumber 9 = .ok (.aload_n 0, 1) := by decide +kernel
theorem dX8_takesNumber_10 : decode cX8_takesNumber 10 = .ok (.iconst 0, 1) := by decide +kernel
theorem dX8_takesNumber_11 : decode cX8_takesNumber 11 = .ok (.putfield 51, 3) := by decide +kernel
theorem dX8_takesNumber_14 : decode cX8_takesNumber 14 = .ok (.iconst 0, 1) := by decide +kernel
theorem dX8_takesNumber_15 : decode cX8_takesNumber 15 = .ok (.istore_n 1, 1) := by decide +kernel
theorem dX8_takesNumber_16 : decode cX8_takesNumber 16 = .ok (.iload_n 1, 1) := by decide +kernel
theorem dX8_takesNumber_17 : decode cX8_takesNumber 17 = .ok (.iconst 2, 1) := by decide +kernel
theorem dX8_takesNumber_18 : decode cX8_takesNumber 18 = .ok (.if_icmp .ge 45, 3) := by decide +kernel
theorem dX8_takesNumber_21 : decode cX8_takesNumber 21 = .ok (.aload_n 0, 1) := by decide +kernel
theorem dX8_takesNumber_22 : decode cX8_takesNumber 22 = .ok (.invokevirtual 170, 3) := by decide +kernel
theorem dX8_takesNumber_25 : decode cX8_takesNumber 25 = .ok (.ifCond .eq 38, 3) := by decide +kernel
theorem dX8_takesNumber_28 : decode cX8_takesNumber 28 = .ok (.aload_n 0, 1) := by decide +kernel
theorem dX8_takesNumber_29 : decode cX8_takesNumber 29 = .ok (.bipush 10, 2) := by decide +kernel
theorem dX8_takesNumber_31 : decode cX8_takesNumber 31 = .ok (.aload_n 0, 1) := by decide +kernel
theorem dX8_takesNumber_32 : decode cX8_takesNumber 32 = .ok (.getfield 51, 3) := by decide +kernel
theorem dX8_takesNumber_35 : decode cX8_takesNumber 35 = .ok (.imul, 1) := by decide +kernel
theorem dX8_takesNumber_36 : decode cX8_takesNumber 36 = .ok (.aload_n 0, 1) := by decide +kernel
theorem dX8_takesNumber_37 : decode cX8_takesNumber 37 = .ok (.invokevirtual 163, 3) := by decide +kernel
theorem dX8_takesNumber_40 : decode cX8_takesNumber 40 = .ok (.iadd, 1) := by decide +kernel
theorem dX8_takesNumber_41 : decode cX8_takesNumber 41 = .ok (.bipush 48, 2) := by decide +kernel
theorem dX8_takesNumber_43 : decode cX8_takesNumber 43 = .ok (.isub, 1) := by decide +kernel
theorem dX8_takesNumber_44 : decode cX8_takesNumber 44 = .ok (.putfield 51, 3) := by decide +kernel
theorem dX8_takesNumber_47 : decode cX8_takesNumber 47 = .ok (.aload_n 0, 1) := by decide +kernel
theorem dX8_takesNumber_48 : decode cX8_takesNumber 48 = .ok (.dup, 1) := by decide +kernel
theorem dX8_takesNumber_49 : decode cX8_takesNumber 49 = .ok (.getfield 48, 3) := by decide +kernel
theorem dX8_takesNumber_52 : decode cX8_takesNumber 52 = .ok (.iconst 1, 1) := by decide +kernel
theorem dX8_takesNumber_53 : decode cX8_takesNumber 53 = .ok (.iadd, 1) := by decide +kernel
theorem dX8_takesNumber_54 : decode cX8_takesNumber 54 = .ok (.putfield 48, 3) := by decide +kernel
theorem dX8_takesNumber_57 : decode cX8_takesNumber 57 = .ok (.iinc 1 1, 3) := by decide +kernel
theorem dX8_takesNumber_60 : decode cX8_takesNumber 60 = .ok (.goto (-44), 3) := by decide +kernel
theorem dX8_takesNumber_63 : decode cX8_takesNumber 63 = .ok (.iconst 1, 1) := by decide +kernel
theorem dX8_takesNumber_64 : decode cX8_takesNumber 64 = .ok (.ireturn, 1) := by decide +kernel
theorem dX8_put_0 : decode cX8_put 0 = .ok (.aload_n 0, 1) := by decide +kernel
theorem dX8_put_1 : decode cX8_put 1 = .ok (.getfield 75, 3) := by decide +kernel
theorem dX8_put_4 : decode cX8_put 4 = .ok (.aload_n 0, 1) := by decide +kernel
theorem dX8_put_5 : decode cX8_put 5 = .ok (.getfield 81, 3) := by decide +kernel
theorem dX8_put_8 : decode cX8_put 8 = .ok (.iload_n 1, 1) := by decide +kernel
theorem dX8_put_9 : decode cX8_put 9 = .ok (.iastore, 1) := by decide +kernel
theorem dX8_put_10 : decode cX8_put 10 = .ok (.aload_n 0, 1) := by decide +kernel
theorem dX8_put_11 : decode cX8_put 11 = .ok (.dup, 1) := by decide +kernel
theorem dX8_put_12 : decode cX8_put 12 = .ok (.getfield 81, 3) := by decide +kernel
theorem dX8_put_15 : decode cX8_put 15 = .ok (.iconst 1, 1) := by decide +kernel
theorem dX8_put_16 : decode cX8_put 16 = .ok (.iadd, 1) := by decide +kernel
theorem dX8_put_17 : decode cX8_put 17 = .ok (.putfield 81, 3) := by decide +kernel
theorem dX8_put_20 : decode cX8_put 20 = .ok (.return_, 1) := by decide +kernel
theorem dX8_whole_0 : decode cX8_whole 0 = .ok (.aload_n 0, 1) := by decide +kernel
theorem dX8_whole_1 : decode cX8_whole 1 = .ok (.getfield 84, 3) := by decide +kernel
theorem dX8_whole_4 : decode cX8_whole 4 = .ok (.ifCond .le 48, 3) := by decide +kernel
theorem dX8_whole_7 : decode cX8_whole 7 = .ok (.aload_n 0, 1) := by decide +kernel
theorem dX8_whole_8 : decode cX8_whole 8 = .ok (.getfield 78, 3) := by decide +kernel
theorem dX8_whole_11 : decode cX8_whole 11 = .ok (.aload_n 0, 1) := by decide +kernel
theorem dX8_whole_12 : decode cX8_whole 12 = .ok (.getfield 84, 3) := by decide +kernel
theorem dX8_whole_15 : decode cX8_whole 15 = .ok (.iconst 1, 1) := by decide +kernel
theorem dX8_whole_16 : decode cX8_whole 16 = .ok (.isub, 1) := by decide +kernel
theorem dX8_whole_17 : decode cX8_whole 17 = .ok (.iaload, 1) := by decide +kernel
theorem dX8_whole_18 : decode cX8_whole 18 = .ok (.bipush 33, 2) := by decide +kernel
theorem dX8_whole_20 : decode cX8_whole 20 = .ok (.if_icmp .ne 32, 3) := by decide +kernel
theorem dX8_whole_23 : decode cX8_whole 23 = .ok (.aload_n 0, 1) := by decide +kernel
theorem dX8_whole_24 : decode cX8_whole 24 = .ok (.bipush (-33), 2) := by decide +kernel
theorem dX8_whole_26 : decode cX8_whole 26 = .ok (.invokevirtual 174, 3) := by decide +kernel
theorem dX8_whole_29 : decode cX8_whole 29 = .ok (.aload_n 0, 1) := by decide +kernel
theorem dX8_whole_30 : decode cX8_whole 30 = .ok (.dup, 1) := by decide +kernel
theorem dX8_whole_31 : decode cX8_whole 31 = .ok (.getfield 84, 3) := by decide +kernel
theorem dX8_whole_34 : decode cX8_whole 34 = .ok (.iconst 1, 1) := by decide +kernel
theorem dX8_whole_35 : decode cX8_whole 35 = .ok (.isub, 1) := by decide +kernel
theorem dX8_whole_36 : decode cX8_whole 36 = .ok (.putfield 84, 3) := by decide +kernel
theorem dX8_whole_39 : decode cX8_whole 39 = .ok (.aload_n 0, 1) := by decide +kernel
theorem dX8_whole_40 : decode cX8_whole 40 = .ok (.dup, 1) := by decide +kernel
theorem dX8_whole_41 : decode cX8_whole 41 = .ok (.getfield 87, 3) := by decide +kernel
theorem dX8_whole_44 : decode cX8_whole 44 = .ok (.iconst 1, 1) := by decide +kernel
theorem dX8_whole_45 : decode cX8_whole 45 = .ok (.isub, 1) := by decide +kernel
theorem dX8_whole_46 : decode cX8_whole 46 = .ok (.putfield 87, 3) := by decide +kernel
theorem dX8_whole_49 : decode cX8_whole 49 = .ok (.goto (-49), 3) := by decide +kernel
theorem dX8_whole_52 : decode cX8_whole 52 = .ok (.return_, 1) := by decide +kernel
theorem dX8_settle_0 : decode cX8_settle 0 = .ok (.aload_n 0, 1) := by decide +kernel
theorem dX8_settle_1 : decode cX8_settle 1 = .ok (.getfield 84, 3) := by decide +kernel
theorem dX8_settle_4 : decode cX8_settle 4 = .ok (.ifCond .le 68, 3) := by decide +kernel
theorem dX8_settle_7 : decode cX8_settle 7 = .ok (.aload_n 0, 1) := by decide +kernel
theorem dX8_settle_8 : decode cX8_settle 8 = .ok (.getfield 78, 3) := by decide +kernel
theorem dX8_settle_11 : decode cX8_settle 11 = .ok (.aload_n 0, 1) := by decide +kernel
theorem dX8_settle_12 : decode cX8_settle 12 = .ok (.getfield 84, 3) := by decide +kernel
theorem dX8_settle_15 : decode cX8_settle 15 = .ok (.iconst 1, 1) := by decide +kernel
theorem dX8_settle_16 : decode cX8_settle 16 = .ok (.isub, 1) := by decide +kernel
theorem dX8_settle_17 : decode cX8_settle 17 = .ok (.iaload, 1) := by decide +kernel
theorem dX8_settle_18 : decode cX8_settle 18 = .ok (.bipush 38, 2) := by decide +kernel
theorem dX8_settle_20 : decode cX8_settle 20 = .ok (.if_icmp .eq 25, 3) := by decide +kernel
theorem dX8_settle_23 : decode cX8_settle 23 = .ok (.aload_n 0, 1) := by decide +kernel
theorem dX8_settle_24 : decode cX8_settle 24 = .ok (.getfield 78, 3) := by decide +kernel
theorem dX8_settle_27 : decode cX8_settle 27 = .ok (.aload_n 0, 1) := by decide +kernel
theorem dX8_settle_28 : decode cX8_settle 28 = .ok (.getfield 84, 3) := by decide +kernel
theorem dX8_settle_31 : decode cX8_settle 31 = .ok (.iconst 1, 1) := by decide +kernel
theorem dX8_settle_32 : decode cX8_settle 32 = .ok (.isub, 1) := by decide +kernel
theorem dX8_settle_33 : decode cX8_settle 33 = .ok (.iaload, 1) := by decide +kernel
theorem dX8_settle_34 : decode cX8_settle 34 = .ok (.bipush 124, 2) := by decide +kernel
theorem dX8_settle_36 : decode cX8_settle 36 = .ok (.if_icmp .ne 36, 3) := by decide +kernel
theorem dX8_settle_39 : decode cX8_settle 39 = .ok (.iload_n 1, 1) := by decide +kernel
theorem dX8_settle_40 : decode cX8_settle 40 = .ok (.bipush 38, 2) := by decide +kernel
theorem dX8_settle_42 : decode cX8_settle 42 = .ok (.if_icmp .eq 30, 3) := by decide +kernel
theorem dX8_settle_45 : decode cX8_settle 45 = .ok (.aload_n 0, 1) := by decide +kernel
theorem dX8_settle_46 : decode cX8_settle 46 = .ok (.dup, 1) := by decide +kernel
theorem dX8_settle_47 : decode cX8_settle 47 = .ok (.getfield 84, 3) := by decide +kernel
theorem dX8_settle_50 : decode cX8_settle 50 = .ok (.iconst 1, 1) := by decide +kernel
theorem dX8_settle_51 : decode cX8_settle 51 = .ok (.isub, 1) := by decide +kernel
theorem dX8_settle_52 : decode cX8_settle 52 = .ok (.putfield 84, 3) := by decide +kernel
theorem dX8_settle_55 : decode cX8_settle 55 = .ok (.aload_n 0, 1) := by decide +kernel
theorem dX8_settle_56 : decode cX8_settle 56 = .ok (.aload_n 0, 1) := by decide +kernel
theorem dX8_settle_57 : decode cX8_settle 57 = .ok (.getfield 78, 3) := by decide +kernel
theorem dX8_settle_60 : decode cX8_settle 60 = .ok (.aload_n 0, 1) := by decide +kernel
theorem dX8_settle_61 : decode cX8_settle 61 = .ok (.getfield 84, 3) := by decide +kernel
theorem dX8_settle_64 : decode cX8_settle 64 = .ok (.iaload, 1) := by decide +kernel
theorem dX8_settle_65 : decode cX8_settle 65 = .ok (.ineg, 1) := by decide +kernel
theorem dX8_settle_66 : decode cX8_settle 66 = .ok (.invokevirtual 174, 3) := by decide +kernel
theorem dX8_settle_69 : decode cX8_settle 69 = .ok (.goto (-69), 3) := by decide +kernel
theorem dX8_settle_72 : decode cX8_settle 72 = .ok (.return_, 1) := by decide +kernel
theorem dX8_place_0 : decode cX8_place 0 = .ok (.iload_n 1, 1) := by decide +kernel
theorem dX8_place_1 : decode cX8_place 1 = .ok (.tableswitch 85 102 116 #[75, 85, 85, 85, 85, 79, 81, 85, 85, 77, 85, 85, 85, 85, 83], 75) := by decide +kernel
theorem dX8_place_76 : decode cX8_place 76 = .ok (.iconst 0, 1) := by decide +kernel
theorem dX8_place_77 : decode cX8_place 77 = .ok (.ireturn, 1) := by decide +kernel
theorem dX8_place_78 : decode cX8_place 78 = .ok (.iconst 1, 1) := by decide +kernel
theorem dX8_place_79 : decode cX8_place 79 = .ok (.ireturn, 1) := by decide +kernel
theorem dX8_place_80 : decode cX8_place 80 = .ok (.iconst 2, 1) := by decide +kernel
theorem dX8_place_81 : decode cX8_place 81 = .ok (.ireturn, 1) := by decide +kernel
theorem dX8_place_82 : decode cX8_place 82 = .ok (.iconst 3, 1) := by decide +kernel
theorem dX8_place_83 : decode cX8_place 83 = .ok (.ireturn, 1) := by decide +kernel
theorem dX8_place_84 : decode cX8_place 84 = .ok (.iconst 4, 1) := by decide +kernel
theorem dX8_place_85 : decode cX8_place 85 = .ok (.ireturn, 1) := by decide +kernel
theorem dX8_place_86 : decode cX8_place 86 = .ok (.iconst (-1), 1) := by decide +kernel
theorem dX8_place_87 : decode cX8_place 87 = .ok (.ireturn, 1) := by decide +kernel
theorem dX8_takesTest_0 : decode cX8_takesTest 0 = .ok (.aload_n 0, 1) := by decide +kernel
theorem dX8_takesTest_1 : decode cX8_takesTest 1 = .ok (.aload_n 0, 1) := by decide +kernel
theorem dX8_takesTest_2 : decode cX8_takesTest 2 = .ok (.invokevirtual 163, 3) := by decide +kernel
theorem dX8_takesTest_5 : decode cX8_takesTest 5 = .ok (.invokevirtual 178, 3) := by decide +kernel
theorem dX8_takesTest_8 : decode cX8_takesTest 8 = .ok (.istore_n 1, 1) := by decide +kernel
theorem dX8_takesTest_9 : decode cX8_takesTest 9 = .ok (.iload_n 1, 1) := by decide +kernel
theorem dX8_takesTest_10 : decode cX8_takesTest 10 = .ok (.ifCond .ge 5, 3) := by decide +kernel
theorem dX8_takesTest_13 : decode cX8_takesTest 13 = .ok (.iconst 0, 1) := by decide +kernel
theorem dX8_takesTest_14 : decode cX8_takesTest 14 = .ok (.ireturn, 1) := by decide +kernel
theorem dX8_takesTest_15 : decode cX8_takesTest 15 = .ok (.aload_n 0, 1) := by decide +kernel
theorem dX8_takesTest_16 : decode cX8_takesTest 16 = .ok (.dup, 1) := by decide +kernel
theorem dX8_takesTest_17 : decode cX8_takesTest 17 = .ok (.getfield 48, 3) := by decide +kernel
theorem dX8_takesTest_20 : decode cX8_takesTest 20 = .ok (.iconst 1, 1) := by decide +kernel
theorem dX8_takesTest_21 : decode cX8_takesTest 21 = .ok (.iadd, 1) := by decide +kernel
theorem dX8_takesTest_22 : decode cX8_takesTest 22 = .ok (.putfield 48, 3) := by decide +kernel
theorem dX8_takesTest_25 : decode cX8_takesTest 25 = .ok (.aload_n 0, 1) := by decide +kernel
theorem dX8_takesTest_26 : decode cX8_takesTest 26 = .ok (.invokevirtual 163, 3) := by decide +kernel
theorem dX8_takesTest_29 : decode cX8_takesTest 29 = .ok (.istore_n 2, 1) := by decide +kernel
theorem dX8_takesTest_30 : decode cX8_takesTest 30 = .ok (.aload_n 0, 1) := by decide +kernel
theorem dX8_takesTest_31 : decode cX8_takesTest 31 = .ok (.iload_n 2, 1) := by decide +kernel
theorem dX8_takesTest_32 : decode cX8_takesTest 32 = .ok (.bipush 60, 2) := by decide +kernel
theorem dX8_takesTest_34 : decode cX8_takesTest 34 = .ok (.bipush 62, 2) := by decide +kernel
theorem dX8_takesTest_36 : decode cX8_takesTest 36 = .ok (.invokevirtual 150, 3) := by decide +kernel
theorem dX8_takesTest_39 : decode cX8_takesTest 39 = .ok (.ifCond .ne 5, 3) := by decide +kernel
theorem dX8_takesTest_42 : decode cX8_takesTest 42 = .ok (.iconst 0, 1) := by decide +kernel
theorem dX8_takesTest_43 : decode cX8_takesTest 43 = .ok (.ireturn, 1) := by decide +kernel
theorem dX8_takesTest_44 : decode cX8_takesTest 44 = .ok (.aload_n 0, 1) := by decide +kernel
theorem dX8_takesTest_45 : decode cX8_takesTest 45 = .ok (.dup, 1) := by decide +kernel
theorem dX8_takesTest_46 : decode cX8_takesTest 46 = .ok (.getfield 48, 3) := by decide +kernel
theorem dX8_takesTest_49 : decode cX8_takesTest 49 = .ok (.iconst 1, 1) := by decide +kernel
theorem dX8_takesTest_50 : decode cX8_takesTest 50 = .ok (.iadd, 1) := by decide +kernel
theorem dX8_takesTest_51 : decode cX8_takesTest 51 = .ok (.putfield 48, 3) := by decide +kernel
theorem dX8_takesTest_54 : decode cX8_takesTest 54 = .ok (.aload_n 0, 1) := by decide +kernel
theorem dX8_takesTest_55 : decode cX8_takesTest 55 = .ok (.invokevirtual 182, 3) := by decide +kernel
theorem dX8_takesTest_58 : decode cX8_takesTest 58 = .ok (.ifCond .ne 5, 3) := by decide +kernel
theorem dX8_takesTest_61 : decode cX8_takesTest 61 = .ok (.iconst 0, 1) := by decide +kernel
theorem dX8_takesTest_62 : decode cX8_takesTest 62 = .ok (.ireturn, 1) := by decide +kernel
theorem dX8_takesTest_63 : decode cX8_takesTest 63 = .ok (.aload_n 0, 1) := by decide +kernel
theorem dX8_takesTest_64 : decode cX8_takesTest 64 = .ok (.sipush 1000, 3) := by decide +kernel
theorem dX8_takesTest_67 : decode cX8_takesTest 67 = .ok (.iload_n 1, 1) := by decide +kernel
theorem dX8_takesTest_68 : decode cX8_takesTest 68 = .ok (.imul, 1) := by decide +kernel
theorem dX8_takesTest_69 : decode cX8_takesTest 69 = .ok (.bipush 100, 2) := by decide +kernel
theorem dX8_takesTest_71 : decode cX8_takesTest 71 = .ok (.iload_n 2, 1) := by decide +kernel
theorem dX8_takesTest_72 : decode cX8_takesTest 72 = .ok (.bipush 60, 2) := by decide +kernel
theorem dX8_takesTest_74 : decode cX8_takesTest 74 = .ok (.isub, 1) := by decide +kernel
theorem dX8_takesTest_75 : decode cX8_takesTest 75 = .ok (.imul, 1) := by decide +kernel
