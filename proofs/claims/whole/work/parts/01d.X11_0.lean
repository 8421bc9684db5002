theorem dX11_init_0 : decode cX11_init 0 = .ok (.aload_n 0, 1) := by decide +kernel
theorem dX11_init_1 : decode cX11_init 1 = .ok (.invokespecial 1, 3) := by decide +kernel
theorem dX11_init_4 : decode cX11_init 4 = .ok (.aload_n 0, 1) := by decide +kernel
theorem dX11_init_5 : decode cX11_init 5 = .ok (.sipush 600, 3) := by decide +kernel
theorem dX11_init_8 : decode cX11_init 8 = .ok (.newarray .byte, 2) := by decide +kernel
theorem dX11_init_10 : decode cX11_init 10 = .ok (.putfield 9, 3) := by decide +kernel
theorem dX11_init_13 : decode cX11_init 13 = .ok (.aload_n 0, 1) := by decide +kernel
theorem dX11_init_14 : decode cX11_init 14 = .ok (.sipush 1009, 3) := by decide +kernel
theorem dX11_init_17 : decode cX11_init 17 = .ok (.putfield 13, 3) := by decide +kernel
theorem dX11_init_20 : decode cX11_init 20 = .ok (.aload_n 0, 1) := by decide +kernel
theorem dX11_init_21 : decode cX11_init 21 = .ok (.bipush 6, 2) := by decide +kernel
theorem dX11_init_23 : decode cX11_init 23 = .ok (.invokestatic 17, 3) := by decide +kernel
theorem dX11_init_26 : decode cX11_init 26 = .ok (.putfield 21, 3) := by decide +kernel
theorem dX11_init_29 : decode cX11_init 29 = .ok (.aload_n 0, 1) := by decide +kernel
theorem dX11_init_30 : decode cX11_init 30 = .ok (.iconst 4, 1) := by decide +kernel
theorem dX11_init_31 : decode cX11_init 31 = .ok (.invokestatic 17, 3) := by decide +kernel
theorem dX11_init_34 : decode cX11_init 34 = .ok (.putfield 25, 3) := by decide +kernel
theorem dX11_init_37 : decode cX11_init 37 = .ok (.aload_n 0, 1) := by decide +kernel
theorem dX11_init_38 : decode cX11_init 38 = .ok (.invokestatic 28, 3) := by decide +kernel
theorem dX11_init_41 : decode cX11_init 41 = .ok (.putfield 32, 3) := by decide +kernel
theorem dX11_init_44 : decode cX11_init 44 = .ok (.aload_n 0, 1) := by decide +kernel
theorem dX11_init_45 : decode cX11_init 45 = .ok (.iconst 2, 1) := by decide +kernel
theorem dX11_init_46 : decode cX11_init 46 = .ok (.anewarray 36, 3) := by decide +kernel
theorem dX11_init_49 : decode cX11_init 49 = .ok (.putfield 38, 3) := by decide +kernel
theorem dX11_init_52 : decode cX11_init 52 = .ok (.aload_n 0, 1) := by decide +kernel
theorem dX11_init_53 : decode cX11_init 53 = .ok (.new 42, 3) := by decide +kernel
theorem dX11_init_56 : decode cX11_init 56 = .ok (.dup, 1) := by decide +kernel
theorem dX11_init_57 : decode cX11_init 57 = .ok (.invokespecial 44, 3) := by decide +kernel
theorem dX11_init_60 : decode cX11_init 60 = .ok (.putfield 45, 3) := by decide +kernel
theorem dX11_init_63 : decode cX11_init 63 = .ok (.aload_n 0, 1) := by decide +kernel
theorem dX11_init_64 : decode cX11_init 64 = .ok (.new 49, 3) := by decide +kernel
theorem dX11_init_67 : decode cX11_init 67 = .ok (.dup, 1) := by decide +kernel
theorem dX11_init_68 : decode cX11_init 68 = .ok (.invokespecial 51, 3) := by decide +kernel
theorem dX11_init_71 : decode cX11_init 71 = .ok (.putfield 52, 3) := by decide +kernel
theorem dX11_init_74 : decode cX11_init 74 = .ok (.aload_n 0, 1) := by decide +kernel
theorem dX11_init_75 : decode cX11_init 75 = .ok (.new 56, 3) := by decide +kernel
theorem dX11_init_78 : decode cX11_init 78 = .ok (.dup, 1) := by decide +kernel
theorem dX11_init_79 : decode cX11_init 79 = .ok (.invokespecial 58, 3) := by decide +kernel
theorem dX11_init_82 : decode cX11_init 82 = .ok (.putfield 59, 3) := by decide +kernel
theorem dX11_init_85 : decode cX11_init 85 = .ok (.aload_n 0, 1) := by decide +kernel
theorem dX11_init_86 : decode cX11_init 86 = .ok (.new 63, 3) := by decide +kernel
theorem dX11_init_89 : decode cX11_init 89 = .ok (.dup, 1) := by decide +kernel
theorem dX11_init_90 : decode cX11_init 90 = .ok (.invokespecial 65, 3) := by decide +kernel
theorem dX11_init_93 : decode cX11_init 93 = .ok (.putfield 66, 3) := by decide +kernel
theorem dX11_init_96 : decode cX11_init 96 = .ok (.aload_n 0, 1) := by decide +kernel
theorem dX11_init_97 : decode cX11_init 97 = .ok (.bipush 12, 2) := by decide +kernel
theorem dX11_init_99 : decode cX11_init 99 = .ok (.newarray .long, 2) := by decide +kernel
theorem dX11_init_101 : decode cX11_init 101 = .ok (.putfield 70, 3) := by decide +kernel
theorem dX11_init_104 : decode cX11_init 104 = .ok (.iconst 0, 1) := by decide +kernel
theorem dX11_init_105 : decode cX11_init 105 = .ok (.istore_n 1, 1) := by decide +kernel
theorem dX11_init_106 : decode cX11_init 106 = .ok (.iload_n 1, 1) := by decide +kernel
theorem dX11_init_107 : decode cX11_init 107 = .ok (.iconst 2, 1) := by decide +kernel
theorem dX11_init_108 : decode cX11_init 108 = .ok (.if_icmp .ge 22, 3) := by decide +kernel
theorem dX11_init_111 : decode cX11_init 111 = .ok (.aload_n 0, 1) := by decide +kernel
theorem dX11_init_112 : decode cX11_init 112 = .ok (.getfield 38, 3) := by decide +kernel
theorem dX11_init_115 : decode cX11_init 115 = .ok (.iload_n 1, 1) := by decide +kernel
theorem dX11_init_116 : decode cX11_init 116 = .ok (.new 36, 3) := by decide +kernel
theorem dX11_init_119 : decode cX11_init 119 = .ok (.dup, 1) := by decide +kernel
theorem dX11_init_120 : decode cX11_init 120 = .ok (.invokespecial 74, 3) := by decide +kernel
theorem dX11_init_123 : decode cX11_init 123 = .ok (.aastore, 1) := by decide +kernel
theorem dX11_init_124 : decode cX11_init 124 = .ok (.iinc 1 1, 3) := by decide +kernel
theorem dX11_init_127 : decode cX11_init 127 = .ok (.goto (-21), 3) := by decide +kernel
theorem dX11_init_130 : decode cX11_init 130 = .ok (.aload_n 0, 1) := by decide +kernel
theorem dX11_init_131 : decode cX11_init 131 = .ok (.getfield 32, 3) := by decide +kernel
theorem dX11_init_134 : decode cX11_init 134 = .ok (.iconst 1, 1) := by decide +kernel
theorem dX11_init_135 : decode cX11_init 135 = .ok (.aaload, 1) := by decide +kernel
theorem dX11_init_136 : decode cX11_init 136 = .ok (.iconst 1, 1) := by decide +kernel
theorem dX11_init_137 : decode cX11_init 137 = .ok (.putfield 75, 3) := by decide +kernel
theorem dX11_init_140 : decode cX11_init 140 = .ok (.aload_n 0, 1) := by decide +kernel
theorem dX11_init_141 : decode cX11_init 141 = .ok (.invokevirtual 81, 3) := by decide +kernel
theorem dX11_init_144 : decode cX11_init 144 = .ok (.return_, 1) := by decide +kernel
theorem dX11_feed_0 : decode cX11_feed 0 = .ok (.aload_n 0, 1) := by decide +kernel
theorem dX11_feed_1 : decode cX11_feed 1 = .ok (.getfield 84, 3) := by decide +kernel
theorem dX11_feed_4 : decode cX11_feed 4 = .ok (.bipush 20, 2) := by decide +kernel
theorem dX11_feed_6 : decode cX11_feed 6 = .ok (.iadd, 1) := by decide +kernel
theorem dX11_feed_7 : decode cX11_feed 7 = .ok (.sipush 600, 3) := by decide +kernel
theorem dX11_feed_10 : decode cX11_feed 10 = .ok (.if_icmp .le 5, 3) := by decide +kernel
theorem dX11_feed_13 : decode cX11_feed 13 = .ok (.iconst (-1), 1) := by decide +kernel
theorem dX11_feed_14 : decode cX11_feed 14 = .ok (.ireturn, 1) := by decide +kernel
theorem dX11_feed_15 : decode cX11_feed 15 = .ok (.aload_n 0, 1) := by decide +kernel
theorem dX11_feed_16 : decode cX11_feed 16 = .ok (.iload_n 1, 1) := by decide +kernel
theorem dX11_feed_17 : decode cX11_feed 17 = .ok (.invokevirtual 87, 3) := by decide +kernel
theorem dX11_feed_20 : decode cX11_feed 20 = .ok (.aload_n 0, 1) := by decide +kernel
theorem dX11_feed_21 : decode cX11_feed 21 = .ok (.iload_n 2, 1) := by decide +kernel
theorem dX11_feed_22 : decode cX11_feed 22 = .ok (.invokevirtual 87, 3) := by decide +kernel
theorem dX11_feed_25 : decode cX11_feed 25 = .ok (.aload_n 0, 1) := by decide +kernel
theorem dX11_feed_26 : decode cX11_feed 26 = .ok (.iload_n 3, 1) := by decide +kernel
theorem dX11_feed_27 : decode cX11_feed 27 = .ok (.invokevirtual 87, 3) := by decide +kernel
theorem dX11_feed_30 : decode cX11_feed 30 = .ok (.aload_n 0, 1) := by decide +kernel
theorem dX11_feed_31 : decode cX11_feed 31 = .ok (.iload 4, 2) := by decide +kernel
theorem dX11_feed_33 : decode cX11_feed 33 = .ok (.invokevirtual 87, 3) := by decide +kernel
theorem dX11_feed_36 : decode cX11_feed 36 = .ok (.aload_n 0, 1) := by decide +kernel
theorem dX11_feed_37 : decode cX11_feed 37 = .ok (.iload 5, 2) := by decide +kernel
theorem dX11_feed_39 : decode cX11_feed 39 = .ok (.invokevirtual 87, 3) := by decide +kernel
theorem dX11_feed_42 : decode cX11_feed 42 = .ok (.aload_n 0, 1) := by decide +kernel
theorem dX11_feed_43 : decode cX11_feed 43 = .ok (.getfield 84, 3) := by decide +kernel
theorem dX11_feed_46 : decode cX11_feed 46 = .ok (.ireturn, 1) := by decide +kernel
theorem dX11_feedFour_0 : decode cX11_feedFour 0 = .ok (.bipush 24, 2) := by decide +kernel
theorem dX11_feedFour_2 : decode cX11_feedFour 2 = .ok (.istore_n 2, 1) := by decide +kernel
theorem dX11_feedFour_3 : decode cX11_feedFour 3 = .ok (.iload_n 2, 1) := by decide +kernel
theorem dX11_feedFour_4 : decode cX11_feedFour 4 = .ok (.ifCond .lt 42, 3) := by decide +kernel
theorem dX11_feedFour_7 : decode cX11_feedFour 7 = .ok (.aload_n 0, 1) := by decide +kernel
theorem dX11_feedFour_8 : decode cX11_feedFour 8 = .ok (.getfield 84, 3) := by decide +kernel
theorem dX11_feedFour_11 : decode cX11_feedFour 11 = .ok (.sipush 600, 3) := by decide +kernel
theorem dX11_feedFour_14 : decode cX11_feedFour 14 = .ok (.if_icmp .ge 32, 3) := by decide +kernel
theorem dX11_feedFour_17 : decode cX11_feedFour 17 = .ok (.aload_n 0, 1) := by decide +kernel
theorem dX11_feedFour_18 : decode cX11_feedFour 18 = .ok (.getfield 9, 3) := by decide +kernel
theorem dX11_feedFour_21 : decode cX11_feedFour 21 = .ok (.aload_n 0, 1) := by decide +kernel
theorem dX11_feedFour_22 : decode cX11_feedFour 22 = .ok (.getfield 84, 3) := by decide +kernel
theorem dX11_feedFour_25 : decode cX11_feedFour 25 = .ok (.iload_n 1, 1) := by decide +kernel
theorem dX11_feedFour_26 : decode cX11_feedFour 26 = .ok (.iload_n 2, 1) := by decide +kernel
theorem dX11_feedFour_27 : decode cX11_feedFour 27 = .ok (.ishr, 1) := by decide +kernel
theorem dX11_feedFour_28 : decode cX11_feedFour 28 = .ok (.i2b, 1) := by decide +kernel
theorem dX11_feedFour_29 : decode cX11_feedFour 29 = .ok (.bastore, 1) := by decide +kernel
theorem dX11_feedFour_30 : decode cX11_feedFour 30 = .ok (.aload_n 0, 1) := by decide +kernel
theorem dX11_feedFour_31 : decode cX11_feedFour 31 = .ok (.dup, 1) := by decide +kernel
theorem dX11_feedFour_32 : decode cX11_feedFour 32 = .ok (.getfield 84, 3) := by decide +kernel
theorem dX11_feedFour_35 : decode cX11_feedFour 35 = .ok (.iconst 1, 1) := by decide +kernel
theorem dX11_feedFour_36 : decode cX11_feedFour 36 = .ok (.iadd, 1) := by decide +kernel
theorem dX11_feedFour_37 : decode cX11_feedFour 37 = .ok (.putfield 84, 3) := by decide +kernel
theorem dX11_feedFour_40 : decode cX11_feedFour 40 = .ok (.iinc 2 (-8), 3) := by decide +kernel
theorem dX11_feedFour_43 : decode cX11_feedFour 43 = .ok (.goto (-40), 3) := by decide +kernel
theorem dX11_feedFour_46 : decode cX11_feedFour 46 = .ok (.return_, 1) := by decide +kernel
theorem dX11_book_0 : decode cX11_book 0 = .ok (.iload_n 1, 1) := by decide +kernel
theorem dX11_book_1 : decode cX11_book 1 = .ok (.ifCond .lt 11, 3) := by decide +kernel
theorem dX11_book_4 : decode cX11_book 4 = .ok (.iload_n 1, 1) := by decide +kernel
theorem dX11_book_5 : decode cX11_book 5 = .ok (.aload_n 0, 1) := by decide +kernel
theorem dX11_book_6 : decode cX11_book 6 = .ok (.getfield 84, 3) := by decide +kernel
theorem dX11_book_9 : decode cX11_book 9 = .ok (.if_icmp .le 5, 3) := by decide +kernel
theorem dX11_book_12 : decode cX11_book 12 = .ok (.iconst (-1), 1) := by decide +kernel
theorem dX11_book_13 : decode cX11_book 13 = .ok (.ireturn, 1) := by decide +kernel
theorem dX11_book_14 : decode cX11_book 14 = .ok (.aload_n 0, 1) := by decide +kernel
theorem dX11_book_15 : decode cX11_book 15 = .ok (.iconst 0, 1) := by decide +kernel
theorem dX11_book_16 : decode cX11_book 16 = .ok (.putfield 84, 3) := by decide +kernel
theorem dX11_book_19 : decode cX11_book 19 = .ok (.aload_n 0, 1) := by decide +kernel
theorem dX11_book_20 : decode cX11_book 20 = .ok (.getfield 59, 3) := by decide +kernel
theorem dX11_book_23 : decode cX11_book 23 = .ok (.aload_n 0, 1) := by decide +kernel
theorem dX11_book_24 : decode cX11_book 24 = .ok (.getfield 9, 3) := by decide +kernel
theorem dX11_book_27 : decode cX11_book 27 = .ok (.iload_n 1, 1) := by decide +kernel
theorem dX11_book_28 : decode cX11_book 28 = .ok (.invokevirtual 91, 3) := by decide +kernel
theorem dX11_book_31 : decode cX11_book 31 = .ok (.aload_n 0, 1) := by decide +kernel
theorem dX11_book_32 : decode cX11_book 32 = .ok (.getfield 59, 3) := by decide +kernel
theorem dX11_book_35 : decode cX11_book 35 = .ok (.invokevirtual 95, 3) := by decide +kernel
theorem dX11_book_38 : decode cX11_book 38 = .ok (.ifCond .eq 13, 3) := by decide +kernel
theorem dX11_book_41 : decode cX11_book 41 = .ok (.aload_n 0, 1) := by decide +kernel
theorem dX11_book_42 : decode cX11_book 42 = .ok (.getfield 59, 3) := by decide +kernel
theorem dX11_book_45 : decode cX11_book 45 = .ok (.invokevirtual 99, 3) := by decide +kernel
theorem dX11_book_48 : decode cX11_book 48 = .ok (.ifCond .ne 14, 3) := by decide +kernel
theorem dX11_book_51 : decode cX11_book 51 = .ok (.bipush (-2), 2) := by decide +kernel
theorem dX11_book_53 : decode cX11_book 53 = .ok (.aload_n 0, 1) := by decide +kernel
theorem dX11_book_54 : decode cX11_book 54 = .ok (.getfield 59, 3) := by decide +kernel
theorem dX11_book_57 : decode cX11_book 57 = .ok (.getfield 102, 3) := by decide +kernel
theorem dX11_book_60 : decode cX11_book 60 = .ok (.isub, 1) := by decide +kernel
theorem dX11_book_61 : decode cX11_book 61 = .ok (.ireturn, 1) := by decide +kernel
theorem dX11_book_62 : decode cX11_book 62 = .ok (.aload_n 0, 1) := by decide +kernel
theorem dX11_book_63 : decode cX11_book 63 = .ok (.aload_n 0, 1) := by decide +kernel
theorem dX11_book_64 : decode cX11_book 64 = .ok (.getfield 59, 3) := by decide +kernel
theorem dX11_book_67 : decode cX11_book 67 = .ok (.getfield 105, 3) := by decide +kernel
theorem dX11_book_70 : decode cX11_book 70 = .ok (.putfield 13, 3) := by decide +kernel
theorem dX11_book_73 : decode cX11_book 73 = .ok (.aload_n 0, 1) := by decide +kernel
theorem dX11_book_74 : decode cX11_book 74 = .ok (.aload_n 0, 1) := by decide +kernel
theorem dX11_book_75 : decode cX11_book 75 = .ok (.getfield 59, 3) := by decide +kernel
theorem dX11_book_78 : decode cX11_book 78 = .ok (.getfield 106, 3) := by decide +kernel
theorem dX11_book_81 : decode cX11_book 81 = .ok (.putfield 109, 3) := by decide +kernel
theorem dX11_book_84 : decode cX11_book 84 = .ok (.iconst 0, 1) := by decide +kernel
theorem dX11_book_85 : decode cX11_book 85 = .ok (.istore_n 2, 1) := by decide +kernel
theorem dX11_book_86 : decode cX11_book 86 = .ok (.iload_n 2, 1) := by decide +kernel
theorem dX11_book_87 : decode cX11_book 87 = .ok (.aload_n 0, 1) := by decide +kernel
theorem dX11_book_88 : decode cX11_book 88 = .ok (.getfield 109, 3) := by decide +kernel
theorem dX11_book_91 : decode cX11_book 91 = .ok (.if_icmp .ge 27, 3) := by decide +kernel
theorem dX11_book_94 : decode cX11_book 94 = .ok (.aload_n 0, 1) := by decide +kernel
theorem dX11_book_95 : decode cX11_book 95 = .ok (.getfield 21, 3) := by decide +kernel
theorem dX11_book_98 : decode cX11_book 98 = .ok (.iload_n 2, 1) := by decide +kernel
theorem dX11_book_99 : decode cX11_book 99 = .ok (.aaload, 1) := by decide +kernel
theorem dX11_book_100 : decode cX11_book 100 = .ok (.aload_n 0, 1) := by decide +kernel
theorem dX11_book_101 : decode cX11_book 101 = .ok (.getfield 59, 3) := by decide +kernel
theorem dX11_book_104 : decode cX11_book 104 = .ok (.getfield 110, 3) := by decide +kernel
theorem dX11_book_107 : decode cX11_book 107 = .ok (.iload_n 2, 1) := by decide +kernel
theorem dX11_book_108 : decode cX11_book 108 = .ok (.aaload, 1) := by decide +kernel
theorem dX11_book_109 : decode cX11_book 109 = .ok (.invokevirtual 111, 3) := by decide +kernel
theorem dX11_book_112 : decode cX11_book 112 = .ok (.iinc 2 1, 3) := by decide +kernel
theorem dX11_book_115 : decode cX11_book 115 = .ok (.goto (-29), 3) := by decide +kernel
theorem dX11_book_118 : decode cX11_book 118 = .ok (.aload_n 0, 1) := by decide +kernel
theorem dX11_book_119 : decode cX11_book 119 = .ok (.invokevirtual 81, 3) := by decide +kernel
theorem dX11_book_122 : decode cX11_book 122 = .ok (.aload_n 0, 1) := by decide +kernel
theorem dX11_book_123 : decode cX11_book 123 = .ok (.getfield 109, 3) := by decide +kernel
theorem dX11_book_126 : decode cX11_book 126 = .ok (.ireturn, 1) := by decide +kernel
theorem dX11_forget_0 : decode cX11_forget 0 = .ok (.iconst 0, 1) := by decide +kernel
theorem dX11_forget_1 : decode cX11_forget 1 = .ok (.istore_n 1, 1) := by decide +kernel
theorem dX11_forget_2 : decode cX11_forget 2 = .ok (.iload_n 1, 1) := by decide +kernel
theorem dX11_forget_3 : decode cX11_forget 3 = .ok (.iconst 4, 1) := by decide +kernel
theorem dX11_forget_4 : decode cX11_forget 4 = .ok (.if_icmp .ge 19, 3) := by decide +kernel
theorem dX11_forget_7 : decode cX11_forget 7 = .ok (.aload_n 0, 1) := by decide +kernel
theorem dX11_forget_8 : decode cX11_forget 8 = .ok (.getfield 25, 3) := by decide +kernel
theorem dX11_forget_11 : decode cX11_forget 11 = .ok (.iload_n 1, 1) := by decide +kernel
theorem dX11_forget_12 : decode cX11_forget 12 = .ok (.aaload, 1) := by decide +kernel
theorem dX11_forget_13 : decode cX11_forget 13 = .ok (.iconst 1, 1) := by decide +kernel
theorem dX11_forget_14 : decode cX11_forget 14 = .ok (.invokevirtual 115, 3) := by decide +kernel
theorem dX11_forget_17 : decode cX11_forget 17 = .ok (.iinc 1 1, 3) := by decide +kernel
theorem dX11_forget_20 : decode cX11_forget 20 = .ok (.goto (-18), 3) := by decide +kernel
theorem dX11_forget_23 : decode cX11_forget 23 = .ok (.iconst 0, 1) := by decide +kernel
theorem dX11_forget_24 : decode cX11_forget 24 = .ok (.istore_n 1, 1) := by decide +kernel
theorem dX11_forget_25 : decode cX11_forget 25 = .ok (.iload_n 1, 1) := by decide +kernel
theorem dX11_forget_26 : decode cX11_forget 26 = .ok (.iconst 2, 1) := by decide +kernel
theorem dX11_forget_27 : decode cX11_forget 27 = .ok (.if_icmp .ge 18, 3) := by decide +kernel
theorem dX11_forget_30 : decode cX11_forget 30 = .ok (.aload_n 0, 1) := by decide +kernel
theorem dX11_forget_31 : decode cX11_forget 31 = .ok (.getfield 32, 3) := by decide +kernel
theorem dX11_forget_34 : decode cX11_forget 34 = .ok (.iload_n 1, 1) := by decide +kernel
theorem dX11_forget_35 : decode cX11_forget 35 = .ok (.aaload, 1) := by decide +kernel
theorem dX11_forget_36 : decode cX11_forget 36 = .ok (.invokevirtual 118, 3) := by decide +kernel
theorem dX11_forget_39 : decode cX11_forget 39 = .ok (.iinc 1 1, 3) := by decide +kernel
theorem dX11_forget_42 : decode cX11_forget 42 = .ok (.goto (-17), 3) := by decide +kernel
theorem dX11_forget_45 : decode cX11_forget 45 = .ok (.iconst 0, 1) := by decide +kernel
theorem dX11_forget_46 : decode cX11_forget 46 = .ok (.istore_n 1, 1) := by decide +kernel
theorem dX11_forget_47 : decode cX11_forget 47 = .ok (.iload_n 1, 1) := by decide +kernel
theorem dX11_forget_48 : decode cX11_forget 48 = .ok (.iconst 2, 1) := by decide +kernel
theorem dX11_forget_49 : decode cX11_forget 49 = .ok (.if_icmp .ge 19, 3) := by decide +kernel
theorem dX11_forget_52 : decode cX11_forget 52 = .ok (.aload_n 0, 1) := by decide +kernel
theorem dX11_forget_53 : decode cX11_forget 53 = .ok (.getfield 38, 3) := by decide +kernel
theorem dX11_forget_56 : decode cX11_forget 56 = .ok (.iload_n 1, 1) := by decide +kernel
theorem dX11_forget_57 : decode cX11_forget 57 = .ok (.aaload, 1) := by decide +kernel
theorem dX11_forget_58 : decode cX11_forget 58 = .ok (.iconst 0, 1) := by decide +kernel
theorem dX11_forget_59 : decode cX11_forget 59 = .ok (.putfield 121, 3) := by decide +kernel
theorem dX11_forget_62 : decode cX11_forget 62 = .ok (.iinc 1 1, 3) := by decide +kernel
theorem dX11_forget_65 : decode cX11_forget 65 = .ok (.goto (-18), 3) := by decide +kernel
theorem dX11_forget_68 : decode cX11_forget 68 = .ok (.return_, 1) := by decide +kernel
theorem dX11_count_0 : decode cX11_count 0 = .ok (.iload_n 1, 1) := by decide +kernel
theorem dX11_count_1 : decode cX11_count 1 = .ok (.tableswitch 51 0 3 #[31, 36, 41, 46], 31) := by decide +kernel
theorem dX11_count_32 : decode cX11_count 32 = .ok (.aload_n 0, 1) := by decide +kernel
theorem dX11_count_33 : decode cX11_count 33 = .ok (.getfield 13, 3) := by decide +kernel
theorem dX11_count_36 : decode cX11_count 36 = .ok (.ireturn, 1) := by decide +kernel
theorem dX11_count_37 : decode cX11_count 37 = .ok (.aload_n 0, 1) := by decide +kernel
theorem dX11_count_38 : decode cX11_count 38 = .ok (.getfield 109, 3) := by decide +kernel
theorem dX11_count_41 : decode cX11_count 41 = .ok (.ireturn, 1) := by decide +kernel
theorem dX11_count_42 : decode cX11_count 42 = .ok (.aload_n 0, 1) := by decide +kernel
theorem dX11_count_43 : decode cX11_count 43 = .ok (.getfield 84, 3) := by decide +kernel
theorem dX11_count_46 : decode cX11_count 46 = .ok (.ireturn, 1) := by decide +kernel
theorem dX11_count_47 : decode cX11_count 47 = .ok (.aload_n 0, 1) := by decide +kernel
theorem dX11_count_48 : decode cX11_count 48 = .ok (.invokevirtual 124, 3) := by decide +kernel
theorem dX11_count_51 : decode cX11_count 51 = .ok (.ireturn, 1) := by decide +kernel
theorem dX11_count_52 : decode cX11_count 52 = .ok (.iconst (-1), 1) := by decide +kernel
theorem dX11_count_53 : decode cX11_count 53 = .ok (.ireturn, 1) := by decide +kernel
theorem dX11_laidImages_0 : decode cX11_laidImages 0 = .ok (.iconst 0, 1) := by decide +kernel
theorem dX11_laidImages_1 : decode cX11_laidImages 1 = .ok (.istore_n 1, 1) := by decide +kernel
theorem dX11_laidImages_2 : decode cX11_laidImages 2 = .ok (.iconst 0, 1) := by decide +kernel
theorem dX11_laidImages_3 : decode cX11_laidImages 3 = .ok (.istore_n 2, 1) := by decide +kernel
theorem dX11_laidImages_4 : decode cX11_laidImages 4 = .ok (.iload_n 2, 1) := by decide +kernel
theorem dX11_laidImages_5 : decode cX11_laidImages 5 = .ok (.iconst 2, 1) := by decide +kernel
theorem dX11_laidImages_6 : decode cX11_laidImages 6 = .ok (.if_icmp .ge 24, 3) := by decide +kernel
theorem dX11_laidImages_9 : decode cX11_laidImages 9 = .ok (.aload_n 0, 1) := by decide +kernel
theorem dX11_laidImages_10 : decode cX11_laidImages 10 = .ok (.getfield 38, 3) := by decide +kernel
theorem dX11_laidImages_13 : decode cX11_laidImages 13 = .ok (.iload_n 2, 1) := by decide +kernel
theorem dX11_laidImages_14 : decode cX11_laidImages 14 = .ok (.aaload, 1) := by decide +kernel
theorem dX11_laidImages_15 : decode cX11_laidImages 15 = .ok (.getfield 121, 3) := by decide +kernel
theorem dX11_laidImages_18 : decode cX11_laidImages 18 = .ok (.ifCond .eq 6, 3) := by decide +kernel
theorem dX11_laidImages_21 : decode cX11_laidImages 21 = .ok (.iinc 1 1, 3) := by decide +kernel
theorem dX11_laidImages_24 : decode cX11_laidImages 24 = .ok (.iinc 2 1, 3) := by decide +kernel
theorem dX11_laidImages_27 : decode cX11_laidImages 27 = .ok (.goto (-23), 3) := by decide +kernel
theorem dX11_laidImages_30 : decode cX11_laidImages 30 = .ok (.iload_n 1, 1) := by decide +kernel
theorem dX11_laidImages_31 : decode cX11_laidImages 31 = .ok (.ireturn, 1) := by decide +kernel
theorem dX11_let_0 : decode cX11_let 0 = .ok (.aload_n 0, 1) := by decide +kernel
theorem dX11_let_1 : decode cX11_let 1 = .ok (.iload_n 1, 1) := by decide +kernel
theorem dX11_let_2 : decode cX11_let 2 = .ok (.invokevirtual 128, 3) := by decide +kernel
theorem dX11_let_5 : decode cX11_let 5 = .ok (.ifCond .ne 5, 3) := by decide +kernel
theorem dX11_let_8 : decode cX11_let 8 = .ok (.iconst (-1), 1) := by decide +kernel
theorem dX11_let_9 : decode cX11_let 9 = .ok (.ireturn, 1) := by decide +kernel
theorem dX11_let_10 : decode cX11_let 10 = .ok (.aload_n 0, 1) := by decide +kernel
theorem dX11_let_11 : decode cX11_let 11 = .ok (.getfield 21, 3) := by decide +kernel
theorem dX11_let_14 : decode cX11_let 14 = .ok (.iload_n 1, 1) := by decide +kernel
theorem dX11_let_15 : decode cX11_let 15 = .ok (.aaload, 1) := by decide +kernel
theorem dX11_let_16 : decode cX11_let 16 = .ok (.astore_n 3, 1) := by decide +kernel
theorem dX11_let_17 : decode cX11_let 17 = .ok (.iload_n 2, 1) := by decide +kernel
theorem dX11_let_18 : decode cX11_let 18 = .ok (.tableswitch 54 0 2 #[26, 31, 39], 26) := by decide +kernel
theorem dX11_let_44 : decode cX11_let 44 = .ok (.aload_n 3, 1) := by decide +kernel
theorem dX11_let_45 : decode cX11_let 45 = .ok (.getfield 132, 3) := by decide +kernel
theorem dX11_let_48 : decode cX11_let 48 = .ok (.ireturn, 1) := by decide +kernel
theorem dX11_let_49 : decode cX11_let 49 = .ok (.aload_n 3, 1) := by decide +kernel
theorem dX11_let_50 : decode cX11_let 50 = .ok (.getfield 132, 3) := by decide +kernel
theorem dX11_let_53 : decode cX11_let 53 = .ok (.invokestatic 135, 3) := by decide +kernel
theorem dX11_let_56 : decode cX11_let 56 = .ok (.ireturn, 1) := by decide +kernel
theorem dX11_let_57 : decode cX11_let 57 = .ok (.aload_n 3, 1) := by decide +kernel
theorem dX11_let_58 : decode cX11_let 58 = .ok (.getfield 139, 3) := by decide +kernel
theorem dX11_let_61 : decode cX11_let 61 = .ok (.iconst 0, 1) := by decide +kernel
theorem dX11_let_62 : decode cX11_let 62 = .ok (.iaload, 1) := by decide +kernel
theorem dX11_let_63 : decode cX11_let 63 = .ok (.ifCond .ne 7, 3) := by decide +kernel
theorem dX11_let_66 : decode cX11_let 66 = .ok (.iconst 1, 1) := by decide +kernel
theorem dX11_let_67 : decode cX11_let 67 = .ok (.goto 4, 3) := by decide +kernel
theorem dX11_let_70 : decode cX11_let 70 = .ok (.iconst 0, 1) := by decide +kernel
theorem dX11_let_71 : decode cX11_let 71 = .ok (.ireturn, 1) := by decide +kernel
theorem dX11_let_72 : decode cX11_let 72 = .ok (.iconst (-1), 1) := by decide +kernel
theorem dX11_let_73 : decode cX11_let 73 = .ok (.ireturn, 1) := by decide +kernel
theorem dX11_coefficient_0 : decode cX11_coefficient 0 = .ok (.iload_n 1, 1) := by decide +kernel
theorem dX11_coefficient_1 : decode cX11_coefficient 1 = .ok (.invokestatic 143, 3) := by decide +kernel
theorem dX11_coefficient_4 : decode cX11_coefficient 4 = .ok (.ifCond .eq 14, 3) := by decide +kernel
theorem dX11_coefficient_7 : decode cX11_coefficient 7 = .ok (.iload_n 2, 1) := by decide +kernel
theorem dX11_coefficient_8 : decode cX11_coefficient 8 = .ok (.ifCond .lt 10, 3) := by decide +kernel
theorem dX11_coefficient_11 : decode cX11_coefficient 11 = .ok (.iload_n 2, 1) := by decide +kernel
theorem dX11_coefficient_12 : decode cX11_coefficient 12 = .ok (.sipush 180, 3) := by decide +kernel
theorem dX11_coefficient_15 : decode cX11_coefficient 15 = .ok (.if_icmp .le 5, 3) := by decide +kernel
theorem dX11_coefficient_18 : decode cX11_coefficient 18 = .ok (.iconst (-1), 1) := by decide +kernel
theorem dX11_coefficient_19 : decode cX11_coefficient 19 = .ok (.ireturn, 1) := by decide +kernel
theorem dX11_coefficient_20 : decode cX11_coefficient 20 = .ok (.aload_n 0, 1) := by decide +kernel
theorem dX11_coefficient_21 : decode cX11_coefficient 21 = .ok (.aload_n 0, 1) := by decide +kernel
theorem dX11_coefficient_22 : decode cX11_coefficient 22 = .ok (.getfield 25, 3) := by decide +kernel
theorem dX11_coefficient_25 : decode cX11_coefficient 25 = .ok (.iload_n 1, 1) := by decide +kernel
theorem dX11_coefficient_26 : decode cX11_coefficient 26 = .ok (.aaload, 1) := by decide +kernel
theorem dX11_coefficient_27 : decode cX11_coefficient 27 = .ok (.iload_n 2, 1) := by decide +kernel
theorem dX11_coefficient_28 : decode cX11_coefficient 28 = .ok (.invokevirtual 146, 3) := by decide +kernel
theorem dX11_coefficient_31 : decode cX11_coefficient 31 = .ok (.ireturn, 1) := by decide +kernel
theorem dX11_coefficientOf_0 : decode cX11_coefficientOf 0 = .ok (.iload_n 2, 1) := by decide +kernel
theorem dX11_coefficientOf_1 : decode cX11_coefficientOf 1 = .ok (.bipush 6, 2) := by decide +kernel
theorem dX11_coefficientOf_3 : decode cX11_coefficientOf 3 = .ok (.if_icmp .ge 10, 3) := by decide +kernel
theorem dX11_coefficientOf_6 : decode cX11_coefficientOf 6 = .ok (.aload_n 1, 1) := by decide +kernel
theorem dX11_coefficientOf_7 : decode cX11_coefficientOf 7 = .ok (.getfield 139, 3) := by decide +kernel
theorem dX11_coefficientOf_10 : decode cX11_coefficientOf 10 = .ok (.iload_n 2, 1) := by decide +kernel
theorem dX11_coefficientOf_11 : decode cX11_coefficientOf 11 = .ok (.iaload, 1) := by decide +kernel
theorem dX11_coefficientOf_12 : decode cX11_coefficientOf 12 = .ok (.ireturn, 1) := by decide +kernel
theorem dX11_coefficientOf_13 : decode cX11_coefficientOf 13 = .ok (.aload_n 0, 1) := by decide +kernel
theorem dX11_coefficientOf_14 : decode cX11_coefficientOf 14 = .ok (.getfield 45, 3) := by decide +kernel
theorem dX11_coefficientOf_17 : decode cX11_coefficientOf 17 = .ok (.aload_n 1, 1) := by decide +kernel
theorem dX11_coefficientOf_18 : decode cX11_coefficientOf 18 = .ok (.getfield 132, 3) := by decide +kernel
theorem dX11_coefficientOf_21 : decode cX11_coefficientOf 21 = .ok (.aload_n 0, 1) := by decide +kernel
theorem dX11_coefficientOf_22 : decode cX11_coefficientOf 22 = .ok (.getfield 13, 3) := by decide +kernel
theorem dX11_coefficientOf_25 : decode cX11_coefficientOf 25 = .ok (.iload_n 2, 1) := by decide +kernel
theorem dX11_coefficientOf_26 : decode cX11_coefficientOf 26 = .ok (.invokevirtual 150, 3) := by decide +kernel
theorem dX11_coefficientOf_29 : decode cX11_coefficientOf 29 = .ok (.aload_n 1, 1) := by decide +kernel
theorem dX11_coefficientOf_30 : decode cX11_coefficientOf 30 = .ok (.getfield 139, 3) := by decide +kernel
theorem dX11_coefficientOf_33 : decode cX11_coefficientOf 33 = .ok (.iload_n 2, 1) := by decide +kernel
theorem dX11_coefficientOf_34 : decode cX11_coefficientOf 34 = .ok (.invokevirtual 154, 3) := by decide +kernel
theorem dX11_coefficientOf_37 : decode cX11_coefficientOf 37 = .ok (.ireturn, 1) := by decide +kernel
theorem dX11_weight_0 : decode cX11_weight 0 = .ok (.iload_n 1, 1) := by decide +kernel
theorem dX11_weight_1 : decode cX11_weight 1 = .ok (.invokestatic 143, 3) := by decide +kernel
theorem dX11_weight_4 : decode cX11_weight 4 = .ok (.ifCond .eq 15, 3) := by decide +kernel
theorem dX11_weight_7 : decode cX11_weight 7 = .ok (.aload_n 0, 1) := by decide +kernel
theorem dX11_weight_8 : decode cX11_weight 8 = .ok (.getfield 25, 3) := by decide +kernel
theorem dX11_weight_11 : decode cX11_weight 11 = .ok (.iload_n 1, 1) := by decide +kernel
theorem dX11_weight_12 : decode cX11_weight 12 = .ok (.aaload, 1) := by decide +kernel
theorem dX11_weight_13 : decode cX11_weight 13 = .ok (.getfield 132, 3) := by decide +kernel
theorem dX11_weight_16 : decode cX11_weight 16 = .ok (.goto 4, 3) := by decide +kernel
theorem dX11_weight_19 : decode cX11_weight 19 = .ok (.iconst (-1), 1) := by decide +kernel
theorem dX11_weight_20 : decode cX11_weight 20 = .ok (.ireturn, 1) := by decide +kernel
theorem dX11_makes_0 : decode cX11_makes 0 = .ok (.iload_n 1, 1) := by decide +kernel
theorem dX11_makes_1 : decode cX11_makes 1 = .ok (.invokestatic 160, 3) := by decide +kernel
theorem dX11_makes_4 : decode cX11_makes 4 = .ok (.ifCond .ne 5, 3) := by decide +kernel
theorem dX11_makes_7 : decode cX11_makes 7 = .ok (.iconst (-1), 1) := by decide +kernel
theorem dX11_makes_8 : decode cX11_makes 8 = .ok (.ireturn, 1) := by decide +kernel
theorem dX11_makes_9 : decode cX11_makes 9 = .ok (.iload_n 2, 1) := by decide +kernel
theorem dX11_makes_10 : decode cX11_makes 10 = .ok (.ifCond .eq 10, 3) := by decide +kernel
theorem dX11_makes_13 : decode cX11_makes 13 = .ok (.iload_n 1, 1) := by decide +kernel
theorem dX11_makes_14 : decode cX11_makes 14 = .ok (.invokestatic 163, 3) := by decide +kernel
theorem dX11_makes_17 : decode cX11_makes 17 = .ok (.goto 7, 3) := by decide +kernel
theorem dX11_makes_20 : decode cX11_makes 20 = .ok (.iload_n 1, 1) := by decide +kernel
theorem dX11_makes_21 : decode cX11_makes 21 = .ok (.invokestatic 135, 3) := by decide +kernel
theorem dX11_makes_24 : decode cX11_makes 24 = .ok (.ireturn, 1) := by decide +kernel
theorem dX11_whole_0 : decode cX11_whole 0 = .ok (.iload_n 1, 1) := by decide +kernel
theorem dX11_whole_1 : decode cX11_whole 1 = .ok (.sipush 2000, 3) := by decide +kernel
theorem dX11_whole_4 : decode cX11_whole 4 = .ok (.if_icmp .le 11, 3) := by decide +kernel
theorem dX11_whole_7 : decode cX11_whole 7 = .ok (.new 168, 3) := by decide +kernel
theorem dX11_whole_10 : decode cX11_whole 10 = .ok (.dup, 1) := by decide +kernel
theorem dX11_whole_11 : decode cX11_whole 11 = .ok (.invokespecial 170, 3) := by decide +kernel
theorem dX11_whole_14 : decode cX11_whole 14 = .ok (.athrow, 1) := by decide +kernel
theorem dX11_whole_15 : decode cX11_whole 15 = .ok (.iload_n 1, 1) := by decide +kernel
theorem dX11_whole_16 : decode cX11_whole 16 = .ok (.invokestatic 171, 3) := by decide +kernel
theorem dX11_whole_19 : decode cX11_whole 19 = .ok (.ireturn, 1) := by decide +kernel
theorem dX11_small_0 : decode cX11_small 0 = .ok (.iload_n 1, 1) := by decide +kernel
theorem dX11_small_1 : decode cX11_small 1 = .ok (.invokestatic 174, 3) := by decide +kernel
theorem dX11_small_4 : decode cX11_small 4 = .ok (.ireturn, 1) := by decide +kernel
theorem dX11_trace_0 : decode cX11_trace 0 = .ok (.iload_n 1, 1) := by decide +kernel
theorem dX11_trace_1 : decode cX11_trace 1 = .ok (.iload_n 2, 1) := by decide +kernel
theorem dX11_trace_2 : decode cX11_trace 2 = .ok (.invokestatic 177, 3) := by decide +kernel
theorem dX11_trace_5 : decode cX11_trace 5 = .ok (.ifCond .ne 7, 3) := by decide +kernel
theorem dX11_trace_8 : decode cX11_trace 8 = .ok (.ldc2_w 183, 3) := by decide +kernel
theorem dX11_trace_11 : decode cX11_trace 11 = .ok (.lreturn, 1) := by decide +kernel
theorem dX11_trace_12 : decode cX11_trace 12 = .ok (.iload_n 1, 1) := by decide +kernel
theorem dX11_trace_13 : decode cX11_trace 13 = .ok (.iload_n 2, 1) := by decide +kernel
theorem dX11_trace_14 : decode cX11_trace 14 = .ok (.invokestatic 185, 3) := by decide +kernel
theorem dX11_trace_17 : decode cX11_trace 17 = .ok (.lreturn, 1) := by decide +kernel
theorem dX11_traceLeft_0 : decode cX11_traceLeft 0 = .ok (.iload_n 1, 1) := by decide +kernel
theorem dX11_traceLeft_1 : decode cX11_traceLeft 1 = .ok (.iload_n 2, 1) := by decide +kernel
theorem dX11_traceLeft_2 : decode cX11_traceLeft 2 = .ok (.invokestatic 177, 3) := by decide +kernel
theorem dX11_traceLeft_5 : decode cX11_traceLeft 5 = .ok (.ifCond .ne 5, 3) := by decide +kernel
theorem dX11_traceLeft_8 : decode cX11_traceLeft 8 = .ok (.iconst (-1), 1) := by decide +kernel
theorem dX11_traceLeft_9 : decode cX11_traceLeft 9 = .ok (.ireturn, 1) := by decide +kernel
theorem dX11_traceLeft_10 : decode cX11_traceLeft 10 = .ok (.iload_n 1, 1) := by decide +kernel
theorem dX11_traceLeft_11 : decode cX11_traceLeft 11 = .ok (.iload_n 2, 1) := by decide +kernel
theorem dX11_traceLeft_12 : decode cX11_traceLeft 12 = .ok (.aload_n 0, 1) := by decide +kernel
theorem dX11_traceLeft_13 : decode cX11_traceLeft 13 = .ok (.getfield 13, 3) := by decide +kernel
theorem dX11_traceLeft_16 : decode cX11_traceLeft 16 = .ok (.invokestatic 189, 3) := by decide +kernel
theorem dX11_traceLeft_19 : decode cX11_traceLeft 19 = .ok (.ireturn, 1) := by decide +kernel
theorem dX11_share_0 : decode cX11_share 0 = .ok (.iload_n 1, 1) := by decide +kernel
theorem dX11_share_1 : decode cX11_share 1 = .ok (.iload_n 2, 1) := by decide +kernel
theorem dX11_share_2 : decode cX11_share 2 = .ok (.invokestatic 177, 3) := by decide +kernel
theorem dX11_share_5 : decode cX11_share 5 = .ok (.ifCond .ne 6, 3) := by decide +kernel
theorem dX11_share_8 : decode cX11_share 8 = .ok (.ldc 195, 2) := by decide +kernel
theorem dX11_share_10 : decode cX11_share 10 = .ok (.ireturn, 1) := by decide +kernel
theorem dX11_share_11 : decode cX11_share 11 = .ok (.iload_n 1, 1) := by decide +kernel
theorem dX11_share_12 : decode cX11_share 12 = .ok (.iload_n 2, 1) := by decide +kernel
theorem dX11_share_13 : decode cX11_share 13 = .ok (.invokestatic 185, 3) := by decide +kernel
theorem dX11_share_16 : decode cX11_share 16 = .ok (.lstore_n 3, 1) := by decide +kernel
theorem dX11_share_17 : decode cX11_share 17 = .ok (.lload_n 3, 1) := by decide +kernel
theorem dX11_share_18 : decode cX11_share 18 = .ok (.ldc2_w 196, 3) := by decide +kernel
theorem dX11_share_21 : decode cX11_share 21 = .ok (.lcmp, 1) := by decide +kernel
theorem dX11_share_22 : decode cX11_share 22 = .ok (.ifCond .ne 6, 3) := by decide +kernel
theorem dX11_share_25 : decode cX11_share 25 = .ok (.ldc 195, 2) := by decide +kernel
theorem dX11_share_27 : decode cX11_share 27 = .ok (.ireturn, 1) := by decide +kernel
theorem dX11_share_28 : decode cX11_share 28 = .ok (.lload_n 3, 1) := by decide +kernel
theorem dX11_share_29 : decode cX11_share 29 = .ok (.iload_n 1, 1) := by decide +kernel
theorem dX11_share_30 : decode cX11_share 30 = .ok (.iload_n 2, 1) := by decide +kernel
theorem dX11_share_31 : decode cX11_share 31 = .ok (.invokestatic 198, 3) := by decide +kernel
theorem dX11_share_34 : decode cX11_share 34 = .ok (.invokestatic 202, 3) := by decide +kernel
theorem dX11_share_37 : decode cX11_share 37 = .ok (.ireturn, 1) := by decide +kernel
theorem dX11_take_0 : decode cX11_take 0 = .ok (.iload_n 1, 1) := by decide +kernel
theorem dX11_take_1 : decode cX11_take 1 = .ok (.invokestatic 143, 3) := by decide +kernel
theorem dX11_take_4 : decode cX11_take 4 = .ok (.ifCond .eq 11, 3) := by decide +kernel
theorem dX11_take_7 : decode cX11_take 7 = .ok (.aload_n 0, 1) := by decide +kernel
theorem dX11_take_8 : decode cX11_take 8 = .ok (.iload_n 2, 1) := by decide +kernel
theorem dX11_take_9 : decode cX11_take 9 = .ok (.invokevirtual 128, 3) := by decide +kernel
theorem dX11_take_12 : decode cX11_take 12 = .ok (.ifCond .ne 5, 3) := by decide +kernel
theorem dX11_take_15 : decode cX11_take 15 = .ok (.iconst (-1), 1) := by decide +kernel
theorem dX11_take_16 : decode cX11_take 16 = .ok (.ireturn, 1) := by decide +kernel
theorem dX11_take_17 : decode cX11_take 17 = .ok (.aload_n 0, 1) := by decide +kernel
theorem dX11_take_18 : decode cX11_take 18 = .ok (.getfield 25, 3) := by decide +kernel
theorem dX11_take_21 : decode cX11_take 21 = .ok (.iload_n 1, 1) := by decide +kernel
theorem dX11_take_22 : decode cX11_take 22 = .ok (.aaload, 1) := by decide +kernel
theorem dX11_take_23 : decode cX11_take 23 = .ok (.aload_n 0, 1) := by decide +kernel
theorem dX11_take_24 : decode cX11_take 24 = .ok (.getfield 21, 3) := by decide +kernel
theorem dX11_take_27 : decode cX11_take 27 = .ok (.iload_n 2, 1) := by decide +kernel
theorem dX11_take_28 : decode cX11_take 28 = .ok (.aaload, 1) := by decide +kernel
theorem dX11_take_29 : decode cX11_take 29 = .ok (.invokevirtual 111, 3) := by decide +kernel
theorem dX11_take_32 : decode cX11_take 32 = .ok (.aload_n 0, 1) := by decide +kernel
theorem dX11_take_33 : decode cX11_take 33 = .ok (.getfield 25, 3) := by decide +kernel
theorem dX11_take_36 : decode cX11_take 36 = .ok (.iload_n 1, 1) := by decide +kernel
theorem dX11_take_37 : decode cX11_take 37 = .ok (.aaload, 1) := by decide +kernel
theorem dX11_take_38 : decode cX11_take 38 = .ok (.getfield 132, 3) := by decide +kernel
theorem dX11_take_41 : decode cX11_take 41 = .ok (.ireturn, 1) := by decide +kernel
theorem dX11_plus_0 : decode cX11_plus 0 = .ok (.iload_n 1, 1) := by decide +kernel
theorem dX11_plus_1 : decode cX11_plus 1 = .ok (.invokestatic 143, 3) := by decide +kernel
theorem dX11_plus_4 : decode cX11_plus 4 = .ok (.ifCond .eq 31, 3) := by decide +kernel
theorem dX11_plus_7 : decode cX11_plus 7 = .ok (.iload_n 2, 1) := by decide +kernel
theorem dX11_plus_8 : decode cX11_plus 8 = .ok (.invokestatic 143, 3) := by decide +kernel
theorem dX11_plus_11 : decode cX11_plus 11 = .ok (.ifCond .eq 24, 3) := by decide +kernel
theorem dX11_plus_14 : decode cX11_plus 14 = .ok (.aload_n 0, 1) := by decide +kernel
theorem dX11_plus_15 : decode cX11_plus 15 = .ok (.getfield 25, 3) := by decide +kernel
theorem dX11_plus_18 : decode cX11_plus 18 = .ok (.iload_n 1, 1) := by decide +kernel
theorem dX11_plus_19 : decode cX11_plus 19 = .ok (.aaload, 1) := by decide +kernel
theorem dX11_plus_20 : decode cX11_plus 20 = .ok (.getfield 132, 3) := by decide +kernel
theorem dX11_plus_23 : decode cX11_plus 23 = .ok (.aload_n 0, 1) := by decide +kernel
theorem dX11_plus_24 : decode cX11_plus 24 = .ok (.getfield 25, 3) := by decide +kernel
theorem dX11_plus_27 : decode cX11_plus 27 = .ok (.iload_n 2, 1) := by decide +kernel
theorem dX11_plus_28 : decode cX11_plus 28 = .ok (.aaload, 1) := by decide +kernel
theorem dX11_plus_29 : decode cX11_plus 29 = .ok (.getfield 132, 3) := by decide +kernel
theorem dX11_plus_32 : decode cX11_plus 32 = .ok (.if_icmp .eq 5, 3) := by decide +kernel
theorem dX11_plus_35 : decode cX11_plus 35 = .ok (.iconst 0, 1) := by decide +kernel
theorem dX11_plus_36 : decode cX11_plus 36 = .ok (.ireturn, 1) := by decide +kernel
theorem dX11_plus_37 : decode cX11_plus 37 = .ok (.aload_n 0, 1) := by decide +kernel
theorem dX11_plus_38 : decode cX11_plus 38 = .ok (.getfield 25, 3) := by decide +kernel
theorem dX11_plus_41 : decode cX11_plus 41 = .ok (.iload_n 1, 1) := by decide +kernel
theorem dX11_plus_42 : decode cX11_plus 42 = .ok (.aaload, 1) := by decide +kernel
theorem dX11_plus_43 : decode cX11_plus 43 = .ok (.aload_n 0, 1) := by decide +kernel
theorem dX11_plus_44 : decode cX11_plus 44 = .ok (.getfield 25, 3) := by decide +kernel
theorem dX11_plus_47 : decode cX11_plus 47 = .ok (.iload_n 2, 1) := by decide +kernel
theorem dX11_plus_48 : decode cX11_plus 48 = .ok (.aaload, 1) := by decide +kernel
theorem dX11_plus_49 : decode cX11_plus 49 = .ok (.iload_n 3, 1) := by decide +kernel
theorem dX11_plus_50 : decode cX11_plus 50 = .ok (.i2l, 1) := by decide +kernel
theorem dX11_plus_51 : decode cX11_plus 51 = .ok (.aload_n 0, 1) := by decide +kernel
theorem dX11_plus_52 : decode cX11_plus 52 = .ok (.getfield 13, 3) := by decide +kernel
theorem dX11_plus_55 : decode cX11_plus 55 = .ok (.invokestatic 206, 3) := by decide +kernel
theorem dX11_plus_58 : decode cX11_plus 58 = .ok (.aload_n 0, 1) := by decide +kernel
theorem dX11_plus_59 : decode cX11_plus 59 = .ok (.getfield 13, 3) := by decide +kernel
theorem dX11_plus_62 : decode cX11_plus 62 = .ok (.invokevirtual 212, 3) := by decide +kernel
theorem dX11_plus_65 : decode cX11_plus 65 = .ok (.iconst 1, 1) := by decide +kernel
theorem dX11_plus_66 : decode cX11_plus 66 = .ok (.ireturn, 1) := by decide +kernel
theorem dX11_times_0 : decode cX11_times 0 = .ok (.iload_n 1, 1) := by decide +kernel
theorem dX11_times_1 : decode cX11_times 1 = .ok (.invokestatic 143, 3) := by decide +kernel
theorem dX11_times_4 : decode cX11_times 4 = .ok (.ifCond .eq 34, 3) := by decide +kernel
theorem dX11_times_7 : decode cX11_times 7 = .ok (.iload_n 2, 1) := by decide +kernel
theorem dX11_times_8 : decode cX11_times 8 = .ok (.invokestatic 143, 3) := by decide +kernel
theorem dX11_times_11 : decode cX11_times 11 = .ok (.ifCond .eq 27, 3) := by decide +kernel
theorem dX11_times_14 : decode cX11_times 14 = .ok (.aload_n 0, 1) := by decide +kernel
theorem dX11_times_15 : decode cX11_times 15 = .ok (.getfield 25, 3) := by decide +kernel
theorem dX11_times_18 : decode cX11_times 18 = .ok (.iload_n 1, 1) := by decide +kernel
theorem dX11_times_19 : decode cX11_times 19 = .ok (.aaload, 1) := by decide +kernel
theorem dX11_times_20 : decode cX11_times 20 = .ok (.getfield 132, 3) := by decide +kernel
theorem dX11_times_23 : decode cX11_times 23 = .ok (.aload_n 0, 1) := by decide +kernel
theorem dX11_times_24 : decode cX11_times 24 = .ok (.getfield 25, 3) := by decide +kernel
theorem dX11_times_27 : decode cX11_times 27 = .ok (.iload_n 2, 1) := by decide +kernel
theorem dX11_times_28 : decode cX11_times 28 = .ok (.aaload, 1) := by decide +kernel
theorem dX11_times_29 : decode cX11_times 29 = .ok (.getfield 132, 3) := by decide +kernel
theorem dX11_times_32 : decode cX11_times 32 = .ok (.iadd, 1) := by decide +kernel
theorem dX11_times_33 : decode cX11_times 33 = .ok (.bipush 60, 2) := by decide +kernel
theorem dX11_times_35 : decode cX11_times 35 = .ok (.if_icmp .le 5, 3) := by decide +kernel
theorem dX11_times_38 : decode cX11_times 38 = .ok (.iconst (-1), 1) := by decide +kernel
theorem dX11_times_39 : decode cX11_times 39 = .ok (.ireturn, 1) := by decide +kernel
theorem dX11_times_40 : decode cX11_times 40 = .ok (.aload_n 0, 1) := by decide +kernel
theorem dX11_times_41 : decode cX11_times 41 = .ok (.getfield 25, 3) := by decide +kernel
theorem dX11_times_44 : decode cX11_times 44 = .ok (.iload_n 1, 1) := by decide +kernel
theorem dX11_times_45 : decode cX11_times 45 = .ok (.aaload, 1) := by decide +kernel
theorem dX11_times_46 : decode cX11_times 46 = .ok (.aload_n 0, 1) := by decide +kernel
theorem dX11_times_47 : decode cX11_times 47 = .ok (.getfield 25, 3) := by decide +kernel
theorem dX11_times_50 : decode cX11_times 50 = .ok (.iload_n 2, 1) := by decide +kernel
theorem dX11_times_51 : decode cX11_times 51 = .ok (.aaload, 1) := by decide +kernel
theorem dX11_times_52 : decode cX11_times 52 = .ok (.aload_n 0, 1) := by decide +kernel
theorem dX11_times_53 : decode cX11_times 53 = .ok (.getfield 13, 3) := by decide +kernel
theorem dX11_times_56 : decode cX11_times 56 = .ok (.invokevirtual 216, 3) := by decide +kernel
theorem dX11_times_59 : decode cX11_times 59 = .ok (.aload_n 0, 1) := by decide +kernel
theorem dX11_times_60 : decode cX11_times 60 = .ok (.getfield 25, 3) := by decide +kernel
theorem dX11_times_63 : decode cX11_times 63 = .ok (.iload_n 1, 1) := by decide +kernel
theorem dX11_times_64 : decode cX11_times 64 = .ok (.aaload, 1) := by decide +kernel
theorem dX11_times_65 : decode cX11_times 65 = .ok (.getfield 132, 3) := by decide +kernel
theorem dX11_times_68 : decode cX11_times 68 = .ok (.ireturn, 1) := by decide +kernel
theorem dX11_readyForHecke_0 : decode cX11_readyForHecke 0 = .ok (.aload_n 0, 1) := by decide +kernel
theorem dX11_readyForHecke_1 : decode cX11_readyForHecke 1 = .ok (.getfield 45, 3) := by decide +kernel
theorem dX11_readyForHecke_4 : decode cX11_readyForHecke 4 = .ok (.iload_n 1, 1) := by decide +kernel
theorem dX11_readyForHecke_5 : decode cX11_readyForHecke 5 = .ok (.aload_n 0, 1) := by decide +kernel
theorem dX11_readyForHecke_6 : decode cX11_readyForHecke 6 = .ok (.getfield 13, 3) := by decide +kernel
theorem dX11_readyForHecke_9 : decode cX11_readyForHecke 9 = .ok (.iload_n 1, 1) := by decide +kernel
theorem dX11_readyForHecke_10 : decode cX11_readyForHecke 10 = .ok (.invokestatic 163, 3) := by decide +kernel
theorem dX11_readyForHecke_13 : decode cX11_readyForHecke 13 = .ok (.iload_n 2, 1) := by decide +kernel
theorem dX11_readyForHecke_14 : decode cX11_readyForHecke 14 = .ok (.imul, 1) := by decide +kernel
theorem dX11_readyForHecke_15 : decode cX11_readyForHecke 15 = .ok (.invokevirtual 150, 3) := by decide +kernel
theorem dX11_readyForHecke_18 : decode cX11_readyForHecke 18 = .ok (.areturn, 1) := by decide +kernel
theorem dX11_hecke_0 : decode cX11_hecke 0 = .ok (.iload_n 1, 1) := by decide +kernel
theorem dX11_hecke_1 : decode cX11_hecke 1 = .ok (.invokestatic 143, 3) := by decide +kernel
theorem dX11_hecke_4 : decode cX11_hecke 4 = .ok (.ifCond .eq 10, 3) := by decide +kernel
theorem dX11_hecke_7 : decode cX11_hecke 7 = .ok (.iload_n 2, 1) := by decide +kernel
theorem dX11_hecke_8 : decode cX11_hecke 8 = .ok (.invokestatic 220, 3) := by decide +kernel
theorem dX11_hecke_11 : decode cX11_hecke 11 = .ok (.ifCond .ne 5, 3) := by decide +kernel
theorem dX11_hecke_14 : decode cX11_hecke 14 = .ok (.iconst 0, 1) := by decide +kernel
theorem dX11_hecke_15 : decode cX11_hecke 15 = .ok (.ireturn, 1) := by decide +kernel
theorem dX11_hecke_16 : decode cX11_hecke 16 = .ok (.aload_n 0, 1) := by decide +kernel
theorem dX11_hecke_17 : decode cX11_hecke 17 = .ok (.getfield 25, 3) := by decide +kernel
theorem dX11_hecke_20 : decode cX11_hecke 20 = .ok (.iload_n 1, 1) := by decide +kernel
theorem dX11_hecke_21 : decode cX11_hecke 21 = .ok (.aaload, 1) := by decide +kernel
theorem dX11_hecke_22 : decode cX11_hecke 22 = .ok (.astore_n 3, 1) := by decide +kernel
theorem dX11_hecke_23 : decode cX11_hecke 23 = .ok (.aload_n 0, 1) := by decide +kernel
theorem dX11_hecke_24 : decode cX11_hecke 24 = .ok (.aload_n 3, 1) := by decide +kernel
theorem dX11_hecke_25 : decode cX11_hecke 25 = .ok (.getfield 132, 3) := by decide +kernel
theorem dX11_hecke_28 : decode cX11_hecke 28 = .ok (.iload_n 2, 1) := by decide +kernel
theorem dX11_hecke_29 : decode cX11_hecke 29 = .ok (.invokevirtual 223, 3) := by decide +kernel
theorem dX11_hecke_32 : decode cX11_hecke 32 = .ok (.astore 4, 2) := by decide +kernel
theorem dX11_hecke_34 : decode cX11_hecke 34 = .ok (.iconst 0, 1) := by decide +kernel
theorem dX11_hecke_35 : decode cX11_hecke 35 = .ok (.istore 5, 2) := by decide +kernel
theorem dX11_hecke_37 : decode cX11_hecke 37 = .ok (.iload 5, 2) := by decide +kernel
theorem dX11_hecke_39 : decode cX11_hecke 39 = .ok (.aload 4, 2) := by decide +kernel
theorem dX11_hecke_41 : decode cX11_hecke 41 = .ok (.getfield 227, 3) := by decide +kernel
theorem dX11_hecke_44 : decode cX11_hecke 44 = .ok (.if_icmp .ge 31, 3) := by decide +kernel
theorem dX11_hecke_47 : decode cX11_hecke 47 = .ok (.aload_n 0, 1) := by decide +kernel
theorem dX11_hecke_48 : decode cX11_hecke 48 = .ok (.getfield 66, 3) := by decide +kernel
theorem dX11_hecke_51 : decode cX11_hecke 51 = .ok (.getfield 139, 3) := by decide +kernel
theorem dX11_hecke_54 : decode cX11_hecke 54 = .ok (.iload 5, 2) := by decide +kernel
theorem dX11_hecke_56 : decode cX11_hecke 56 = .ok (.aload 4, 2) := by decide +kernel
theorem dX11_hecke_58 : decode cX11_hecke 58 = .ok (.aload_n 3, 1) := by decide +kernel
theorem dX11_hecke_59 : decode cX11_hecke 59 = .ok (.getfield 139, 3) := by decide +kernel
theorem dX11_hecke_62 : decode cX11_hecke 62 = .ok (.iload_n 2, 1) := by decide +kernel
theorem dX11_hecke_63 : decode cX11_hecke 63 = .ok (.iload 5, 2) := by decide +kernel
theorem dX11_hecke_65 : decode cX11_hecke 65 = .ok (.invokevirtual 230, 3) := by decide +kernel
theorem dX11_hecke_68 : decode cX11_hecke 68 = .ok (.iastore, 1) := by decide +kernel
theorem dX11_hecke_69 : decode cX11_hecke 69 = .ok (.iinc 5 1, 3) := by decide +kernel
theorem dX11_hecke_72 : decode cX11_hecke 72 = .ok (.goto (-35), 3) := by decide +kernel
theorem dX11_hecke_75 : decode cX11_hecke 75 = .ok (.aload 4, 2) := by decide +kernel
theorem dX11_hecke_77 : decode cX11_hecke 77 = .ok (.aload_n 0, 1) := by decide +kernel
theorem dX11_hecke_78 : decode cX11_hecke 78 = .ok (.getfield 66, 3) := by decide +kernel
theorem dX11_hecke_81 : decode cX11_hecke 81 = .ok (.invokevirtual 234, 3) := by decide +kernel
theorem dX11_hecke_84 : decode cX11_hecke 84 = .ok (.aload_n 3, 1) := by decide +kernel
theorem dX11_hecke_85 : decode cX11_hecke 85 = .ok (.aload_n 0, 1) := by decide +kernel
theorem dX11_hecke_86 : decode cX11_hecke 86 = .ok (.getfield 66, 3) := by decide +kernel
theorem dX11_hecke_89 : decode cX11_hecke 89 = .ok (.invokevirtual 111, 3) := by decide +kernel
theorem dX11_hecke_92 : decode cX11_hecke 92 = .ok (.iconst 1, 1) := by decide +kernel
theorem dX11_hecke_93 : decode cX11_hecke 93 = .ok (.ireturn, 1) := by decide +kernel
theorem dX11_multiplies_0 : decode cX11_multiplies 0 = .ok (.iload_n 1, 1) := by decide +kernel
theorem dX11_multiplies_1 : decode cX11_multiplies 1 = .ok (.invokestatic 143, 3) := by decide +kernel
theorem dX11_multiplies_4 : decode cX11_multiplies 4 = .ok (.ifCond .eq 10, 3) := by decide +kernel
theorem dX11_multiplies_7 : decode cX11_multiplies 7 = .ok (.iload_n 2, 1) := by decide +kernel
theorem dX11_multiplies_8 : decode cX11_multiplies 8 = .ok (.invokestatic 220, 3) := by decide +kernel
theorem dX11_multiplies_11 : decode cX11_multiplies 11 = .ok (.ifCond .ne 5, 3) := by decide +kernel
theorem dX11_multiplies_14 : decode cX11_multiplies 14 = .ok (.iconst (-1), 1) := by decide +kernel
theorem dX11_multiplies_15 : decode cX11_multiplies 15 = .ok (.ireturn, 1) := by decide +kernel
theorem dX11_multiplies_16 : decode cX11_multiplies 16 = .ok (.aload_n 0, 1) := by decide +kernel
theorem dX11_multiplies_17 : decode cX11_multiplies 17 = .ok (.getfield 25, 3) := by decide +kernel
theorem dX11_multiplies_20 : decode cX11_multiplies 20 = .ok (.iload_n 1, 1) := by decide +kernel
theorem dX11_multiplies_21 : decode cX11_multiplies 21 = .ok (.aaload, 1) := by decide +kernel
theorem dX11_multiplies_22 : decode cX11_multiplies 22 = .ok (.getfield 139, 3) := by decide +kernel
theorem dX11_multiplies_25 : decode cX11_multiplies 25 = .ok (.astore_n 3, 1) := by decide +kernel
theorem dX11_multiplies_26 : decode cX11_multiplies 26 = .ok (.aload_n 0, 1) := by decide +kernel
theorem dX11_multiplies_27 : decode cX11_multiplies 27 = .ok (.getfield 25, 3) := by decide +kernel
theorem dX11_multiplies_30 : decode cX11_multiplies 30 = .ok (.iload_n 1, 1) := by decide +kernel
theorem dX11_multiplies_31 : decode cX11_multiplies 31 = .ok (.aaload, 1) := by decide +kernel
theorem dX11_multiplies_32 : decode cX11_multiplies 32 = .ok (.invokevirtual 237, 3) := by decide +kernel
theorem dX11_multiplies_35 : decode cX11_multiplies 35 = .ok (.istore 4, 2) := by decide +kernel
theorem dX11_multiplies_37 : decode cX11_multiplies 37 = .ok (.iload 4, 2) := by decide +kernel
theorem dX11_multiplies_39 : decode cX11_multiplies 39 = .ok (.ifCond .ge 6, 3) := by decide +kernel
theorem dX11_multiplies_42 : decode cX11_multiplies 42 = .ok (.bipush (-2), 2) := by decide +kernel
theorem dX11_multiplies_44 : decode cX11_multiplies 44 = .ok (.ireturn, 1) := by decide +kernel
theorem dX11_multiplies_45 : decode cX11_multiplies 45 = .ok (.aload_n 0, 1) := by decide +kernel
theorem dX11_multiplies_46 : decode cX11_multiplies 46 = .ok (.aload_n 0, 1) := by decide +kernel
theorem dX11_multiplies_47 : decode cX11_multiplies 47 = .ok (.getfield 25, 3) := by decide +kernel
theorem dX11_multiplies_50 : decode cX11_multiplies 50 = .ok (.iload_n 1, 1) := by decide +kernel
theorem dX11_multiplies_51 : decode cX11_multiplies 51 = .ok (.aaload, 1) := by decide +kernel
theorem dX11_multiplies_52 : decode cX11_multiplies 52 = .ok (.getfield 132, 3) := by decide +kernel
theorem dX11_multiplies_55 : decode cX11_multiplies 55 = .ok (.iload_n 2, 1) := by decide +kernel
theorem dX11_multiplies_56 : decode cX11_multiplies 56 = .ok (.invokevirtual 223, 3) := by decide +kernel
theorem dX11_multiplies_59 : decode cX11_multiplies 59 = .ok (.astore 5, 2) := by decide +kernel
theorem dX11_multiplies_61 : decode cX11_multiplies 61 = .ok (.aload 5, 2) := by decide +kernel
theorem dX11_multiplies_63 : decode cX11_multiplies 63 = .ok (.aload_n 3, 1) := by decide +kernel
theorem dX11_multiplies_64 : decode cX11_multiplies 64 = .ok (.iload_n 2, 1) := by decide +kernel
theorem dX11_multiplies_65 : decode cX11_multiplies 65 = .ok (.iload 4, 2) := by decide +kernel
theorem dX11_multiplies_67 : decode cX11_multiplies 67 = .ok (.invokevirtual 230, 3) := by decide +kernel
theorem dX11_multiplies_70 : decode cX11_multiplies 70 = .ok (.aload_n 3, 1) := by decide +kernel
theorem dX11_multiplies_71 : decode cX11_multiplies 71 = .ok (.iload 4, 2) := by decide +kernel
theorem dX11_multiplies_73 : decode cX11_multiplies 73 = .ok (.iaload, 1) := by decide +kernel
theorem dX11_multiplies_74 : decode cX11_multiplies 74 = .ok (.aload_n 0, 1) := by decide +kernel
theorem dX11_multiplies_75 : decode cX11_multiplies 75 = .ok (.getfield 13, 3) := by decide +kernel
theorem dX11_multiplies_78 : decode cX11_multiplies 78 = .ok (.invokestatic 240, 3) := by decide +kernel
theorem dX11_multiplies_81 : decode cX11_multiplies 81 = .ok (.istore 6, 2) := by decide +kernel
theorem dX11_multiplies_83 : decode cX11_multiplies 83 = .ok (.iconst 0, 1) := by decide +kernel
theorem dX11_multiplies_84 : decode cX11_multiplies 84 = .ok (.istore 7, 2) := by decide +kernel
theorem dX11_multiplies_86 : decode cX11_multiplies 86 = .ok (.iload 7, 2) := by decide +kernel
theorem dX11_multiplies_88 : decode cX11_multiplies 88 = .ok (.aload 5, 2) := by decide +kernel
theorem dX11_multiplies_90 : decode cX11_multiplies 90 = .ok (.getfield 227, 3) := by decide +kernel
theorem dX11_multiplies_93 : decode cX11_multiplies 93 = .ok (.if_icmp .ge 40, 3) := by decide +kernel
theorem dX11_multiplies_96 : decode cX11_multiplies 96 = .ok (.aload 5, 2) := by decide +kernel
theorem dX11_multiplies_98 : decode cX11_multiplies 98 = .ok (.aload_n 3, 1) := by decide +kernel
theorem dX11_multiplies_99 : decode cX11_multiplies 99 = .ok (.iload_n 2, 1) := by decide +kernel
theorem dX11_multiplies_100 : decode cX11_multiplies 100 = .ok (.iload 7, 2) := by decide +kernel
theorem dX11_multiplies_102 : decode cX11_multiplies 102 = .ok (.invokevirtual 230, 3) := by decide +kernel
theorem dX11_multiplies_105 : decode cX11_multiplies 105 = .ok (.iload 6, 2) := by decide +kernel
theorem dX11_multiplies_107 : decode cX11_multiplies 107 = .ok (.i2l, 1) := by decide +kernel
theorem dX11_multiplies_108 : decode cX11_multiplies 108 = .ok (.aload_n 3, 1) := by decide +kernel
theorem dX11_multiplies_109 : decode cX11_multiplies 109 = .ok (.iload 7, 2) := by decide +kernel
theorem dX11_multiplies_111 : decode cX11_multiplies 111 = .ok (.iaload, 1) := by decide +kernel
theorem dX11_multiplies_112 : decode cX11_multiplies 112 = .ok (.i2l, 1) := by decide +kernel
theorem dX11_multiplies_113 : decode cX11_multiplies 113 = .ok (.lmul, 1) := by decide +kernel
theorem dX11_multiplies_114 : decode cX11_multiplies 114 = .ok (.aload_n 0, 1) := by decide +kernel
theorem dX11_multiplies_115 : decode cX11_multiplies 115 = .ok (.getfield 13, 3) := by decide +kernel
theorem dX11_multiplies_118 : decode cX11_multiplies 118 = .ok (.invokestatic 206, 3) := by decide +kernel
theorem dX11_multiplies_121 : decode cX11_multiplies 121 = .ok (.if_icmp .eq 6, 3) := by decide +kernel
theorem dX11_multiplies_124 : decode cX11_multiplies 124 = .ok (.bipush (-2), 2) := by decide +kernel
theorem dX11_multiplies_126 : decode cX11_multiplies 126 = .ok (.ireturn, 1) := by decide +kernel
theorem dX11_multiplies_127 : decode cX11_multiplies 127 = .ok (.iinc 7 1, 3) := by decide +kernel
theorem dX11_multiplies_130 : decode cX11_multiplies 130 = .ok (.goto (-44), 3) := by decide +kernel
theorem dX11_multiplies_133 : decode cX11_multiplies 133 = .ok (.iload 6, 2) := by decide +kernel
theorem dX11_multiplies_135 : decode cX11_multiplies 135 = .ok (.ireturn, 1) := by decide +kernel
theorem dX11_alike_0 : decode cX11_alike 0 = .ok (.iload_n 1, 1) := by decide +kernel
theorem dX11_alike_1 : decode cX11_alike 1 = .ok (.invokestatic 143, 3) := by decide +kernel
theorem dX11_alike_4 : decode cX11_alike 4 = .ok (.ifCond .eq 21, 3) := by decide +kernel
theorem dX11_alike_7 : decode cX11_alike 7 = .ok (.iload_n 2, 1) := by decide +kernel
theorem dX11_alike_8 : decode cX11_alike 8 = .ok (.invokestatic 143, 3) := by decide +kernel
theorem dX11_alike_11 : decode cX11_alike 11 = .ok (.ifCond .eq 14, 3) := by decide +kernel
theorem dX11_alike_14 : decode cX11_alike 14 = .ok (.iload_n 3, 1) := by decide +kernel
theorem dX11_alike_15 : decode cX11_alike 15 = .ok (.ifCond .lt 10, 3) := by decide +kernel
theorem dX11_alike_18 : decode cX11_alike 18 = .ok (.iload_n 3, 1) := by decide +kernel
theorem dX11_alike_19 : decode cX11_alike 19 = .ok (.sipush 180, 3) := by decide +kernel
theorem dX11_alike_22 : decode cX11_alike 22 = .ok (.if_icmp .le 5, 3) := by decide +kernel
theorem dX11_alike_25 : decode cX11_alike 25 = .ok (.iconst (-1), 1) := by decide +kernel
theorem dX11_alike_26 : decode cX11_alike 26 = .ok (.ireturn, 1) := by decide +kernel
theorem dX11_alike_27 : decode cX11_alike 27 = .ok (.aload_n 0, 1) := by decide +kernel
theorem dX11_alike_28 : decode cX11_alike 28 = .ok (.getfield 25, 3) := by decide +kernel
theorem dX11_alike_31 : decode cX11_alike 31 = .ok (.iload_n 1, 1) := by decide +kernel
theorem dX11_alike_32 : decode cX11_alike 32 = .ok (.aaload, 1) := by decide +kernel
theorem dX11_alike_33 : decode cX11_alike 33 = .ok (.getfield 132, 3) := by decide +kernel
theorem dX11_alike_36 : decode cX11_alike 36 = .ok (.aload_n 0, 1) := by decide +kernel
theorem dX11_alike_37 : decode cX11_alike 37 = .ok (.getfield 25, 3) := by decide +kernel
theorem dX11_alike_40 : decode cX11_alike 40 = .ok (.iload_n 2, 1) := by decide +kernel
theorem dX11_alike_41 : decode cX11_alike 41 = .ok (.aaload, 1) := by decide +kernel
theorem dX11_alike_42 : decode cX11_alike 42 = .ok (.getfield 132, 3) := by decide +kernel
theorem dX11_alike_45 : decode cX11_alike 45 = .ok (.if_icmp .eq 5, 3) := by decide +kernel
theorem dX11_alike_48 : decode cX11_alike 48 = .ok (.iconst 0, 1) := by decide +kernel
theorem dX11_alike_49 : decode cX11_alike 49 = .ok (.ireturn, 1) := by decide +kernel
theorem dX11_alike_50 : decode cX11_alike 50 = .ok (.aload_n 0, 1) := by decide +kernel
theorem dX11_alike_51 : decode cX11_alike 51 = .ok (.getfield 25, 3) := by decide +kernel
theorem dX11_alike_54 : decode cX11_alike 54 = .ok (.iload_n 1, 1) := by decide +kernel
theorem dX11_alike_55 : decode cX11_alike 55 = .ok (.aaload, 1) := by decide +kernel
theorem dX11_alike_56 : decode cX11_alike 56 = .ok (.aload_n 0, 1) := by decide +kernel
theorem dX11_alike_57 : decode cX11_alike 57 = .ok (.getfield 25, 3) := by decide +kernel
theorem dX11_alike_60 : decode cX11_alike 60 = .ok (.iload_n 2, 1) := by decide +kernel
theorem dX11_alike_61 : decode cX11_alike 61 = .ok (.aaload, 1) := by decide +kernel
theorem dX11_alike_62 : decode cX11_alike 62 = .ok (.invokestatic 243, 3) := by decide +kernel
theorem dX11_alike_65 : decode cX11_alike 65 = .ok (.istore 4, 2) := by decide +kernel
theorem dX11_alike_67 : decode cX11_alike 67 = .ok (.iload 4, 2) := by decide +kernel
theorem dX11_alike_69 : decode cX11_alike 69 = .ok (.ifCond .lt 9, 3) := by decide +kernel
theorem dX11_alike_72 : decode cX11_alike 72 = .ok (.iload 4, 2) := by decide +kernel
theorem dX11_alike_74 : decode cX11_alike 74 = .ok (.iload_n 3, 1) := by decide +kernel
theorem dX11_alike_75 : decode cX11_alike 75 = .ok (.if_icmp .le 7, 3) := by decide +kernel
theorem dX11_alike_78 : decode cX11_alike 78 = .ok (.iconst 1, 1) := by decide +kernel
theorem dX11_alike_79 : decode cX11_alike 79 = .ok (.goto 4, 3) := by decide +kernel
theorem dX11_alike_82 : decode cX11_alike 82 = .ok (.iconst 0, 1) := by decide +kernel
theorem dX11_alike_83 : decode cX11_alike 83 = .ok (.ireturn, 1) := by decide +kernel
theorem dX11_parts_0 : decode cX11_parts 0 = .ok (.iload_n 1, 1) := by decide +kernel
theorem dX11_parts_1 : decode cX11_parts 1 = .ok (.invokestatic 143, 3) := by decide +kernel
theorem dX11_parts_4 : decode cX11_parts 4 = .ok (.ifCond .eq 31, 3) := by decide +kernel
theorem dX11_parts_7 : decode cX11_parts 7 = .ok (.iload_n 2, 1) := by decide +kernel
theorem dX11_parts_8 : decode cX11_parts 8 = .ok (.invokestatic 143, 3) := by decide +kernel
theorem dX11_parts_11 : decode cX11_parts 11 = .ok (.ifCond .eq 24, 3) := by decide +kernel
theorem dX11_parts_14 : decode cX11_parts 14 = .ok (.aload_n 0, 1) := by decide +kernel
theorem dX11_parts_15 : decode cX11_parts 15 = .ok (.getfield 25, 3) := by decide +kernel
theorem dX11_parts_18 : decode cX11_parts 18 = .ok (.iload_n 1, 1) := by decide +kernel
theorem dX11_parts_19 : decode cX11_parts 19 = .ok (.aaload, 1) := by decide +kernel
theorem dX11_parts_20 : decode cX11_parts 20 = .ok (.getfield 132, 3) := by decide +kernel
theorem dX11_parts_23 : decode cX11_parts 23 = .ok (.aload_n 0, 1) := by decide +kernel
theorem dX11_parts_24 : decode cX11_parts 24 = .ok (.getfield 25, 3) := by decide +kernel
theorem dX11_parts_27 : decode cX11_parts 27 = .ok (.iload_n 2, 1) := by decide +kernel
theorem dX11_parts_28 : decode cX11_parts 28 = .ok (.aaload, 1) := by decide +kernel
theorem dX11_parts_29 : decode cX11_parts 29 = .ok (.getfield 132, 3) := by decide +kernel
theorem dX11_parts_32 : decode cX11_parts 32 = .ok (.if_icmp .eq 5, 3) := by decide +kernel
theorem dX11_parts_35 : decode cX11_parts 35 = .ok (.iconst (-1), 1) := by decide +kernel
theorem dX11_parts_36 : decode cX11_parts 36 = .ok (.ireturn, 1) := by decide +kernel
theorem dX11_parts_37 : decode cX11_parts 37 = .ok (.aload_n 0, 1) := by decide +kernel
theorem dX11_parts_38 : decode cX11_parts 38 = .ok (.getfield 25, 3) := by decide +kernel
theorem dX11_parts_41 : decode cX11_parts 41 = .ok (.iload_n 1, 1) := by decide +kernel
theorem dX11_parts_42 : decode cX11_parts 42 = .ok (.aaload, 1) := by decide +kernel
theorem dX11_parts_43 : decode cX11_parts 43 = .ok (.aload_n 0, 1) := by decide +kernel
theorem dX11_parts_44 : decode cX11_parts 44 = .ok (.getfield 25, 3) := by decide +kernel
theorem dX11_parts_47 : decode cX11_parts 47 = .ok (.iload_n 2, 1) := by decide +kernel
theorem dX11_parts_48 : decode cX11_parts 48 = .ok (.aaload, 1) := by decide +kernel
theorem dX11_parts_49 : decode cX11_parts 49 = .ok (.invokestatic 243, 3) := by decide +kernel
theorem dX11_parts_52 : decode cX11_parts 52 = .ok (.ireturn, 1) := by decide +kernel
theorem dX11_partingPlace_0 : decode cX11_partingPlace 0 = .ok (.iconst 0, 1) := by decide +kernel
theorem dX11_partingPlace_1 : decode cX11_partingPlace 1 = .ok (.istore_n 2, 1) := by decide +kernel
theorem dX11_partingPlace_2 : decode cX11_partingPlace 2 = .ok (.iload_n 2, 1) := by decide +kernel
theorem dX11_partingPlace_3 : decode cX11_partingPlace 3 = .ok (.bipush 6, 2) := by decide +kernel
theorem dX11_partingPlace_5 : decode cX11_partingPlace 5 = .ok (.if_icmp .ge 26, 3) := by decide +kernel
theorem dX11_partingPlace_8 : decode cX11_partingPlace 8 = .ok (.aload_n 0, 1) := by decide +kernel
theorem dX11_partingPlace_9 : decode cX11_partingPlace 9 = .ok (.getfield 139, 3) := by decide +kernel
theorem dX11_partingPlace_12 : decode cX11_partingPlace 12 = .ok (.iload_n 2, 1) := by decide +kernel
theorem dX11_partingPlace_13 : decode cX11_partingPlace 13 = .ok (.iaload, 1) := by decide +kernel
theorem dX11_partingPlace_14 : decode cX11_partingPlace 14 = .ok (.aload_n 1, 1) := by decide +kernel
theorem dX11_partingPlace_15 : decode cX11_partingPlace 15 = .ok (.getfield 139, 3) := by decide +kernel
theorem dX11_partingPlace_18 : decode cX11_partingPlace 18 = .ok (.iload_n 2, 1) := by decide +kernel
theorem dX11_partingPlace_19 : decode cX11_partingPlace 19 = .ok (.iaload, 1) := by decide +kernel
theorem dX11_partingPlace_20 : decode cX11_partingPlace 20 = .ok (.if_icmp .eq 5, 3) := by decide +kernel
theorem dX11_partingPlace_23 : decode cX11_partingPlace 23 = .ok (.iload_n 2, 1) := by decide +kernel
theorem dX11_partingPlace_24 : decode cX11_partingPlace 24 = .ok (.ireturn, 1) := by decide +kernel
theorem dX11_partingPlace_25 : decode cX11_partingPlace 25 = .ok (.iinc 2 1, 3) := by decide +kernel
theorem dX11_partingPlace_28 : decode cX11_partingPlace 28 = .ok (.goto (-26), 3) := by decide +kernel
theorem dX11_partingPlace_31 : decode cX11_partingPlace 31 = .ok (.bipush (-2), 2) := by decide +kernel
theorem dX11_partingPlace_33 : decode cX11_partingPlace 33 = .ok (.ireturn, 1) := by decide +kernel
theorem dX11_table_0 : decode cX11_table 0 = .ok (.iload_n 1, 1) := by decide +kernel
theorem dX11_table_1 : decode cX11_table 1 = .ok (.invokestatic 160, 3) := by decide +kernel
theorem dX11_table_4 : decode cX11_table 4 = .ok (.ifCond .eq 10, 3) := by decide +kernel
theorem dX11_table_7 : decode cX11_table 7 = .ok (.iload_n 2, 1) := by decide +kernel
theorem dX11_table_8 : decode cX11_table 8 = .ok (.invokestatic 220, 3) := by decide +kernel
theorem dX11_table_11 : decode cX11_table 11 = .ok (.ifCond .ne 5, 3) := by decide +kernel
theorem dX11_table_14 : decode cX11_table 14 = .ok (.iconst (-1), 1) := by decide +kernel
theorem dX11_table_15 : decode cX11_table 15 = .ok (.ireturn, 1) := by decide +kernel
theorem dX11_table_16 : decode cX11_table 16 = .ok (.iload_n 1, 1) := by decide +kernel
theorem dX11_table_17 : decode cX11_table 17 = .ok (.invokestatic 163, 3) := by decide +kernel
theorem dX11_table_20 : decode cX11_table 20 = .ok (.istore 5, 2) := by decide +kernel
theorem dX11_table_22 : decode cX11_table 22 = .ok (.iload_n 3, 1) := by decide +kernel
theorem dX11_table_23 : decode cX11_table 23 = .ok (.iconst 1, 1) := by decide +kernel
theorem dX11_table_24 : decode cX11_table 24 = .ok (.if_icmp .lt 22, 3) := by decide +kernel
theorem dX11_table_27 : decode cX11_table 27 = .ok (.iload_n 3, 1) := by decide +kernel
theorem dX11_table_28 : decode cX11_table 28 = .ok (.iload 5, 2) := by decide +kernel
theorem dX11_table_30 : decode cX11_table 30 = .ok (.if_icmp .gt 16, 3) := by decide +kernel
theorem dX11_table_33 : decode cX11_table 33 = .ok (.iload 4, 2) := by decide +kernel
theorem dX11_table_35 : decode cX11_table 35 = .ok (.iconst 1, 1) := by decide +kernel
theorem dX11_table_36 : decode cX11_table 36 = .ok (.if_icmp .lt 10, 3) := by decide +kernel
theorem dX11_table_39 : decode cX11_table 39 = .ok (.iload 4, 2) := by decide +kernel
theorem dX11_table_41 : decode cX11_table 41 = .ok (.iload 5, 2) := by decide +kernel
theorem dX11_table_43 : decode cX11_table 43 = .ok (.if_icmp .le 5, 3) := by decide +kernel
theorem dX11_table_46 : decode cX11_table 46 = .ok (.iconst (-1), 1) := by decide +kernel
theorem dX11_table_47 : decode cX11_table 47 = .ok (.ireturn, 1) := by decide +kernel
theorem dX11_table_48 : decode cX11_table 48 = .ok (.aload_n 0, 1) := by decide +kernel
theorem dX11_table_49 : decode cX11_table 49 = .ok (.iload_n 1, 1) := by decide +kernel
theorem dX11_table_50 : decode cX11_table 50 = .ok (.iload_n 2, 1) := by decide +kernel
theorem dX11_table_51 : decode cX11_table 51 = .ok (.invokevirtual 223, 3) := by decide +kernel
theorem dX11_table_54 : decode cX11_table 54 = .ok (.astore 6, 2) := by decide +kernel
theorem dX11_table_56 : decode cX11_table 56 = .ok (.aload 6, 2) := by decide +kernel
theorem dX11_table_58 : decode cX11_table 58 = .ok (.aload 6, 2) := by decide +kernel
theorem dX11_table_60 : decode cX11_table 60 = .ok (.getfield 247, 3) := by decide +kernel
theorem dX11_table_63 : decode cX11_table 63 = .ok (.iload_n 3, 1) := by decide +kernel
theorem dX11_table_64 : decode cX11_table 64 = .ok (.aaload, 1) := by decide +kernel
theorem dX11_table_65 : decode cX11_table 65 = .ok (.iload_n 2, 1) := by decide +kernel
theorem dX11_table_66 : decode cX11_table 66 = .ok (.iload 4, 2) := by decide +kernel
theorem dX11_table_68 : decode cX11_table 68 = .ok (.invokevirtual 230, 3) := by decide +kernel
theorem dX11_table_71 : decode cX11_table 71 = .ok (.ireturn, 1) := by decide +kernel
theorem dX11_polynomial_0 : decode cX11_polynomial 0 = .ok (.iload_n 1, 1) := by decide +kernel
theorem dX11_polynomial_1 : decode cX11_polynomial 1 = .ok (.invokestatic 160, 3) := by decide +kernel
theorem dX11_polynomial_4 : decode cX11_polynomial 4 = .ok (.ifCond .eq 22, 3) := by decide +kernel
theorem dX11_polynomial_7 : decode cX11_polynomial 7 = .ok (.iload_n 2, 1) := by decide +kernel
theorem dX11_polynomial_8 : decode cX11_polynomial 8 = .ok (.invokestatic 220, 3) := by decide +kernel
theorem dX11_polynomial_11 : decode cX11_polynomial 11 = .ok (.ifCond .eq 15, 3) := by decide +kernel
theorem dX11_polynomial_14 : decode cX11_polynomial 14 = .ok (.iload_n 3, 1) := by decide +kernel
theorem dX11_polynomial_15 : decode cX11_polynomial 15 = .ok (.ifCond .lt 11, 3) := by decide +kernel
theorem dX11_polynomial_18 : decode cX11_polynomial 18 = .ok (.iload_n 3, 1) := by decide +kernel
theorem dX11_polynomial_19 : decode cX11_polynomial 19 = .ok (.iload_n 1, 1) := by decide +kernel
theorem dX11_polynomial_20 : decode cX11_polynomial 20 = .ok (.invokestatic 163, 3) := by decide +kernel
theorem dX11_polynomial_23 : decode cX11_polynomial 23 = .ok (.if_icmp .le 5, 3) := by decide +kernel
theorem dX11_polynomial_26 : decode cX11_polynomial 26 = .ok (.iconst (-1), 1) := by decide +kernel
theorem dX11_polynomial_27 : decode cX11_polynomial 27 = .ok (.ireturn, 1) := by decide +kernel
theorem dX11_polynomial_28 : decode cX11_polynomial 28 = .ok (.aload_n 0, 1) := by decide +kernel
theorem dX11_polynomial_29 : decode cX11_polynomial 29 = .ok (.getfield 52, 3) := by decide +kernel
theorem dX11_polynomial_32 : decode cX11_polynomial 32 = .ok (.aload_n 0, 1) := by decide +kernel
theorem dX11_polynomial_33 : decode cX11_polynomial 33 = .ok (.iload_n 1, 1) := by decide +kernel
theorem dX11_polynomial_34 : decode cX11_polynomial 34 = .ok (.iload_n 2, 1) := by decide +kernel
theorem dX11_polynomial_35 : decode cX11_polynomial 35 = .ok (.invokevirtual 223, 3) := by decide +kernel
theorem dX11_polynomial_38 : decode cX11_polynomial 38 = .ok (.iload_n 2, 1) := by decide +kernel
theorem dX11_polynomial_39 : decode cX11_polynomial 39 = .ok (.invokevirtual 251, 3) := by decide +kernel
theorem dX11_polynomial_42 : decode cX11_polynomial 42 = .ok (.aload_n 0, 1) := by decide +kernel
theorem dX11_polynomial_43 : decode cX11_polynomial 43 = .ok (.getfield 52, 3) := by decide +kernel
theorem dX11_polynomial_46 : decode cX11_polynomial 46 = .ok (.invokevirtual 255, 3) := by decide +kernel
theorem dX11_polynomial_49 : decode cX11_polynomial 49 = .ok (.aload_n 0, 1) := by decide +kernel
theorem dX11_polynomial_50 : decode cX11_polynomial 50 = .ok (.getfield 52, 3) := by decide +kernel
theorem dX11_polynomial_53 : decode cX11_polynomial 53 = .ok (.getfield 258, 3) := by decide +kernel
theorem dX11_polynomial_56 : decode cX11_polynomial 56 = .ok (.iload_n 3, 1) := by decide +kernel
theorem dX11_polynomial_57 : decode cX11_polynomial 57 = .ok (.iaload, 1) := by decide +kernel
theorem dX11_polynomial_58 : decode cX11_polynomial 58 = .ok (.ireturn, 1) := by decide +kernel
theorem dX11_root_0 : decode cX11_root 0 = .ok (.iload_n 1, 1) := by decide +kernel
theorem dX11_root_1 : decode cX11_root 1 = .ok (.invokestatic 160, 3) := by decide +kernel
theorem dX11_root_4 : decode cX11_root 4 = .ok (.ifCond .ne 5, 3) := by decide +kernel
theorem dX11_root_7 : decode cX11_root 7 = .ok (.iconst (-1), 1) := by decide +kernel
theorem dX11_root_8 : decode cX11_root 8 = .ok (.ireturn, 1) := by decide +kernel
theorem dX11_root_9 : decode cX11_root 9 = .ok (.aload_n 0, 1) := by decide +kernel
theorem dX11_root_10 : decode cX11_root 10 = .ok (.iload_n 1, 1) := by decide +kernel
theorem dX11_root_11 : decode cX11_root 11 = .ok (.invokevirtual 261, 3) := by decide +kernel
theorem dX11_root_14 : decode cX11_root 14 = .ok (.astore_n 3, 1) := by decide +kernel
theorem dX11_root_15 : decode cX11_root 15 = .ok (.iload_n 2, 1) := by decide +kernel
theorem dX11_root_16 : decode cX11_root 16 = .ok (.iconst (-1), 1) := by decide +kernel
theorem dX11_root_17 : decode cX11_root 17 = .ok (.if_icmp .ne 8, 3) := by decide +kernel
theorem dX11_root_20 : decode cX11_root 20 = .ok (.aload_n 3, 1) := by decide +kernel
theorem dX11_root_21 : decode cX11_root 21 = .ok (.getfield 265, 3) := by decide +kernel
theorem dX11_root_24 : decode cX11_root 24 = .ok (.ireturn, 1) := by decide +kernel
theorem dX11_root_25 : decode cX11_root 25 = .ok (.iload_n 2, 1) := by decide +kernel
theorem dX11_root_26 : decode cX11_root 26 = .ok (.ifCond .lt 20, 3) := by decide +kernel
theorem dX11_root_29 : decode cX11_root 29 = .ok (.iload_n 2, 1) := by decide +kernel
theorem dX11_root_30 : decode cX11_root 30 = .ok (.aload_n 3, 1) := by decide +kernel
theorem dX11_root_31 : decode cX11_root 31 = .ok (.getfield 265, 3) := by decide +kernel
theorem dX11_root_34 : decode cX11_root 34 = .ok (.if_icmp .ge 12, 3) := by decide +kernel
theorem dX11_root_37 : decode cX11_root 37 = .ok (.aload_n 3, 1) := by decide +kernel
theorem dX11_root_38 : decode cX11_root 38 = .ok (.getfield 268, 3) := by decide +kernel
theorem dX11_root_41 : decode cX11_root 41 = .ok (.iload_n 2, 1) := by decide +kernel
theorem dX11_root_42 : decode cX11_root 42 = .ok (.iaload, 1) := by decide +kernel
theorem dX11_root_43 : decode cX11_root 43 = .ok (.goto 4, 3) := by decide +kernel
theorem dX11_root_46 : decode cX11_root 46 = .ok (.iconst (-1), 1) := by decide +kernel
theorem dX11_root_47 : decode cX11_root 47 = .ok (.ireturn, 1) := by decide +kernel
theorem dX11_spaceWithRoots_0 : decode cX11_spaceWithRoots 0 = .ok (.aload_n 0, 1) := by decide +kernel
theorem dX11_spaceWithRoots_1 : decode cX11_spaceWithRoots 1 = .ok (.getfield 45, 3) := by decide +kernel
theorem dX11_spaceWithRoots_4 : decode cX11_spaceWithRoots 4 = .ok (.iload_n 1, 1) := by decide +kernel
theorem dX11_spaceWithRoots_5 : decode cX11_spaceWithRoots 5 = .ok (.aload_n 0, 1) := by decide +kernel
theorem dX11_spaceWithRoots_6 : decode cX11_spaceWithRoots 6 = .ok (.getfield 13, 3) := by decide +kernel
theorem dX11_spaceWithRoots_9 : decode cX11_spaceWithRoots 9 = .ok (.iload_n 1, 1) := by decide +kernel
theorem dX11_spaceWithRoots_10 : decode cX11_spaceWithRoots 10 = .ok (.invokestatic 163, 3) := by decide +kernel
theorem dX11_spaceWithRoots_13 : decode cX11_spaceWithRoots 13 = .ok (.iconst 2, 1) := by decide +kernel
theorem dX11_spaceWithRoots_14 : decode cX11_spaceWithRoots 14 = .ok (.imul, 1) := by decide +kernel
theorem dX11_spaceWithRoots_15 : decode cX11_spaceWithRoots 15 = .ok (.invokevirtual 150, 3) := by decide +kernel
theorem dX11_spaceWithRoots_18 : decode cX11_spaceWithRoots 18 = .ok (.astore_n 2, 1) := by decide +kernel
theorem dX11_spaceWithRoots_19 : decode cX11_spaceWithRoots 19 = .ok (.aload_n 2, 1) := by decide +kernel
theorem dX11_spaceWithRoots_20 : decode cX11_spaceWithRoots 20 = .ok (.getfield 271, 3) := by decide +kernel
theorem dX11_spaceWithRoots_23 : decode cX11_spaceWithRoots 23 = .ok (.aload_n 0, 1) := by decide +kernel
theorem dX11_spaceWithRoots_24 : decode cX11_spaceWithRoots 24 = .ok (.getfield 13, 3) := by decide +kernel
theorem dX11_spaceWithRoots_27 : decode cX11_spaceWithRoots 27 = .ok (.if_icmp .eq 42, 3) := by decide +kernel
theorem dX11_spaceWithRoots_30 : decode cX11_spaceWithRoots 30 = .ok (.aload_n 0, 1) := by decide +kernel
theorem dX11_spaceWithRoots_31 : decode cX11_spaceWithRoots 31 = .ok (.getfield 52, 3) := by decide +kernel
theorem dX11_spaceWithRoots_34 : decode cX11_spaceWithRoots 34 = .ok (.aload_n 2, 1) := by decide +kernel
theorem dX11_spaceWithRoots_35 : decode cX11_spaceWithRoots 35 = .ok (.iconst 2, 1) := by decide +kernel
theorem dX11_spaceWithRoots_36 : decode cX11_spaceWithRoots 36 = .ok (.invokevirtual 251, 3) := by decide +kernel
theorem dX11_spaceWithRoots_39 : decode cX11_spaceWithRoots 39 = .ok (.aload_n 0, 1) := by decide +kernel
theorem dX11_spaceWithRoots_40 : decode cX11_spaceWithRoots 40 = .ok (.getfield 52, 3) := by decide +kernel
theorem dX11_spaceWithRoots_43 : decode cX11_spaceWithRoots 43 = .ok (.invokevirtual 255, 3) := by decide +kernel
theorem dX11_spaceWithRoots_46 : decode cX11_spaceWithRoots 46 = .ok (.aload_n 2, 1) := by decide +kernel
theorem dX11_spaceWithRoots_47 : decode cX11_spaceWithRoots 47 = .ok (.aload_n 0, 1) := by decide +kernel
theorem dX11_spaceWithRoots_48 : decode cX11_spaceWithRoots 48 = .ok (.getfield 52, 3) := by decide +kernel
theorem dX11_spaceWithRoots_51 : decode cX11_spaceWithRoots 51 = .ok (.aload_n 2, 1) := by decide +kernel
theorem dX11_spaceWithRoots_52 : decode cX11_spaceWithRoots 52 = .ok (.getfield 268, 3) := by decide +kernel
theorem dX11_spaceWithRoots_55 : decode cX11_spaceWithRoots 55 = .ok (.invokevirtual 274, 3) := by decide +kernel
theorem dX11_spaceWithRoots_58 : decode cX11_spaceWithRoots 58 = .ok (.putfield 265, 3) := by decide +kernel
theorem dX11_spaceWithRoots_61 : decode cX11_spaceWithRoots 61 = .ok (.aload_n 2, 1) := by decide +kernel
theorem dX11_spaceWithRoots_62 : decode cX11_spaceWithRoots 62 = .ok (.aload_n 0, 1) := by decide +kernel
theorem dX11_spaceWithRoots_63 : decode cX11_spaceWithRoots 63 = .ok (.getfield 13, 3) := by decide +kernel
theorem dX11_spaceWithRoots_66 : decode cX11_spaceWithRoots 66 = .ok (.putfield 271, 3) := by decide +kernel
theorem dX11_spaceWithRoots_69 : decode cX11_spaceWithRoots 69 = .ok (.aload_n 2, 1) := by decide +kernel
theorem dX11_spaceWithRoots_70 : decode cX11_spaceWithRoots 70 = .ok (.areturn, 1) := by decide +kernel
theorem dX11_own_0 : decode cX11_own 0 = .ok (.iload_n 1, 1) := by decide +kernel
theorem dX11_own_1 : decode cX11_own 1 = .ok (.invokestatic 143, 3) := by decide +kernel
theorem dX11_own_4 : decode cX11_own 4 = .ok (.ifCond .eq 10, 3) := by decide +kernel
theorem dX11_own_7 : decode cX11_own 7 = .ok (.iload_n 2, 1) := by decide +kernel
theorem dX11_own_8 : decode cX11_own 8 = .ok (.invokestatic 160, 3) := by decide +kernel
theorem dX11_own_11 : decode cX11_own 11 = .ok (.ifCond .ne 5, 3) := by decide +kernel
theorem dX11_own_14 : decode cX11_own 14 = .ok (.iconst (-1), 1) := by decide +kernel
theorem dX11_own_15 : decode cX11_own 15 = .ok (.ireturn, 1) := by decide +kernel
theorem dX11_own_16 : decode cX11_own 16 = .ok (.aload_n 0, 1) := by decide +kernel
theorem dX11_own_17 : decode cX11_own 17 = .ok (.iload_n 2, 1) := by decide +kernel
theorem dX11_own_18 : decode cX11_own 18 = .ok (.invokevirtual 261, 3) := by decide +kernel
theorem dX11_own_21 : decode cX11_own 21 = .ok (.astore 4, 2) := by decide +kernel
theorem dX11_own_23 : decode cX11_own 23 = .ok (.iload_n 3, 1) := by decide +kernel
theorem dX11_own_24 : decode cX11_own 24 = .ok (.ifCond .lt 12, 3) := by decide +kernel
theorem dX11_own_27 : decode cX11_own 27 = .ok (.iload_n 3, 1) := by decide +kernel
theorem dX11_own_28 : decode cX11_own 28 = .ok (.aload 4, 2) := by decide +kernel
theorem dX11_own_30 : decode cX11_own 30 = .ok (.getfield 265, 3) := by decide +kernel
theorem dX11_own_33 : decode cX11_own 33 = .ok (.if_icmp .lt 5, 3) := by decide +kernel
theorem dX11_own_36 : decode cX11_own 36 = .ok (.iconst (-1), 1) := by decide +kernel
theorem dX11_own_37 : decode cX11_own 37 = .ok (.ireturn, 1) := by decide +kernel
theorem dX11_own_38 : decode cX11_own 38 = .ok (.aload_n 0, 1) := by decide +kernel
theorem dX11_own_39 : decode cX11_own 39 = .ok (.getfield 52, 3) := by decide +kernel
theorem dX11_own_42 : decode cX11_own 42 = .ok (.aload 4, 2) := by decide +kernel
theorem dX11_own_44 : decode cX11_own 44 = .ok (.iconst 2, 1) := by decide +kernel
theorem dX11_own_45 : decode cX11_own 45 = .ok (.invokevirtual 251, 3) := by decide +kernel
theorem dX11_own_48 : decode cX11_own 48 = .ok (.aload_n 0, 1) := by decide +kernel
theorem dX11_own_49 : decode cX11_own 49 = .ok (.getfield 66, 3) := by decide +kernel
theorem dX11_own_52 : decode cX11_own 52 = .ok (.iconst 0, 1) := by decide +kernel
theorem dX11_own_53 : decode cX11_own 53 = .ok (.invokevirtual 115, 3) := by decide +kernel
theorem dX11_own_56 : decode cX11_own 56 = .ok (.aload_n 0, 1) := by decide +kernel
theorem dX11_own_57 : decode cX11_own 57 = .ok (.getfield 52, 3) := by decide +kernel
theorem dX11_own_60 : decode cX11_own 60 = .ok (.aload 4, 2) := by decide +kernel
theorem dX11_own_62 : decode cX11_own 62 = .ok (.getfield 268, 3) := by decide +kernel
theorem dX11_own_65 : decode cX11_own 65 = .ok (.iload_n 3, 1) := by decide +kernel
theorem dX11_own_66 : decode cX11_own 66 = .ok (.iaload, 1) := by decide +kernel
theorem dX11_own_67 : decode cX11_own 67 = .ok (.aload_n 0, 1) := by decide +kernel
theorem dX11_own_68 : decode cX11_own 68 = .ok (.getfield 66, 3) := by decide +kernel
theorem dX11_own_71 : decode cX11_own 71 = .ok (.getfield 139, 3) := by decide +kernel
theorem dX11_own_74 : decode cX11_own 74 = .ok (.invokevirtual 278, 3) := by decide +kernel
theorem dX11_own_77 : decode cX11_own 77 = .ok (.ifCond .ne 6, 3) := by decide +kernel
theorem dX11_own_80 : decode cX11_own 80 = .ok (.bipush (-2), 2) := by decide +kernel
theorem dX11_own_82 : decode cX11_own 82 = .ok (.ireturn, 1) := by decide +kernel
theorem dX11_own_83 : decode cX11_own 83 = .ok (.aload 4, 2) := by decide +kernel
theorem dX11_own_85 : decode cX11_own 85 = .ok (.aload_n 0, 1) := by decide +kernel
theorem dX11_own_86 : decode cX11_own 86 = .ok (.getfield 66, 3) := by decide +kernel
theorem dX11_own_89 : decode cX11_own 89 = .ok (.invokevirtual 234, 3) := by decide +kernel
theorem dX11_own_92 : decode cX11_own 92 = .ok (.aload_n 0, 1) := by decide +kernel
theorem dX11_own_93 : decode cX11_own 93 = .ok (.getfield 25, 3) := by decide +kernel
theorem dX11_own_96 : decode cX11_own 96 = .ok (.iload_n 1, 1) := by decide +kernel
theorem dX11_own_97 : decode cX11_own 97 = .ok (.aaload, 1) := by decide +kernel
theorem dX11_own_98 : decode cX11_own 98 = .ok (.aload_n 0, 1) := by decide +kernel
theorem dX11_own_99 : decode cX11_own 99 = .ok (.getfield 66, 3) := by decide +kernel
theorem dX11_own_102 : decode cX11_own 102 = .ok (.invokevirtual 111, 3) := by decide +kernel
theorem dX11_own_105 : decode cX11_own 105 = .ok (.aload 4, 2) := by decide +kernel
theorem dX11_own_107 : decode cX11_own 107 = .ok (.getfield 268, 3) := by decide +kernel
theorem dX11_own_110 : decode cX11_own 110 = .ok (.iload_n 3, 1) := by decide +kernel
theorem dX11_own_111 : decode cX11_own 111 = .ok (.iaload, 1) := by decide +kernel
theorem dX11_own_112 : decode cX11_own 112 = .ok (.ireturn, 1) := by decide +kernel
theorem dX11_put_0 : decode cX11_put 0 = .ok (.iload_n 1, 1) := by decide +kernel
theorem dX11_put_1 : decode cX11_put 1 = .ok (.iload_n 2, 1) := by decide +kernel
theorem dX11_put_2 : decode cX11_put 2 = .ok (.invokestatic 282, 3) := by decide +kernel
theorem dX11_put_5 : decode cX11_put 5 = .ok (.ifCond .eq 29, 3) := by decide +kernel
theorem dX11_put_8 : decode cX11_put 8 = .ok (.iload_n 3, 1) := by decide +kernel
theorem dX11_put_9 : decode cX11_put 9 = .ok (.ifCond .eq 12, 3) := by decide +kernel
theorem dX11_put_12 : decode cX11_put 12 = .ok (.iload 4, 2) := by decide +kernel
theorem dX11_put_14 : decode cX11_put 14 = .ok (.iconst 1, 1) := by decide +kernel
theorem dX11_put_15 : decode cX11_put 15 = .ok (.invokestatic 177, 3) := by decide +kernel
theorem dX11_put_18 : decode cX11_put 18 = .ok (.ifCond .eq 16, 3) := by decide +kernel
theorem dX11_put_21 : decode cX11_put 21 = .ok (.aload_n 0, 1) := by decide +kernel
theorem dX11_put_22 : decode cX11_put 22 = .ok (.getfield 32, 3) := by decide +kernel
theorem dX11_put_25 : decode cX11_put 25 = .ok (.iload_n 1, 1) := by decide +kernel
theorem dX11_put_26 : decode cX11_put 26 = .ok (.aaload, 1) := by decide +kernel
theorem dX11_put_27 : decode cX11_put 27 = .ok (.getfield 75, 3) := by decide +kernel
theorem dX11_put_30 : decode cX11_put 30 = .ok (.iload_n 3, 1) := by decide +kernel
theorem dX11_put_31 : decode cX11_put 31 = .ok (.if_icmp .eq 5, 3) := by decide +kernel
theorem dX11_put_34 : decode cX11_put 34 = .ok (.iconst 0, 1) := by decide +kernel
theorem dX11_put_35 : decode cX11_put 35 = .ok (.ireturn, 1) := by decide +kernel
theorem dX11_put_36 : decode cX11_put 36 = .ok (.aload_n 0, 1) := by decide +kernel
theorem dX11_put_37 : decode cX11_put 37 = .ok (.getfield 32, 3) := by decide +kernel
theorem dX11_put_40 : decode cX11_put 40 = .ok (.iload_n 1, 1) := by decide +kernel
theorem dX11_put_41 : decode cX11_put 41 = .ok (.aaload, 1) := by decide +kernel
theorem dX11_put_42 : decode cX11_put 42 = .ok (.getfield 285, 3) := by decide +kernel
theorem dX11_put_45 : decode cX11_put 45 = .ok (.iload_n 2, 1) := by decide +kernel
theorem dX11_put_46 : decode cX11_put 46 = .ok (.aaload, 1) := by decide +kernel
theorem dX11_put_47 : decode cX11_put 47 = .ok (.astore 5, 2) := by decide +kernel
theorem dX11_put_49 : decode cX11_put 49 = .ok (.iload_n 3, 1) := by decide +kernel
theorem dX11_put_50 : decode cX11_put 50 = .ok (.ifCond .eq 30, 3) := by decide +kernel
theorem dX11_put_53 : decode cX11_put 53 = .ok (.aload_n 0, 1) := by decide +kernel
theorem dX11_put_54 : decode cX11_put 54 = .ok (.iload 4, 2) := by decide +kernel
theorem dX11_put_56 : decode cX11_put 56 = .ok (.invokevirtual 289, 3) := by decide +kernel
theorem dX11_put_59 : decode cX11_put 59 = .ok (.ifCond .ne 5, 3) := by decide +kernel
theorem dX11_put_62 : decode cX11_put 62 = .ok (.iconst 0, 1) := by decide +kernel
theorem dX11_put_63 : decode cX11_put 63 = .ok (.ireturn, 1) := by decide +kernel
theorem dX11_put_64 : decode cX11_put 64 = .ok (.aload_n 0, 1) := by decide +kernel
theorem dX11_put_65 : decode cX11_put 65 = .ok (.getfield 70, 3) := by decide +kernel
theorem dX11_put_68 : decode cX11_put 68 = .ok (.iconst 0, 1) := by decide +kernel
theorem dX11_put_69 : decode cX11_put 69 = .ok (.aload 5, 2) := by decide +kernel
theorem dX11_put_71 : decode cX11_put 71 = .ok (.iconst 0, 1) := by decide +kernel
theorem dX11_put_72 : decode cX11_put 72 = .ok (.bipush 12, 2) := by decide +kernel
theorem dX11_put_74 : decode cX11_put 74 = .ok (.invokestatic 292, 3) := by decide +kernel
theorem dX11_put_77 : decode cX11_put 77 = .ok (.goto 37, 3) := by decide +kernel
theorem dX11_put_80 : decode cX11_put 80 = .ok (.iconst 0, 1) := by decide +kernel
theorem dX11_put_81 : decode cX11_put 81 = .ok (.istore 6, 2) := by decide +kernel
theorem dX11_put_83 : decode cX11_put 83 = .ok (.iload 6, 2) := by decide +kernel
theorem dX11_put_85 : decode cX11_put 85 = .ok (.bipush 13, 2) := by decide +kernel
theorem dX11_put_87 : decode cX11_put 87 = .ok (.if_icmp .ge 27, 3) := by decide +kernel
theorem dX11_put_90 : decode cX11_put 90 = .ok (.aload 5, 2) := by decide +kernel
theorem dX11_put_92 : decode cX11_put 92 = .ok (.iload 6, 2) := by decide +kernel
theorem dX11_put_94 : decode cX11_put 94 = .ok (.aload_n 0, 1) := by decide +kernel
theorem dX11_put_95 : decode cX11_put 95 = .ok (.aload_n 0, 1) := by decide +kernel
theorem dX11_put_96 : decode cX11_put 96 = .ok (.getfield 25, 3) := by decide +kernel
theorem dX11_put_99 : decode cX11_put 99 = .ok (.iconst 0, 1) := by decide +kernel
theorem dX11_put_100 : decode cX11_put 100 = .ok (.aaload, 1) := by decide +kernel
theorem dX11_put_101 : decode cX11_put 101 = .ok (.iload 6, 2) := by decide +kernel
theorem dX11_put_103 : decode cX11_put 103 = .ok (.invokevirtual 146, 3) := by decide +kernel
theorem dX11_put_106 : decode cX11_put 106 = .ok (.i2l, 1) := by decide +kernel
theorem dX11_put_107 : decode cX11_put 107 = .ok (.lastore, 1) := by decide +kernel
theorem dX11_put_108 : decode cX11_put 108 = .ok (.iinc 6 1, 3) := by decide +kernel
theorem dX11_put_111 : decode cX11_put 111 = .ok (.goto (-28), 3) := by decide +kernel
theorem dX11_put_114 : decode cX11_put 114 = .ok (.aload_n 0, 1) := by decide +kernel
theorem dX11_put_115 : decode cX11_put 115 = .ok (.getfield 32, 3) := by decide +kernel
theorem dX11_put_118 : decode cX11_put 118 = .ok (.iload_n 1, 1) := by decide +kernel
theorem dX11_put_119 : decode cX11_put 119 = .ok (.aaload, 1) := by decide +kernel
theorem dX11_put_120 : decode cX11_put 120 = .ok (.getfield 298, 3) := by decide +kernel
theorem dX11_put_123 : decode cX11_put 123 = .ok (.iload_n 2, 1) := by decide +kernel
theorem dX11_put_124 : decode cX11_put 124 = .ok (.iconst 1, 1) := by decide +kernel
theorem dX11_put_125 : decode cX11_put 125 = .ok (.bastore, 1) := by decide +kernel
theorem dX11_put_126 : decode cX11_put 126 = .ok (.iconst 1, 1) := by decide +kernel
theorem dX11_put_127 : decode cX11_put 127 = .ok (.ireturn, 1) := by decide +kernel
theorem dX11_findFreshTraces_0 : decode cX11_findFreshTraces 0 = .ok (.iconst 1, 1) := by decide +kernel
theorem dX11_findFreshTraces_1 : decode cX11_findFreshTraces 1 = .ok (.istore_n 2, 1) := by decide +kernel
theorem dX11_findFreshTraces_2 : decode cX11_findFreshTraces 2 = .ok (.iload_n 2, 1) := by decide +kernel
theorem dX11_findFreshTraces_3 : decode cX11_findFreshTraces 3 = .ok (.bipush 12, 2) := by decide +kernel
theorem dX11_findFreshTraces_5 : decode cX11_findFreshTraces 5 = .ok (.if_icmp .gt 39, 3) := by decide +kernel
theorem dX11_findFreshTraces_8 : decode cX11_findFreshTraces 8 = .ok (.aload_n 0, 1) := by decide +kernel
theorem dX11_findFreshTraces_9 : decode cX11_findFreshTraces 9 = .ok (.getfield 70, 3) := by decide +kernel
theorem dX11_findFreshTraces_12 : decode cX11_findFreshTraces 12 = .ok (.iload_n 2, 1) := by decide +kernel
theorem dX11_findFreshTraces_13 : decode cX11_findFreshTraces 13 = .ok (.iconst 1, 1) := by decide +kernel
theorem dX11_findFreshTraces_14 : decode cX11_findFreshTraces 14 = .ok (.isub, 1) := by decide +kernel
theorem dX11_findFreshTraces_15 : decode cX11_findFreshTraces 15 = .ok (.iload_n 1, 1) := by decide +kernel
theorem dX11_findFreshTraces_16 : decode cX11_findFreshTraces 16 = .ok (.iload_n 2, 1) := by decide +kernel
theorem dX11_findFreshTraces_17 : decode cX11_findFreshTraces 17 = .ok (.invokestatic 185, 3) := by decide +kernel
theorem dX11_findFreshTraces_20 : decode cX11_findFreshTraces 20 = .ok (.lastore, 1) := by decide +kernel
theorem dX11_findFreshTraces_21 : decode cX11_findFreshTraces 21 = .ok (.aload_n 0, 1) := by decide +kernel
theorem dX11_findFreshTraces_22 : decode cX11_findFreshTraces 22 = .ok (.getfield 70, 3) := by decide +kernel
theorem dX11_findFreshTraces_25 : decode cX11_findFreshTraces 25 = .ok (.iload_n 2, 1) := by decide +kernel
theorem dX11_findFreshTraces_26 : decode cX11_findFreshTraces 26 = .ok (.iconst 1, 1) := by decide +kernel
theorem dX11_findFreshTraces_27 : decode cX11_findFreshTraces 27 = .ok (.isub, 1) := by decide +kernel
theorem dX11_findFreshTraces_28 : decode cX11_findFreshTraces 28 = .ok (.laload, 1) := by decide +kernel
theorem dX11_findFreshTraces_29 : decode cX11_findFreshTraces 29 = .ok (.ldc2_w 196, 3) := by decide +kernel
theorem dX11_findFreshTraces_32 : decode cX11_findFreshTraces 32 = .ok (.lcmp, 1) := by decide +kernel
theorem dX11_findFreshTraces_33 : decode cX11_findFreshTraces 33 = .ok (.ifCond .ne 5, 3) := by decide +kernel
theorem dX11_findFreshTraces_36 : decode cX11_findFreshTraces 36 = .ok (.iconst 0, 1) := by decide +kernel
theorem dX11_findFreshTraces_37 : decode cX11_findFreshTraces 37 = .ok (.ireturn, 1) := by decide +kernel
theorem dX11_findFreshTraces_38 : decode cX11_findFreshTraces 38 = .ok (.iinc 2 1, 3) := by decide +kernel
theorem dX11_findFreshTraces_41 : decode cX11_findFreshTraces 41 = .ok (.goto (-39), 3) := by decide +kernel
theorem dX11_findFreshTraces_44 : decode cX11_findFreshTraces 44 = .ok (.iconst 1, 1) := by decide +kernel
theorem dX11_findFreshTraces_45 : decode cX11_findFreshTraces 45 = .ok (.ireturn, 1) := by decide +kernel
theorem dX11_row_0 : decode cX11_row 0 = .ok (.iload_n 1, 1) := by decide +kernel
theorem dX11_row_1 : decode cX11_row 1 = .ok (.iload_n 2, 1) := by decide +kernel
theorem dX11_row_2 : decode cX11_row 2 = .ok (.invokestatic 282, 3) := by decide +kernel
theorem dX11_row_5 : decode cX11_row 5 = .ok (.ifCond .eq 34, 3) := by decide +kernel
theorem dX11_row_8 : decode cX11_row 8 = .ok (.aload_n 0, 1) := by decide +kernel
theorem dX11_row_9 : decode cX11_row 9 = .ok (.getfield 32, 3) := by decide +kernel
theorem dX11_row_12 : decode cX11_row 12 = .ok (.iload_n 1, 1) := by decide +kernel
theorem dX11_row_13 : decode cX11_row 13 = .ok (.aaload, 1) := by decide +kernel
theorem dX11_row_14 : decode cX11_row 14 = .ok (.getfield 298, 3) := by decide +kernel
theorem dX11_row_17 : decode cX11_row 17 = .ok (.iload_n 2, 1) := by decide +kernel
theorem dX11_row_18 : decode cX11_row 18 = .ok (.baload, 1) := by decide +kernel
theorem dX11_row_19 : decode cX11_row 19 = .ok (.ifCond .eq 20, 3) := by decide +kernel
theorem dX11_row_22 : decode cX11_row 22 = .ok (.iload_n 3, 1) := by decide +kernel
theorem dX11_row_23 : decode cX11_row 23 = .ok (.ifCond .lt 16, 3) := by decide +kernel
theorem dX11_row_26 : decode cX11_row 26 = .ok (.iload_n 3, 1) := by decide +kernel
theorem dX11_row_27 : decode cX11_row 27 = .ok (.aload_n 0, 1) := by decide +kernel
theorem dX11_row_28 : decode cX11_row 28 = .ok (.getfield 32, 3) := by decide +kernel
theorem dX11_row_31 : decode cX11_row 31 = .ok (.iload_n 1, 1) := by decide +kernel
theorem dX11_row_32 : decode cX11_row 32 = .ok (.aaload, 1) := by decide +kernel
theorem dX11_row_33 : decode cX11_row 33 = .ok (.invokevirtual 302, 3) := by decide +kernel
theorem dX11_row_36 : decode cX11_row 36 = .ok (.if_icmp .lt 11, 3) := by decide +kernel
theorem dX11_row_39 : decode cX11_row 39 = .ok (.new 168, 3) := by decide +kernel
theorem dX11_row_42 : decode cX11_row 42 = .ok (.dup, 1) := by decide +kernel
theorem dX11_row_43 : decode cX11_row 43 = .ok (.invokespecial 170, 3) := by decide +kernel
theorem dX11_row_46 : decode cX11_row 46 = .ok (.athrow, 1) := by decide +kernel
theorem dX11_row_47 : decode cX11_row 47 = .ok (.aload_n 0, 1) := by decide +kernel
theorem dX11_row_48 : decode cX11_row 48 = .ok (.getfield 32, 3) := by decide +kernel
theorem dX11_row_51 : decode cX11_row 51 = .ok (.iload_n 1, 1) := by decide +kernel
theorem dX11_row_52 : decode cX11_row 52 = .ok (.aaload, 1) := by decide +kernel
theorem dX11_row_53 : decode cX11_row 53 = .ok (.getfield 285, 3) := by decide +kernel
theorem dX11_row_56 : decode cX11_row 56 = .ok (.iload_n 2, 1) := by decide +kernel
theorem dX11_row_57 : decode cX11_row 57 = .ok (.aaload, 1) := by decide +kernel
theorem dX11_row_58 : decode cX11_row 58 = .ok (.iload_n 3, 1) := by decide +kernel
theorem dX11_row_59 : decode cX11_row 59 = .ok (.laload, 1) := by decide +kernel
theorem dX11_row_60 : decode cX11_row 60 = .ok (.lreturn, 1) := by decide +kernel
theorem dX11_swap_0 : decode cX11_swap 0 = .ok (.iconst 0, 1) := by decide +kernel
theorem dX11_swap_1 : decode cX11_swap 1 = .ok (.istore_n 1, 1) := by decide +kernel
theorem dX11_swap_2 : decode cX11_swap 2 = .ok (.iload_n 1, 1) := by decide +kernel
theorem dX11_swap_3 : decode cX11_swap 3 = .ok (.iconst 2, 1) := by decide +kernel
theorem dX11_swap_4 : decode cX11_swap 4 = .ok (.if_icmp .ge 44, 3) := by decide +kernel
theorem dX11_swap_7 : decode cX11_swap 7 = .ok (.aload_n 0, 1) := by decide +kernel
theorem dX11_swap_8 : decode cX11_swap 8 = .ok (.getfield 32, 3) := by decide +kernel
theorem dX11_swap_11 : decode cX11_swap 11 = .ok (.iload_n 1, 1) := by decide +kernel
theorem dX11_swap_12 : decode cX11_swap 12 = .ok (.aaload, 1) := by decide +kernel
theorem dX11_swap_13 : decode cX11_swap 13 = .ok (.aload_n 0, 1) := by decide +kernel
theorem dX11_swap_14 : decode cX11_swap 14 = .ok (.getfield 32, 3) := by decide +kernel
theorem dX11_swap_17 : decode cX11_swap 17 = .ok (.iload_n 1, 1) := by decide +kernel
theorem dX11_swap_18 : decode cX11_swap 18 = .ok (.aaload, 1) := by decide +kernel
theorem dX11_swap_19 : decode cX11_swap 19 = .ok (.getfield 75, 3) := by decide +kernel
theorem dX11_swap_22 : decode cX11_swap 22 = .ok (.ifCond .ne 7, 3) := by decide +kernel
theorem dX11_swap_25 : decode cX11_swap 25 = .ok (.iconst 1, 1) := by decide +kernel
theorem dX11_swap_26 : decode cX11_swap 26 = .ok (.goto 4, 3) := by decide +kernel
theorem dX11_swap_29 : decode cX11_swap 29 = .ok (.iconst 0, 1) := by decide +kernel
theorem dX11_swap_30 : decode cX11_swap 30 = .ok (.putfield 75, 3) := by decide +kernel
theorem dX11_swap_33 : decode cX11_swap 33 = .ok (.aload_n 0, 1) := by decide +kernel
theorem dX11_swap_34 : decode cX11_swap 34 = .ok (.getfield 32, 3) := by decide +kernel
theorem dX11_swap_37 : decode cX11_swap 37 = .ok (.iload_n 1, 1) := by decide +kernel
theorem dX11_swap_38 : decode cX11_swap 38 = .ok (.aaload, 1) := by decide +kernel
theorem dX11_swap_39 : decode cX11_swap 39 = .ok (.invokevirtual 118, 3) := by decide +kernel
theorem dX11_swap_42 : decode cX11_swap 42 = .ok (.iinc 1 1, 3) := by decide +kernel
theorem dX11_swap_45 : decode cX11_swap 45 = .ok (.goto (-43), 3) := by decide +kernel
theorem dX11_swap_48 : decode cX11_swap 48 = .ok (.aload_n 0, 1) := by decide +kernel
theorem dX11_swap_49 : decode cX11_swap 49 = .ok (.getfield 32, 3) := by decide +kernel
theorem dX11_swap_52 : decode cX11_swap 52 = .ok (.iconst 0, 1) := by decide +kernel
theorem dX11_swap_53 : decode cX11_swap 53 = .ok (.aaload, 1) := by decide +kernel
theorem dX11_swap_54 : decode cX11_swap 54 = .ok (.getfield 75, 3) := by decide +kernel
theorem dX11_swap_57 : decode cX11_swap 57 = .ok (.ifCond .eq 7, 3) := by decide +kernel
theorem dX11_swap_60 : decode cX11_swap 60 = .ok (.iconst 1, 1) := by decide +kernel
theorem dX11_swap_61 : decode cX11_swap 61 = .ok (.goto 4, 3) := by decide +kernel
theorem dX11_swap_64 : decode cX11_swap 64 = .ok (.iconst 0, 1) := by decide +kernel
theorem dX11_swap_65 : decode cX11_swap 65 = .ok (.ireturn, 1) := by decide +kernel
theorem dX11_image_0 : decode cX11_image 0 = .ok (.iload_n 1, 1) := by decide +kernel
theorem dX11_image_1 : decode cX11_image 1 = .ok (.ifCond .lt 8, 3) := by decide +kernel
theorem dX11_image_4 : decode cX11_image 4 = .ok (.iload_n 1, 1) := by decide +kernel
theorem dX11_image_5 : decode cX11_image 5 = .ok (.iconst 2, 1) := by decide +kernel
theorem dX11_image_6 : decode cX11_image 6 = .ok (.if_icmp .lt 5, 3) := by decide +kernel
theorem dX11_image_9 : decode cX11_image 9 = .ok (.iconst 0, 1) := by decide +kernel
theorem dX11_image_10 : decode cX11_image 10 = .ok (.ireturn, 1) := by decide +kernel
theorem dX11_image_11 : decode cX11_image 11 = .ok (.iload_n 2, 1) := by decide +kernel
theorem dX11_image_12 : decode cX11_image 12 = .ok (.ifCond .ne 22, 3) := by decide +kernel
theorem dX11_image_15 : decode cX11_image 15 = .ok (.aload_n 0, 1) := by decide +kernel
theorem dX11_image_16 : decode cX11_image 16 = .ok (.getfield 38, 3) := by decide +kernel
theorem dX11_image_19 : decode cX11_image 19 = .ok (.iload_n 1, 1) := by decide +kernel
theorem dX11_image_20 : decode cX11_image 20 = .ok (.aaload, 1) := by decide +kernel
theorem dX11_image_21 : decode cX11_image 21 = .ok (.aload_n 0, 1) := by decide +kernel
theorem dX11_image_22 : decode cX11_image 22 = .ok (.getfield 25, 3) := by decide +kernel
theorem dX11_image_25 : decode cX11_image 25 = .ok (.aload_n 0, 1) := by decide +kernel
theorem dX11_image_26 : decode cX11_image 26 = .ok (.getfield 32, 3) := by decide +kernel
theorem dX11_image_29 : decode cX11_image 29 = .ok (.invokevirtual 305, 3) := by decide +kernel
theorem dX11_image_32 : decode cX11_image 32 = .ok (.iconst 1, 1) := by decide +kernel
theorem dX11_image_33 : decode cX11_image 33 = .ok (.ireturn, 1) := by decide +kernel
theorem dX11_image_34 : decode cX11_image 34 = .ok (.aload_n 0, 1) := by decide +kernel
theorem dX11_image_35 : decode cX11_image 35 = .ok (.getfield 38, 3) := by decide +kernel
theorem dX11_image_38 : decode cX11_image 38 = .ok (.iload_n 1, 1) := by decide +kernel
theorem dX11_image_39 : decode cX11_image 39 = .ok (.aaload, 1) := by decide +kernel
theorem dX11_image_40 : decode cX11_image 40 = .ok (.aload_n 0, 1) := by decide +kernel
theorem dX11_image_41 : decode cX11_image 41 = .ok (.getfield 25, 3) := by decide +kernel
theorem dX11_image_44 : decode cX11_image 44 = .ok (.aload_n 0, 1) := by decide +kernel
theorem dX11_image_45 : decode cX11_image 45 = .ok (.getfield 32, 3) := by decide +kernel
theorem dX11_image_48 : decode cX11_image 48 = .ok (.invokevirtual 309, 3) := by decide +kernel
theorem dX11_image_51 : decode cX11_image 51 = .ok (.ireturn, 1) := by decide +kernel
theorem dX11_isRegister_0 : decode cX11_isRegister 0 = .ok (.iload_n 0, 1) := by decide +kernel
theorem dX11_isRegister_1 : decode cX11_isRegister 1 = .ok (.ifCond .lt 12, 3) := by decide +kernel
theorem dX11_isRegister_4 : decode cX11_isRegister 4 = .ok (.iload_n 0, 1) := by decide +kernel
theorem dX11_isRegister_5 : decode cX11_isRegister 5 = .ok (.iconst 4, 1) := by decide +kernel
theorem dX11_isRegister_6 : decode cX11_isRegister 6 = .ok (.if_icmp .ge 7, 3) := by decide +kernel
theorem dX11_isRegister_9 : decode cX11_isRegister 9 = .ok (.iconst 1, 1) := by decide +kernel
theorem dX11_isRegister_10 : decode cX11_isRegister 10 = .ok (.goto 4, 3) := by decide +kernel
theorem dX11_isRegister_13 : decode cX11_isRegister 13 = .ok (.iconst 0, 1) := by decide +kernel
theorem dX11_isRegister_14 : decode cX11_isRegister 14 = .ok (.ireturn, 1) := by decide +kernel
theorem dX11_isLet_0 : decode cX11_isLet 0 = .ok (.iload_n 1, 1) := by decide +kernel
theorem dX11_isLet_1 : decode cX11_isLet 1 = .ok (.ifCond .lt 15, 3) := by decide +kernel
theorem dX11_isLet_4 : decode cX11_isLet 4 = .ok (.iload_n 1, 1) := by decide +kernel
theorem dX11_isLet_5 : decode cX11_isLet 5 = .ok (.aload_n 0, 1) := by decide +kernel
theorem dX11_isLet_6 : decode cX11_isLet 6 = .ok (.getfield 109, 3) := by decide +kernel
theorem dX11_isLet_9 : decode cX11_isLet 9 = .ok (.if_icmp .ge 7, 3) := by decide +kernel
theorem dX11_isLet_12 : decode cX11_isLet 12 = .ok (.iconst 1, 1) := by decide +kernel
theorem dX11_isLet_13 : decode cX11_isLet 13 = .ok (.goto 4, 3) := by decide +kernel
theorem dX11_isLet_16 : decode cX11_isLet 16 = .ok (.iconst 0, 1) := by decide +kernel
theorem dX11_isLet_17 : decode cX11_isLet 17 = .ok (.ireturn, 1) := by decide +kernel
theorem dX11_isWeight_0 : decode cX11_isWeight 0 = .ok (.iload_n 0, 1) := by decide +kernel
theorem dX11_isWeight_1 : decode cX11_isWeight 1 = .ok (.ifCond .lt 19, 3) := by decide +kernel
theorem dX11_isWeight_4 : decode cX11_isWeight 4 = .ok (.iload_n 0, 1) := by decide +kernel
theorem dX11_isWeight_5 : decode cX11_isWeight 5 = .ok (.bipush 60, 2) := by decide +kernel
theorem dX11_isWeight_7 : decode cX11_isWeight 7 = .ok (.if_icmp .gt 13, 3) := by decide +kernel
theorem dX11_isWeight_10 : decode cX11_isWeight 10 = .ok (.iload_n 0, 1) := by decide +kernel
theorem dX11_isWeight_11 : decode cX11_isWeight 11 = .ok (.iconst 2, 1) := by decide +kernel
theorem dX11_isWeight_12 : decode cX11_isWeight 12 = .ok (.irem, 1) := by decide +kernel
theorem dX11_isWeight_13 : decode cX11_isWeight 13 = .ok (.ifCond .ne 7, 3) := by decide +kernel
theorem dX11_isWeight_16 : decode cX11_isWeight 16 = .ok (.iconst 1, 1) := by decide +kernel
theorem dX11_isWeight_17 : decode cX11_isWeight 17 = .ok (.goto 4, 3) := by decide +kernel
theorem dX11_isWeight_20 : decode cX11_isWeight 20 = .ok (.iconst 0, 1) := by decide +kernel
theorem dX11_isWeight_21 : decode cX11_isWeight 21 = .ok (.ireturn, 1) := by decide +kernel
theorem dX11_isHecke_0 : decode cX11_isHecke 0 = .ok (.iload_n 0, 1) := by decide +kernel
theorem dX11_isHecke_1 : decode cX11_isHecke 1 = .ok (.iconst 1, 1) := by decide +kernel
theorem dX11_isHecke_2 : decode cX11_isHecke 2 = .ok (.if_icmp .lt 13, 3) := by decide +kernel
theorem dX11_isHecke_5 : decode cX11_isHecke 5 = .ok (.iload_n 0, 1) := by decide +kernel
theorem dX11_isHecke_6 : decode cX11_isHecke 6 = .ok (.bipush 30, 2) := by decide +kernel
theorem dX11_isHecke_8 : decode cX11_isHecke 8 = .ok (.if_icmp .gt 7, 3) := by decide +kernel
theorem dX11_isHecke_11 : decode cX11_isHecke 11 = .ok (.iconst 1, 1) := by decide +kernel
theorem dX11_isHecke_12 : decode cX11_isHecke 12 = .ok (.goto 4, 3) := by decide +kernel
theorem dX11_isHecke_15 : decode cX11_isHecke 15 = .ok (.iconst 0, 1) := by decide +kernel
theorem dX11_isHecke_16 : decode cX11_isHecke 16 = .ok (.ireturn, 1) := by decide +kernel
theorem dX11_isRow_0 : decode cX11_isRow 0 = .ok (.iload_n 0, 1) := by decide +kernel
theorem dX11_isRow_1 : decode cX11_isRow 1 = .ok (.ifCond .lt 21, 3) := by decide +kernel
theorem dX11_isRow_4 : decode cX11_isRow 4 = .ok (.iload_n 0, 1) := by decide +kernel
theorem dX11_isRow_5 : decode cX11_isRow 5 = .ok (.iconst 2, 1) := by decide +kernel
theorem dX11_isRow_6 : decode cX11_isRow 6 = .ok (.if_icmp .ge 16, 3) := by decide +kernel
theorem dX11_isRow_9 : decode cX11_isRow 9 = .ok (.iload_n 1, 1) := by decide +kernel
theorem dX11_isRow_10 : decode cX11_isRow 10 = .ok (.ifCond .lt 12, 3) := by decide +kernel
theorem dX11_isRow_13 : decode cX11_isRow 13 = .ok (.iload_n 1, 1) := by decide +kernel
theorem dX11_isRow_14 : decode cX11_isRow 14 = .ok (.iconst 4, 1) := by decide +kernel
theorem dX11_isRow_15 : decode cX11_isRow 15 = .ok (.if_icmp .ge 7, 3) := by decide +kernel
theorem dX11_isRow_18 : decode cX11_isRow 18 = .ok (.iconst 1, 1) := by decide +kernel
theorem dX11_isRow_19 : decode cX11_isRow 19 = .ok (.goto 4, 3) := by decide +kernel
theorem dX11_isRow_22 : decode cX11_isRow 22 = .ok (.iconst 0, 1) := by decide +kernel
theorem dX11_isRow_23 : decode cX11_isRow 23 = .ok (.ireturn, 1) := by decide +kernel
theorem dX11_lengthOf_0 : decode cX11_lengthOf 0 = .ok (.iload_n 0, 1) := by decide +kernel
theorem dX11_lengthOf_1 : decode cX11_lengthOf 1 = .ok (.bipush 12, 2) := by decide +kernel
theorem dX11_lengthOf_3 : decode cX11_lengthOf 3 = .ok (.irem, 1) := by decide +kernel
theorem dX11_lengthOf_4 : decode cX11_lengthOf 4 = .ok (.iconst 2, 1) := by decide +kernel
theorem dX11_lengthOf_5 : decode cX11_lengthOf 5 = .ok (.if_icmp .ne 10, 3) := by decide +kernel
theorem dX11_lengthOf_8 : decode cX11_lengthOf 8 = .ok (.iload_n 0, 1) := by decide +kernel
theorem dX11_lengthOf_9 : decode cX11_lengthOf 9 = .ok (.bipush 12, 2) := by decide +kernel
theorem dX11_lengthOf_11 : decode cX11_lengthOf 11 = .ok (.idiv, 1) := by decide +kernel
theorem dX11_lengthOf_12 : decode cX11_lengthOf 12 = .ok (.goto 9, 3) := by decide +kernel
theorem dX11_lengthOf_15 : decode cX11_lengthOf 15 = .ok (.iload_n 0, 1) := by decide +kernel
theorem dX11_lengthOf_16 : decode cX11_lengthOf 16 = .ok (.bipush 12, 2) := by decide +kernel
theorem dX11_lengthOf_18 : decode cX11_lengthOf 18 = .ok (.idiv, 1) := by decide +kernel
theorem dX11_lengthOf_19 : decode cX11_lengthOf 19 = .ok (.iconst 1, 1) := by decide +kernel
theorem dX11_lengthOf_20 : decode cX11_lengthOf 20 = .ok (.iadd, 1) := by decide +kernel
theorem dX11_lengthOf_21 : decode cX11_lengthOf 21 = .ok (.ireturn, 1) := by decide +kernel
theorem dX11_cuspsOf_0 : decode cX11_cuspsOf 0 = .ok (.iload_n 0, 1) := by decide +kernel
theorem dX11_cuspsOf_1 : decode cX11_cuspsOf 1 = .ok (.invokestatic 135, 3) := by decide +kernel
theorem dX11_cuspsOf_4 : decode cX11_cuspsOf 4 = .ok (.iconst 1, 1) := by decide +kernel
theorem dX11_cuspsOf_5 : decode cX11_cuspsOf 5 = .ok (.isub, 1) := by decide +kernel
theorem dX11_cuspsOf_6 : decode cX11_cuspsOf 6 = .ok (.iconst 0, 1) := by decide +kernel
theorem dX11_cuspsOf_7 : decode cX11_cuspsOf 7 = .ok (.invokestatic 313, 3) := by decide +kernel
theorem dX11_cuspsOf_10 : decode cX11_cuspsOf 10 = .ok (.ireturn, 1) := by decide +kernel
theorem dX11_newForms_0 : decode cX11_newForms 0 = .ok (.iload_n 0, 1) := by decide +kernel
theorem dX11_newForms_1 : decode cX11_newForms 1 = .ok (.anewarray 63, 3) := by decide +kernel
theorem dX11_newForms_4 : decode cX11_newForms 4 = .ok (.astore_n 1, 1) := by decide +kernel
theorem dX11_newForms_5 : decode cX11_newForms 5 = .ok (.iconst 0, 1) := by decide +kernel
theorem dX11_newForms_6 : decode cX11_newForms 6 = .ok (.istore_n 2, 1) := by decide +kernel
theorem dX11_newForms_7 : decode cX11_newForms 7 = .ok (.iload_n 2, 1) := by decide +kernel
theorem dX11_newForms_8 : decode cX11_newForms 8 = .ok (.iload_n 0, 1) := by decide +kernel
theorem dX11_newForms_9 : decode cX11_newForms 9 = .ok (.if_icmp .ge 19, 3) := by decide +kernel
theorem dX11_newForms_12 : decode cX11_newForms 12 = .ok (.aload_n 1, 1) := by decide +kernel
theorem dX11_newForms_13 : decode cX11_newForms 13 = .ok (.iload_n 2, 1) := by decide +kernel
theorem dX11_newForms_14 : decode cX11_newForms 14 = .ok (.new 63, 3) := by decide +kernel
theorem dX11_newForms_17 : decode cX11_newForms 17 = .ok (.dup, 1) := by decide +kernel
theorem dX11_newForms_18 : decode cX11_newForms 18 = .ok (.invokespecial 65, 3) := by decide +kernel
theorem dX11_newForms_21 : decode cX11_newForms 21 = .ok (.aastore, 1) := by decide +kernel
theorem dX11_newForms_22 : decode cX11_newForms 22 = .ok (.iinc 2 1, 3) := by decide +kernel
theorem dX11_newForms_25 : decode cX11_newForms 25 = .ok (.goto (-18), 3) := by decide +kernel
theorem dX11_newForms_28 : decode cX11_newForms 28 = .ok (.aload_n 1, 1) := by decide +kernel
theorem dX11_newForms_29 : decode cX11_newForms 29 = .ok (.areturn, 1) := by decide +kernel
theorem dX11_newShelves_0 : decode cX11_newShelves 0 = .ok (.iconst 2, 1) := by decide +kernel
theorem dX11_newShelves_1 : decode cX11_newShelves 1 = .ok (.anewarray 76, 3) := by decide +kernel
theorem dX11_newShelves_4 : decode cX11_newShelves 4 = .ok (.astore_n 0, 1) := by decide +kernel
theorem dX11_newShelves_5 : decode cX11_newShelves 5 = .ok (.iconst 0, 1) := by decide +kernel
theorem dX11_newShelves_6 : decode cX11_newShelves 6 = .ok (.istore_n 1, 1) := by decide +kernel
theorem dX11_newShelves_7 : decode cX11_newShelves 7 = .ok (.iload_n 1, 1) := by decide +kernel
theorem dX11_newShelves_8 : decode cX11_newShelves 8 = .ok (.iconst 2, 1) := by decide +kernel
theorem dX11_newShelves_9 : decode cX11_newShelves 9 = .ok (.if_icmp .ge 19, 3) := by decide +kernel
theorem dX11_newShelves_12 : decode cX11_newShelves 12 = .ok (.aload_n 0, 1) := by decide +kernel
theorem dX11_newShelves_13 : decode cX11_newShelves 13 = .ok (.iload_n 1, 1) := by decide +kernel
theorem dX11_newShelves_14 : decode cX11_newShelves 14 = .ok (.new 76, 3) := by decide +kernel
theorem dX11_newShelves_17 : decode cX11_newShelves 17 = .ok (.dup, 1) := by decide +kernel
theorem dX11_newShelves_18 : decode cX11_newShelves 18 = .ok (.invokespecial 319, 3) := by decide +kernel
theorem dX11_newShelves_21 : decode cX11_newShelves 21 = .ok (.aastore, 1) := by decide +kernel
theorem dX11_newShelves_22 : decode cX11_newShelves 22 = .ok (.iinc 1 1, 3) := by decide +kernel
theorem dX11_newShelves_25 : decode cX11_newShelves 25 = .ok (.goto (-18), 3) := by decide +kernel
theorem dX11_newShelves_28 : decode cX11_newShelves 28 = .ok (.aload_n 0, 1) := by decide +kernel
theorem dX11_newShelves_29 : decode cX11_newShelves 29 = .ok (.areturn, 1) := by decide +kernel
