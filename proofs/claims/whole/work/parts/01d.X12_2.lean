theorem dX12_share_105 : decode cX12_share 105 = .ok (.fload 6, 2) := by decide +kernel
theorem dX12_share_107 : decode cX12_share 107 = .ok (.fload 5, 2) := by decide +kernel
theorem dX12_share_109 : decode cX12_share 109 = .ok (.fmul, 1) := by decide +kernel
theorem dX12_share_110 : decode cX12_share 110 = .ok (.fstore 6, 2) := by decide +kernel
theorem dX12_share_112 : decode cX12_share 112 = .ok (.lload_n 3, 1) := by decide +kernel
theorem dX12_share_113 : decode cX12_share 113 = .ok (.l2f, 1) := by decide +kernel
theorem dX12_share_114 : decode cX12_share 114 = .ok (.fconst 2, 1) := by decide +kernel
theorem dX12_share_115 : decode cX12_share 115 = .ok (.fload 6, 2) := by decide +kernel
theorem dX12_share_117 : decode cX12_share 117 = .ok (.fmul, 1) := by decide +kernel
theorem dX12_share_118 : decode cX12_share 118 = .ok (.iload_n 1, 1) := by decide +kernel
theorem dX12_share_119 : decode cX12_share 119 = .ok (.invokestatic 275, 3) := by decide +kernel
theorem dX12_share_122 : decode cX12_share 122 = .ok (.i2f, 1) := by decide +kernel
theorem dX12_share_123 : decode cX12_share 123 = .ok (.fmul, 1) := by decide +kernel
theorem dX12_share_124 : decode cX12_share 124 = .ok (.fdiv, 1) := by decide +kernel
theorem dX12_share_125 : decode cX12_share 125 = .ok (.invokestatic 326, 3) := by decide +kernel
theorem dX12_share_128 : decode cX12_share 128 = .ok (.ireturn, 1) := by decide +kernel
theorem dX12_take_0 : decode cX12_take 0 = .ok (.aload_n 0, 1) := by decide +kernel
theorem dX12_take_1 : decode cX12_take 1 = .ok (.iconst 0, 1) := by decide +kernel
theorem dX12_take_2 : decode cX12_take 2 = .ok (.putfield 1, 3) := by decide +kernel
theorem dX12_take_5 : decode cX12_take 5 = .ok (.aload_n 0, 1) := by decide +kernel
theorem dX12_take_6 : decode cX12_take 6 = .ok (.iload_n 1, 1) := by decide +kernel
theorem dX12_take_7 : decode cX12_take 7 = .ok (.invokevirtual 269, 3) := by decide +kernel
theorem dX12_take_10 : decode cX12_take 10 = .ok (.ifCond .eq 17, 3) := by decide +kernel
theorem dX12_take_13 : decode cX12_take 13 = .ok (.iload_n 2, 1) := by decide +kernel
theorem dX12_take_14 : decode cX12_take 14 = .ok (.iconst 0, 1) := by decide +kernel
theorem dX12_take_15 : decode cX12_take 15 = .ok (.aload_n 0, 1) := by decide +kernel
theorem dX12_take_16 : decode cX12_take 16 = .ok (.getfield 206, 3) := by decide +kernel
theorem dX12_take_19 : decode cX12_take 19 = .ok (.iconst 1, 1) := by decide +kernel
theorem dX12_take_20 : decode cX12_take 20 = .ok (.isub, 1) := by decide +kernel
theorem dX12_take_21 : decode cX12_take 21 = .ok (.invokestatic 45, 3) := by decide +kernel
theorem dX12_take_24 : decode cX12_take 24 = .ok (.ifCond .ne 5, 3) := by decide +kernel
theorem dX12_take_27 : decode cX12_take 27 = .ok (.iconst (-1), 1) := by decide +kernel
theorem dX12_take_28 : decode cX12_take 28 = .ok (.ireturn, 1) := by decide +kernel
theorem dX12_take_29 : decode cX12_take 29 = .ok (.aload_n 0, 1) := by decide +kernel
theorem dX12_take_30 : decode cX12_take 30 = .ok (.getfield 215, 3) := by decide +kernel
theorem dX12_take_33 : decode cX12_take 33 = .ok (.iload_n 1, 1) := by decide +kernel
theorem dX12_take_34 : decode cX12_take 34 = .ok (.aload_n 0, 1) := by decide +kernel
theorem dX12_take_35 : decode cX12_take 35 = .ok (.getfield 209, 3) := by decide +kernel
theorem dX12_take_38 : decode cX12_take 38 = .ok (.iload_n 2, 1) := by decide +kernel
theorem dX12_take_39 : decode cX12_take 39 = .ok (.iaload, 1) := by decide +kernel
theorem dX12_take_40 : decode cX12_take 40 = .ok (.iastore, 1) := by decide +kernel
theorem dX12_take_41 : decode cX12_take 41 = .ok (.aload_n 0, 1) := by decide +kernel
theorem dX12_take_42 : decode cX12_take 42 = .ok (.getfield 212, 3) := by decide +kernel
theorem dX12_take_45 : decode cX12_take 45 = .ok (.sipush 181, 3) := by decide +kernel
theorem dX12_take_48 : decode cX12_take 48 = .ok (.iload_n 2, 1) := by decide +kernel
theorem dX12_take_49 : decode cX12_take 49 = .ok (.imul, 1) := by decide +kernel
theorem dX12_take_50 : decode cX12_take 50 = .ok (.aload_n 0, 1) := by decide +kernel
theorem dX12_take_51 : decode cX12_take 51 = .ok (.getfield 218, 3) := by decide +kernel
theorem dX12_take_54 : decode cX12_take 54 = .ok (.sipush 181, 3) := by decide +kernel
theorem dX12_take_57 : decode cX12_take 57 = .ok (.iload_n 1, 1) := by decide +kernel
theorem dX12_take_58 : decode cX12_take 58 = .ok (.imul, 1) := by decide +kernel
theorem dX12_take_59 : decode cX12_take 59 = .ok (.invokestatic 58, 3) := by decide +kernel
theorem dX12_take_62 : decode cX12_take 62 = .ok (.aload_n 0, 1) := by decide +kernel
theorem dX12_take_63 : decode cX12_take 63 = .ok (.getfield 215, 3) := by decide +kernel
theorem dX12_take_66 : decode cX12_take 66 = .ok (.iload_n 1, 1) := by decide +kernel
theorem dX12_take_67 : decode cX12_take 67 = .ok (.iaload, 1) := by decide +kernel
theorem dX12_take_68 : decode cX12_take 68 = .ok (.ireturn, 1) := by decide +kernel
theorem dX12_plus__0 : decode cX12_plus_ 0 = .ok (.aload_n 0, 1) := by decide +kernel
theorem dX12_plus__1 : decode cX12_plus_ 1 = .ok (.iconst 0, 1) := by decide +kernel
theorem dX12_plus__2 : decode cX12_plus_ 2 = .ok (.putfield 1, 3) := by decide +kernel
theorem dX12_plus__5 : decode cX12_plus_ 5 = .ok (.aload_n 0, 1) := by decide +kernel
theorem dX12_plus__6 : decode cX12_plus_ 6 = .ok (.iload_n 1, 1) := by decide +kernel
theorem dX12_plus__7 : decode cX12_plus_ 7 = .ok (.invokevirtual 269, 3) := by decide +kernel
theorem dX12_plus__10 : decode cX12_plus_ 10 = .ok (.ifCond .eq 26, 3) := by decide +kernel
theorem dX12_plus__13 : decode cX12_plus_ 13 = .ok (.aload_n 0, 1) := by decide +kernel
theorem dX12_plus__14 : decode cX12_plus_ 14 = .ok (.iload_n 2, 1) := by decide +kernel
theorem dX12_plus__15 : decode cX12_plus_ 15 = .ok (.invokevirtual 269, 3) := by decide +kernel
theorem dX12_plus__18 : decode cX12_plus_ 18 = .ok (.ifCond .eq 18, 3) := by decide +kernel
theorem dX12_plus__21 : decode cX12_plus_ 21 = .ok (.aload_n 0, 1) := by decide +kernel
theorem dX12_plus__22 : decode cX12_plus_ 22 = .ok (.getfield 215, 3) := by decide +kernel
theorem dX12_plus__25 : decode cX12_plus_ 25 = .ok (.iload_n 1, 1) := by decide +kernel
theorem dX12_plus__26 : decode cX12_plus_ 26 = .ok (.iaload, 1) := by decide +kernel
theorem dX12_plus__27 : decode cX12_plus_ 27 = .ok (.aload_n 0, 1) := by decide +kernel
theorem dX12_plus__28 : decode cX12_plus_ 28 = .ok (.getfield 215, 3) := by decide +kernel
theorem dX12_plus__31 : decode cX12_plus_ 31 = .ok (.iload_n 2, 1) := by decide +kernel
theorem dX12_plus__32 : decode cX12_plus_ 32 = .ok (.iaload, 1) := by decide +kernel
theorem dX12_plus__33 : decode cX12_plus_ 33 = .ok (.if_icmp .eq 5, 3) := by decide +kernel
theorem dX12_plus__36 : decode cX12_plus_ 36 = .ok (.iconst 0, 1) := by decide +kernel
theorem dX12_plus__37 : decode cX12_plus_ 37 = .ok (.ireturn, 1) := by decide +kernel
theorem dX12_plus__38 : decode cX12_plus_ 38 = .ok (.aload_n 0, 1) := by decide +kernel
theorem dX12_plus__39 : decode cX12_plus_ 39 = .ok (.iload_n 3, 1) := by decide +kernel
theorem dX12_plus__40 : decode cX12_plus_ 40 = .ok (.i2l, 1) := by decide +kernel
theorem dX12_plus__41 : decode cX12_plus_ 41 = .ok (.invokevirtual 10, 3) := by decide +kernel
theorem dX12_plus__44 : decode cX12_plus_ 44 = .ok (.i2l, 1) := by decide +kernel
theorem dX12_plus__45 : decode cX12_plus_ 45 = .ok (.lstore 4, 2) := by decide +kernel
theorem dX12_plus__47 : decode cX12_plus_ 47 = .ok (.iconst 0, 1) := by decide +kernel
theorem dX12_plus__48 : decode cX12_plus_ 48 = .ok (.istore 6, 2) := by decide +kernel
theorem dX12_plus__50 : decode cX12_plus_ 50 = .ok (.iload 6, 2) := by decide +kernel
theorem dX12_plus__52 : decode cX12_plus_ 52 = .ok (.sipush 181, 3) := by decide +kernel
theorem dX12_plus__55 : decode cX12_plus_ 55 = .ok (.if_icmp .ge 52, 3) := by decide +kernel
theorem dX12_plus__58 : decode cX12_plus_ 58 = .ok (.aload_n 0, 1) := by decide +kernel
theorem dX12_plus__59 : decode cX12_plus_ 59 = .ok (.getfield 29, 3) := by decide +kernel
theorem dX12_plus__62 : decode cX12_plus_ 62 = .ok (.iload 6, 2) := by decide +kernel
theorem dX12_plus__64 : decode cX12_plus_ 64 = .ok (.aload_n 0, 1) := by decide +kernel
theorem dX12_plus__65 : decode cX12_plus_ 65 = .ok (.aload_n 0, 1) := by decide +kernel
theorem dX12_plus__66 : decode cX12_plus_ 66 = .ok (.getfield 218, 3) := by decide +kernel
theorem dX12_plus__69 : decode cX12_plus_ 69 = .ok (.sipush 181, 3) := by decide +kernel
theorem dX12_plus__72 : decode cX12_plus_ 72 = .ok (.iload_n 1, 1) := by decide +kernel
theorem dX12_plus__73 : decode cX12_plus_ 73 = .ok (.imul, 1) := by decide +kernel
theorem dX12_plus__74 : decode cX12_plus_ 74 = .ok (.iload 6, 2) := by decide +kernel
theorem dX12_plus__76 : decode cX12_plus_ 76 = .ok (.iadd, 1) := by decide +kernel
theorem dX12_plus__77 : decode cX12_plus_ 77 = .ok (.iaload, 1) := by decide +kernel
theorem dX12_plus__78 : decode cX12_plus_ 78 = .ok (.i2l, 1) := by decide +kernel
theorem dX12_plus__79 : decode cX12_plus_ 79 = .ok (.lload 4, 2) := by decide +kernel
theorem dX12_plus__81 : decode cX12_plus_ 81 = .ok (.aload_n 0, 1) := by decide +kernel
theorem dX12_plus__82 : decode cX12_plus_ 82 = .ok (.getfield 218, 3) := by decide +kernel
theorem dX12_plus__85 : decode cX12_plus_ 85 = .ok (.sipush 181, 3) := by decide +kernel
theorem dX12_plus__88 : decode cX12_plus_ 88 = .ok (.iload_n 2, 1) := by decide +kernel
theorem dX12_plus__89 : decode cX12_plus_ 89 = .ok (.imul, 1) := by decide +kernel
theorem dX12_plus__90 : decode cX12_plus_ 90 = .ok (.iload 6, 2) := by decide +kernel
theorem dX12_plus__92 : decode cX12_plus_ 92 = .ok (.iadd, 1) := by decide +kernel
theorem dX12_plus__93 : decode cX12_plus_ 93 = .ok (.iaload, 1) := by decide +kernel
theorem dX12_plus__94 : decode cX12_plus_ 94 = .ok (.i2l, 1) := by decide +kernel
theorem dX12_plus__95 : decode cX12_plus_ 95 = .ok (.lmul, 1) := by decide +kernel
theorem dX12_plus__96 : decode cX12_plus_ 96 = .ok (.ladd, 1) := by decide +kernel
theorem dX12_plus__97 : decode cX12_plus_ 97 = .ok (.invokevirtual 10, 3) := by decide +kernel
theorem dX12_plus__100 : decode cX12_plus_ 100 = .ok (.iastore, 1) := by decide +kernel
theorem dX12_plus__101 : decode cX12_plus_ 101 = .ok (.iinc 6 1, 3) := by decide +kernel
theorem dX12_plus__104 : decode cX12_plus_ 104 = .ok (.goto (-54), 3) := by decide +kernel
theorem dX12_plus__107 : decode cX12_plus_ 107 = .ok (.aload_n 0, 1) := by decide +kernel
theorem dX12_plus__108 : decode cX12_plus_ 108 = .ok (.getfield 29, 3) := by decide +kernel
theorem dX12_plus__111 : decode cX12_plus_ 111 = .ok (.iconst 0, 1) := by decide +kernel
theorem dX12_plus__112 : decode cX12_plus_ 112 = .ok (.aload_n 0, 1) := by decide +kernel
theorem dX12_plus__113 : decode cX12_plus_ 113 = .ok (.getfield 218, 3) := by decide +kernel
theorem dX12_plus__116 : decode cX12_plus_ 116 = .ok (.sipush 181, 3) := by decide +kernel
theorem dX12_plus__119 : decode cX12_plus_ 119 = .ok (.iload_n 1, 1) := by decide +kernel
theorem dX12_plus__120 : decode cX12_plus_ 120 = .ok (.imul, 1) := by decide +kernel
theorem dX12_plus__121 : decode cX12_plus_ 121 = .ok (.invokestatic 58, 3) := by decide +kernel
theorem dX12_plus__124 : decode cX12_plus_ 124 = .ok (.iconst 1, 1) := by decide +kernel
theorem dX12_plus__125 : decode cX12_plus_ 125 = .ok (.ireturn, 1) := by decide +kernel
theorem dX12_times__0 : decode cX12_times_ 0 = .ok (.aload_n 0, 1) := by decide +kernel
theorem dX12_times__1 : decode cX12_times_ 1 = .ok (.iconst 0, 1) := by decide +kernel
theorem dX12_times__2 : decode cX12_times_ 2 = .ok (.putfield 1, 3) := by decide +kernel
theorem dX12_times__5 : decode cX12_times_ 5 = .ok (.aload_n 0, 1) := by decide +kernel
theorem dX12_times__6 : decode cX12_times_ 6 = .ok (.iload_n 1, 1) := by decide +kernel
theorem dX12_times__7 : decode cX12_times_ 7 = .ok (.invokevirtual 269, 3) := by decide +kernel
theorem dX12_times__10 : decode cX12_times_ 10 = .ok (.ifCond .eq 29, 3) := by decide +kernel
theorem dX12_times__13 : decode cX12_times_ 13 = .ok (.aload_n 0, 1) := by decide +kernel
theorem dX12_times__14 : decode cX12_times_ 14 = .ok (.iload_n 2, 1) := by decide +kernel
theorem dX12_times__15 : decode cX12_times_ 15 = .ok (.invokevirtual 269, 3) := by decide +kernel
theorem dX12_times__18 : decode cX12_times_ 18 = .ok (.ifCond .eq 21, 3) := by decide +kernel
theorem dX12_times__21 : decode cX12_times_ 21 = .ok (.aload_n 0, 1) := by decide +kernel
theorem dX12_times__22 : decode cX12_times_ 22 = .ok (.getfield 215, 3) := by decide +kernel
theorem dX12_times__25 : decode cX12_times_ 25 = .ok (.iload_n 1, 1) := by decide +kernel
theorem dX12_times__26 : decode cX12_times_ 26 = .ok (.iaload, 1) := by decide +kernel
theorem dX12_times__27 : decode cX12_times_ 27 = .ok (.aload_n 0, 1) := by decide +kernel
theorem dX12_times__28 : decode cX12_times_ 28 = .ok (.getfield 215, 3) := by decide +kernel
theorem dX12_times__31 : decode cX12_times_ 31 = .ok (.iload_n 2, 1) := by decide +kernel
theorem dX12_times__32 : decode cX12_times_ 32 = .ok (.iaload, 1) := by decide +kernel
theorem dX12_times__33 : decode cX12_times_ 33 = .ok (.iadd, 1) := by decide +kernel
theorem dX12_times__34 : decode cX12_times_ 34 = .ok (.bipush 60, 2) := by decide +kernel
theorem dX12_times__36 : decode cX12_times_ 36 = .ok (.if_icmp .le 5, 3) := by decide +kernel
theorem dX12_times__39 : decode cX12_times_ 39 = .ok (.iconst (-1), 1) := by decide +kernel
theorem dX12_times__40 : decode cX12_times_ 40 = .ok (.ireturn, 1) := by decide +kernel
theorem dX12_times__41 : decode cX12_times_ 41 = .ok (.aload_n 0, 1) := by decide +kernel
theorem dX12_times__42 : decode cX12_times_ 42 = .ok (.aload_n 0, 1) := by decide +kernel
theorem dX12_times__43 : decode cX12_times_ 43 = .ok (.getfield 218, 3) := by decide +kernel
theorem dX12_times__46 : decode cX12_times_ 46 = .ok (.sipush 181, 3) := by decide +kernel
theorem dX12_times__49 : decode cX12_times_ 49 = .ok (.iload_n 1, 1) := by decide +kernel
theorem dX12_times__50 : decode cX12_times_ 50 = .ok (.imul, 1) := by decide +kernel
theorem dX12_times__51 : decode cX12_times_ 51 = .ok (.aload_n 0, 1) := by decide +kernel
theorem dX12_times__52 : decode cX12_times_ 52 = .ok (.getfield 218, 3) := by decide +kernel
theorem dX12_times__55 : decode cX12_times_ 55 = .ok (.sipush 181, 3) := by decide +kernel
theorem dX12_times__58 : decode cX12_times_ 58 = .ok (.iload_n 2, 1) := by decide +kernel
theorem dX12_times__59 : decode cX12_times_ 59 = .ok (.imul, 1) := by decide +kernel
theorem dX12_times__60 : decode cX12_times_ 60 = .ok (.aload_n 0, 1) := by decide +kernel
theorem dX12_times__61 : decode cX12_times_ 61 = .ok (.getfield 55, 3) := by decide +kernel
theorem dX12_times__64 : decode cX12_times_ 64 = .ok (.invokevirtual 32, 3) := by decide +kernel
theorem dX12_times__67 : decode cX12_times_ 67 = .ok (.aload_n 0, 1) := by decide +kernel
theorem dX12_times__68 : decode cX12_times_ 68 = .ok (.getfield 55, 3) := by decide +kernel
theorem dX12_times__71 : decode cX12_times_ 71 = .ok (.iconst 0, 1) := by decide +kernel
theorem dX12_times__72 : decode cX12_times_ 72 = .ok (.aload_n 0, 1) := by decide +kernel
theorem dX12_times__73 : decode cX12_times_ 73 = .ok (.getfield 218, 3) := by decide +kernel
theorem dX12_times__76 : decode cX12_times_ 76 = .ok (.sipush 181, 3) := by decide +kernel
theorem dX12_times__79 : decode cX12_times_ 79 = .ok (.iload_n 1, 1) := by decide +kernel
theorem dX12_times__80 : decode cX12_times_ 80 = .ok (.imul, 1) := by decide +kernel
theorem dX12_times__81 : decode cX12_times_ 81 = .ok (.invokestatic 58, 3) := by decide +kernel
theorem dX12_times__84 : decode cX12_times_ 84 = .ok (.aload_n 0, 1) := by decide +kernel
theorem dX12_times__85 : decode cX12_times_ 85 = .ok (.getfield 215, 3) := by decide +kernel
theorem dX12_times__88 : decode cX12_times_ 88 = .ok (.iload_n 1, 1) := by decide +kernel
theorem dX12_times__89 : decode cX12_times_ 89 = .ok (.dup2, 1) := by decide +kernel
theorem dX12_times__90 : decode cX12_times_ 90 = .ok (.iaload, 1) := by decide +kernel
theorem dX12_times__91 : decode cX12_times_ 91 = .ok (.aload_n 0, 1) := by decide +kernel
theorem dX12_times__92 : decode cX12_times_ 92 = .ok (.getfield 215, 3) := by decide +kernel
theorem dX12_times__95 : decode cX12_times_ 95 = .ok (.iload_n 2, 1) := by decide +kernel
theorem dX12_times__96 : decode cX12_times_ 96 = .ok (.iaload, 1) := by decide +kernel
theorem dX12_times__97 : decode cX12_times_ 97 = .ok (.iadd, 1) := by decide +kernel
theorem dX12_times__98 : decode cX12_times_ 98 = .ok (.iastore, 1) := by decide +kernel
theorem dX12_times__99 : decode cX12_times_ 99 = .ok (.aload_n 0, 1) := by decide +kernel
theorem dX12_times__100 : decode cX12_times_ 100 = .ok (.getfield 215, 3) := by decide +kernel
theorem dX12_times__103 : decode cX12_times_ 103 = .ok (.iload_n 1, 1) := by decide +kernel
theorem dX12_times__104 : decode cX12_times_ 104 = .ok (.iaload, 1) := by decide +kernel
theorem dX12_times__105 : decode cX12_times_ 105 = .ok (.ireturn, 1) := by decide +kernel
theorem dX12_isOperator_0 : decode cX12_isOperator 0 = .ok (.iload_n 0, 1) := by decide +kernel
theorem dX12_isOperator_1 : decode cX12_isOperator 1 = .ok (.iconst 1, 1) := by decide +kernel
theorem dX12_isOperator_2 : decode cX12_isOperator 2 = .ok (.bipush 30, 2) := by decide +kernel
theorem dX12_isOperator_4 : decode cX12_isOperator 4 = .ok (.invokestatic 45, 3) := by decide +kernel
theorem dX12_isOperator_7 : decode cX12_isOperator 7 = .ok (.ireturn, 1) := by decide +kernel
theorem dX12_hecke_0 : decode cX12_hecke 0 = .ok (.aload_n 0, 1) := by decide +kernel
theorem dX12_hecke_1 : decode cX12_hecke 1 = .ok (.iconst 0, 1) := by decide +kernel
theorem dX12_hecke_2 : decode cX12_hecke 2 = .ok (.putfield 1, 3) := by decide +kernel
theorem dX12_hecke_5 : decode cX12_hecke 5 = .ok (.aload_n 0, 1) := by decide +kernel
theorem dX12_hecke_6 : decode cX12_hecke 6 = .ok (.iload_n 1, 1) := by decide +kernel
theorem dX12_hecke_7 : decode cX12_hecke 7 = .ok (.invokevirtual 269, 3) := by decide +kernel
theorem dX12_hecke_10 : decode cX12_hecke 10 = .ok (.ifCond .eq 10, 3) := by decide +kernel
theorem dX12_hecke_13 : decode cX12_hecke 13 = .ok (.iload_n 2, 1) := by decide +kernel
theorem dX12_hecke_14 : decode cX12_hecke 14 = .ok (.invokestatic 332, 3) := by decide +kernel
theorem dX12_hecke_17 : decode cX12_hecke 17 = .ok (.ifCond .ne 5, 3) := by decide +kernel
theorem dX12_hecke_20 : decode cX12_hecke 20 = .ok (.iconst 0, 1) := by decide +kernel
theorem dX12_hecke_21 : decode cX12_hecke 21 = .ok (.ireturn, 1) := by decide +kernel
theorem dX12_hecke_22 : decode cX12_hecke 22 = .ok (.aload_n 0, 1) := by decide +kernel
theorem dX12_hecke_23 : decode cX12_hecke 23 = .ok (.getfield 215, 3) := by decide +kernel
theorem dX12_hecke_26 : decode cX12_hecke 26 = .ok (.iload_n 1, 1) := by decide +kernel
theorem dX12_hecke_27 : decode cX12_hecke 27 = .ok (.iaload, 1) := by decide +kernel
theorem dX12_hecke_28 : decode cX12_hecke 28 = .ok (.istore_n 3, 1) := by decide +kernel
theorem dX12_hecke_29 : decode cX12_hecke 29 = .ok (.iconst 0, 1) := by decide +kernel
theorem dX12_hecke_30 : decode cX12_hecke 30 = .ok (.istore 4, 2) := by decide +kernel
theorem dX12_hecke_32 : decode cX12_hecke 32 = .ok (.iload 4, 2) := by decide +kernel
theorem dX12_hecke_34 : decode cX12_hecke 34 = .ok (.iload_n 3, 1) := by decide +kernel
theorem dX12_hecke_35 : decode cX12_hecke 35 = .ok (.invokestatic 52, 3) := by decide +kernel
theorem dX12_hecke_38 : decode cX12_hecke 38 = .ok (.if_icmp .ge 33, 3) := by decide +kernel
theorem dX12_hecke_41 : decode cX12_hecke 41 = .ok (.aload_n 0, 1) := by decide +kernel
theorem dX12_hecke_42 : decode cX12_hecke 42 = .ok (.getfield 72, 3) := by decide +kernel
theorem dX12_hecke_45 : decode cX12_hecke 45 = .ok (.iload 4, 2) := by decide +kernel
theorem dX12_hecke_47 : decode cX12_hecke 47 = .ok (.aload_n 0, 1) := by decide +kernel
theorem dX12_hecke_48 : decode cX12_hecke 48 = .ok (.aload_n 0, 1) := by decide +kernel
theorem dX12_hecke_49 : decode cX12_hecke 49 = .ok (.getfield 218, 3) := by decide +kernel
theorem dX12_hecke_52 : decode cX12_hecke 52 = .ok (.sipush 181, 3) := by decide +kernel
theorem dX12_hecke_55 : decode cX12_hecke 55 = .ok (.iload_n 1, 1) := by decide +kernel
theorem dX12_hecke_56 : decode cX12_hecke 56 = .ok (.imul, 1) := by decide +kernel
theorem dX12_hecke_57 : decode cX12_hecke 57 = .ok (.iload_n 3, 1) := by decide +kernel
theorem dX12_hecke_58 : decode cX12_hecke 58 = .ok (.iload_n 2, 1) := by decide +kernel
theorem dX12_hecke_59 : decode cX12_hecke 59 = .ok (.iload 4, 2) := by decide +kernel
theorem dX12_hecke_61 : decode cX12_hecke 61 = .ok (.invokevirtual 335, 3) := by decide +kernel
theorem dX12_hecke_64 : decode cX12_hecke 64 = .ok (.iastore, 1) := by decide +kernel
theorem dX12_hecke_65 : decode cX12_hecke 65 = .ok (.iinc 4 1, 3) := by decide +kernel
theorem dX12_hecke_68 : decode cX12_hecke 68 = .ok (.goto (-36), 3) := by decide +kernel
theorem dX12_hecke_71 : decode cX12_hecke 71 = .ok (.aload_n 0, 1) := by decide +kernel
theorem dX12_hecke_72 : decode cX12_hecke 72 = .ok (.iload_n 3, 1) := by decide +kernel
theorem dX12_hecke_73 : decode cX12_hecke 73 = .ok (.invokevirtual 339, 3) := by decide +kernel
theorem dX12_hecke_76 : decode cX12_hecke 76 = .ok (.aload_n 0, 1) := by decide +kernel
theorem dX12_hecke_77 : decode cX12_hecke 77 = .ok (.getfield 69, 3) := by decide +kernel
theorem dX12_hecke_80 : decode cX12_hecke 80 = .ok (.iconst 0, 1) := by decide +kernel
theorem dX12_hecke_81 : decode cX12_hecke 81 = .ok (.aload_n 0, 1) := by decide +kernel
theorem dX12_hecke_82 : decode cX12_hecke 82 = .ok (.getfield 218, 3) := by decide +kernel
theorem dX12_hecke_85 : decode cX12_hecke 85 = .ok (.sipush 181, 3) := by decide +kernel
theorem dX12_hecke_88 : decode cX12_hecke 88 = .ok (.iload_n 1, 1) := by decide +kernel
theorem dX12_hecke_89 : decode cX12_hecke 89 = .ok (.imul, 1) := by decide +kernel
theorem dX12_hecke_90 : decode cX12_hecke 90 = .ok (.invokestatic 58, 3) := by decide +kernel
theorem dX12_hecke_93 : decode cX12_hecke 93 = .ok (.iconst 1, 1) := by decide +kernel
theorem dX12_hecke_94 : decode cX12_hecke 94 = .ok (.ireturn, 1) := by decide +kernel
theorem dX12_multiplies__0 : decode cX12_multiplies_ 0 = .ok (.aload_n 0, 1) := by decide +kernel
theorem dX12_multiplies__1 : decode cX12_multiplies_ 1 = .ok (.iconst 0, 1) := by decide +kernel
theorem dX12_multiplies__2 : decode cX12_multiplies_ 2 = .ok (.putfield 1, 3) := by decide +kernel
theorem dX12_multiplies__5 : decode cX12_multiplies_ 5 = .ok (.aload_n 0, 1) := by decide +kernel
theorem dX12_multiplies__6 : decode cX12_multiplies_ 6 = .ok (.iload_n 1, 1) := by decide +kernel
theorem dX12_multiplies__7 : decode cX12_multiplies_ 7 = .ok (.invokevirtual 269, 3) := by decide +kernel
theorem dX12_multiplies__10 : decode cX12_multiplies_ 10 = .ok (.ifCond .eq 10, 3) := by decide +kernel
theorem dX12_multiplies__13 : decode cX12_multiplies_ 13 = .ok (.iload_n 2, 1) := by decide +kernel
theorem dX12_multiplies__14 : decode cX12_multiplies_ 14 = .ok (.invokestatic 332, 3) := by decide +kernel
theorem dX12_multiplies__17 : decode cX12_multiplies_ 17 = .ok (.ifCond .ne 5, 3) := by decide +kernel
theorem dX12_multiplies__20 : decode cX12_multiplies_ 20 = .ok (.iconst (-1), 1) := by decide +kernel
theorem dX12_multiplies__21 : decode cX12_multiplies_ 21 = .ok (.ireturn, 1) := by decide +kernel
theorem dX12_multiplies__22 : decode cX12_multiplies_ 22 = .ok (.aload_n 0, 1) := by decide +kernel
theorem dX12_multiplies__23 : decode cX12_multiplies_ 23 = .ok (.getfield 215, 3) := by decide +kernel
theorem dX12_multiplies__26 : decode cX12_multiplies_ 26 = .ok (.iload_n 1, 1) := by decide +kernel
theorem dX12_multiplies__27 : decode cX12_multiplies_ 27 = .ok (.iaload, 1) := by decide +kernel
theorem dX12_multiplies__28 : decode cX12_multiplies_ 28 = .ok (.istore_n 3, 1) := by decide +kernel
theorem dX12_multiplies__29 : decode cX12_multiplies_ 29 = .ok (.sipush 181, 3) := by decide +kernel
theorem dX12_multiplies__32 : decode cX12_multiplies_ 32 = .ok (.iload_n 1, 1) := by decide +kernel
theorem dX12_multiplies__33 : decode cX12_multiplies_ 33 = .ok (.imul, 1) := by decide +kernel
theorem dX12_multiplies__34 : decode cX12_multiplies_ 34 = .ok (.istore 4, 2) := by decide +kernel
theorem dX12_multiplies__36 : decode cX12_multiplies_ 36 = .ok (.bipush (-2), 2) := by decide +kernel
theorem dX12_multiplies__38 : decode cX12_multiplies_ 38 = .ok (.istore 5, 2) := by decide +kernel
theorem dX12_multiplies__40 : decode cX12_multiplies_ 40 = .ok (.iconst 0, 1) := by decide +kernel
theorem dX12_multiplies__41 : decode cX12_multiplies_ 41 = .ok (.istore 6, 2) := by decide +kernel
theorem dX12_multiplies__43 : decode cX12_multiplies_ 43 = .ok (.iload 6, 2) := by decide +kernel
theorem dX12_multiplies__45 : decode cX12_multiplies_ 45 = .ok (.iload_n 3, 1) := by decide +kernel
theorem dX12_multiplies__46 : decode cX12_multiplies_ 46 = .ok (.invokestatic 52, 3) := by decide +kernel
theorem dX12_multiplies__49 : decode cX12_multiplies_ 49 = .ok (.if_icmp .ge 71, 3) := by decide +kernel
theorem dX12_multiplies__52 : decode cX12_multiplies_ 52 = .ok (.iload 5, 2) := by decide +kernel
theorem dX12_multiplies__54 : decode cX12_multiplies_ 54 = .ok (.bipush (-2), 2) := by decide +kernel
theorem dX12_multiplies__56 : decode cX12_multiplies_ 56 = .ok (.if_icmp .ne 64, 3) := by decide +kernel
theorem dX12_multiplies__59 : decode cX12_multiplies_ 59 = .ok (.aload_n 0, 1) := by decide +kernel
theorem dX12_multiplies__60 : decode cX12_multiplies_ 60 = .ok (.getfield 218, 3) := by decide +kernel
theorem dX12_multiplies__63 : decode cX12_multiplies_ 63 = .ok (.iload 4, 2) := by decide +kernel
theorem dX12_multiplies__65 : decode cX12_multiplies_ 65 = .ok (.iload 6, 2) := by decide +kernel
theorem dX12_multiplies__67 : decode cX12_multiplies_ 67 = .ok (.iadd, 1) := by decide +kernel
theorem dX12_multiplies__68 : decode cX12_multiplies_ 68 = .ok (.iaload, 1) := by decide +kernel
theorem dX12_multiplies__69 : decode cX12_multiplies_ 69 = .ok (.ifCond .ne 8, 3) := by decide +kernel
theorem dX12_multiplies__72 : decode cX12_multiplies_ 72 = .ok (.bipush (-2), 2) := by decide +kernel
theorem dX12_multiplies__74 : decode cX12_multiplies_ 74 = .ok (.goto 38, 3) := by decide +kernel
theorem dX12_multiplies__77 : decode cX12_multiplies_ 77 = .ok (.aload_n 0, 1) := by decide +kernel
theorem dX12_multiplies__78 : decode cX12_multiplies_ 78 = .ok (.aload_n 0, 1) := by decide +kernel
theorem dX12_multiplies__79 : decode cX12_multiplies_ 79 = .ok (.aload_n 0, 1) := by decide +kernel
theorem dX12_multiplies__80 : decode cX12_multiplies_ 80 = .ok (.getfield 218, 3) := by decide +kernel
theorem dX12_multiplies__83 : decode cX12_multiplies_ 83 = .ok (.iload 4, 2) := by decide +kernel
theorem dX12_multiplies__85 : decode cX12_multiplies_ 85 = .ok (.iload_n 3, 1) := by decide +kernel
theorem dX12_multiplies__86 : decode cX12_multiplies_ 86 = .ok (.iload_n 2, 1) := by decide +kernel
theorem dX12_multiplies__87 : decode cX12_multiplies_ 87 = .ok (.iload 6, 2) := by decide +kernel
theorem dX12_multiplies__89 : decode cX12_multiplies_ 89 = .ok (.invokevirtual 335, 3) := by decide +kernel
theorem dX12_multiplies__92 : decode cX12_multiplies_ 92 = .ok (.i2l, 1) := by decide +kernel
theorem dX12_multiplies__93 : decode cX12_multiplies_ 93 = .ok (.aload_n 0, 1) := by decide +kernel
theorem dX12_multiplies__94 : decode cX12_multiplies_ 94 = .ok (.aload_n 0, 1) := by decide +kernel
theorem dX12_multiplies__95 : decode cX12_multiplies_ 95 = .ok (.getfield 218, 3) := by decide +kernel
theorem dX12_multiplies__98 : decode cX12_multiplies_ 98 = .ok (.iload 4, 2) := by decide +kernel
theorem dX12_multiplies__100 : decode cX12_multiplies_ 100 = .ok (.iload 6, 2) := by decide +kernel
theorem dX12_multiplies__102 : decode cX12_multiplies_ 102 = .ok (.iadd, 1) := by decide +kernel
theorem dX12_multiplies__103 : decode cX12_multiplies_ 103 = .ok (.iaload, 1) := by decide +kernel
theorem dX12_multiplies__104 : decode cX12_multiplies_ 104 = .ok (.invokevirtual 41, 3) := by decide +kernel
theorem dX12_multiplies__107 : decode cX12_multiplies_ 107 = .ok (.i2l, 1) := by decide +kernel
theorem dX12_multiplies__108 : decode cX12_multiplies_ 108 = .ok (.lmul, 1) := by decide +kernel
theorem dX12_multiplies__109 : decode cX12_multiplies_ 109 = .ok (.invokevirtual 10, 3) := by decide +kernel
theorem dX12_multiplies__112 : decode cX12_multiplies_ 112 = .ok (.istore 5, 2) := by decide +kernel
theorem dX12_multiplies__114 : decode cX12_multiplies_ 114 = .ok (.iinc 6 1, 3) := by decide +kernel
theorem dX12_multiplies__117 : decode cX12_multiplies_ 117 = .ok (.goto (-74), 3) := by decide +kernel
theorem dX12_multiplies__120 : decode cX12_multiplies_ 120 = .ok (.iload 5, 2) := by decide +kernel
theorem dX12_multiplies__122 : decode cX12_multiplies_ 122 = .ok (.bipush (-2), 2) := by decide +kernel
theorem dX12_multiplies__124 : decode cX12_multiplies_ 124 = .ok (.if_icmp .eq 7, 3) := by decide +kernel
theorem dX12_multiplies__127 : decode cX12_multiplies_ 127 = .ok (.iconst 1, 1) := by decide +kernel
theorem dX12_multiplies__128 : decode cX12_multiplies_ 128 = .ok (.goto 4, 3) := by decide +kernel
theorem dX12_multiplies__131 : decode cX12_multiplies_ 131 = .ok (.iconst 0, 1) := by decide +kernel
theorem dX12_multiplies__132 : decode cX12_multiplies_ 132 = .ok (.istore 6, 2) := by decide +kernel
theorem dX12_multiplies__134 : decode cX12_multiplies_ 134 = .ok (.iconst 0, 1) := by decide +kernel
theorem dX12_multiplies__135 : decode cX12_multiplies_ 135 = .ok (.istore 7, 2) := by decide +kernel
theorem dX12_multiplies__137 : decode cX12_multiplies_ 137 = .ok (.iload 7, 2) := by decide +kernel
theorem dX12_multiplies__139 : decode cX12_multiplies_ 139 = .ok (.iload_n 3, 1) := by decide +kernel
theorem dX12_multiplies__140 : decode cX12_multiplies_ 140 = .ok (.invokestatic 52, 3) := by decide +kernel
theorem dX12_multiplies__143 : decode cX12_multiplies_ 143 = .ok (.if_icmp .ge 57, 3) := by decide +kernel
theorem dX12_multiplies__146 : decode cX12_multiplies_ 146 = .ok (.iload 6, 2) := by decide +kernel
theorem dX12_multiplies__148 : decode cX12_multiplies_ 148 = .ok (.ifCond .eq 52, 3) := by decide +kernel
theorem dX12_multiplies__151 : decode cX12_multiplies_ 151 = .ok (.aload_n 0, 1) := by decide +kernel
theorem dX12_multiplies__152 : decode cX12_multiplies_ 152 = .ok (.aload_n 0, 1) := by decide +kernel
theorem dX12_multiplies__153 : decode cX12_multiplies_ 153 = .ok (.getfield 218, 3) := by decide +kernel
theorem dX12_multiplies__156 : decode cX12_multiplies_ 156 = .ok (.iload 4, 2) := by decide +kernel
theorem dX12_multiplies__158 : decode cX12_multiplies_ 158 = .ok (.iload_n 3, 1) := by decide +kernel
theorem dX12_multiplies__159 : decode cX12_multiplies_ 159 = .ok (.iload_n 2, 1) := by decide +kernel
theorem dX12_multiplies__160 : decode cX12_multiplies_ 160 = .ok (.iload 7, 2) := by decide +kernel
theorem dX12_multiplies__162 : decode cX12_multiplies_ 162 = .ok (.invokevirtual 335, 3) := by decide +kernel
theorem dX12_multiplies__165 : decode cX12_multiplies_ 165 = .ok (.aload_n 0, 1) := by decide +kernel
theorem dX12_multiplies__166 : decode cX12_multiplies_ 166 = .ok (.iload 5, 2) := by decide +kernel
theorem dX12_multiplies__168 : decode cX12_multiplies_ 168 = .ok (.i2l, 1) := by decide +kernel
theorem dX12_multiplies__169 : decode cX12_multiplies_ 169 = .ok (.aload_n 0, 1) := by decide +kernel
theorem dX12_multiplies__170 : decode cX12_multiplies_ 170 = .ok (.getfield 218, 3) := by decide +kernel
theorem dX12_multiplies__173 : decode cX12_multiplies_ 173 = .ok (.iload 4, 2) := by decide +kernel
theorem dX12_multiplies__175 : decode cX12_multiplies_ 175 = .ok (.iload 7, 2) := by decide +kernel
theorem dX12_multiplies__177 : decode cX12_multiplies_ 177 = .ok (.iadd, 1) := by decide +kernel
theorem dX12_multiplies__178 : decode cX12_multiplies_ 178 = .ok (.iaload, 1) := by decide +kernel
theorem dX12_multiplies__179 : decode cX12_multiplies_ 179 = .ok (.i2l, 1) := by decide +kernel
theorem dX12_multiplies__180 : decode cX12_multiplies_ 180 = .ok (.lmul, 1) := by decide +kernel
theorem dX12_multiplies__181 : decode cX12_multiplies_ 181 = .ok (.invokevirtual 10, 3) := by decide +kernel
theorem dX12_multiplies__184 : decode cX12_multiplies_ 184 = .ok (.if_icmp .ne 7, 3) := by decide +kernel
theorem dX12_multiplies__187 : decode cX12_multiplies_ 187 = .ok (.iconst 1, 1) := by decide +kernel
theorem dX12_multiplies__188 : decode cX12_multiplies_ 188 = .ok (.goto 4, 3) := by decide +kernel
theorem dX12_multiplies__191 : decode cX12_multiplies_ 191 = .ok (.iconst 0, 1) := by decide +kernel
theorem dX12_multiplies__192 : decode cX12_multiplies_ 192 = .ok (.istore 6, 2) := by decide +kernel
theorem dX12_multiplies__194 : decode cX12_multiplies_ 194 = .ok (.iinc 7 1, 3) := by decide +kernel
theorem dX12_multiplies__197 : decode cX12_multiplies_ 197 = .ok (.goto (-60), 3) := by decide +kernel
theorem dX12_multiplies__200 : decode cX12_multiplies_ 200 = .ok (.iload 6, 2) := by decide +kernel
theorem dX12_multiplies__202 : decode cX12_multiplies_ 202 = .ok (.ifCond .eq 8, 3) := by decide +kernel
theorem dX12_multiplies__205 : decode cX12_multiplies_ 205 = .ok (.iload 5, 2) := by decide +kernel
theorem dX12_multiplies__207 : decode cX12_multiplies_ 207 = .ok (.goto 5, 3) := by decide +kernel
theorem dX12_multiplies__210 : decode cX12_multiplies_ 210 = .ok (.bipush (-2), 2) := by decide +kernel
theorem dX12_multiplies__212 : decode cX12_multiplies_ 212 = .ok (.ireturn, 1) := by decide +kernel
theorem dX12_alike_0 : decode cX12_alike 0 = .ok (.aload_n 0, 1) := by decide +kernel
theorem dX12_alike_1 : decode cX12_alike 1 = .ok (.iconst 0, 1) := by decide +kernel
theorem dX12_alike_2 : decode cX12_alike 2 = .ok (.putfield 1, 3) := by decide +kernel
theorem dX12_alike_5 : decode cX12_alike 5 = .ok (.aload_n 0, 1) := by decide +kernel
theorem dX12_alike_6 : decode cX12_alike 6 = .ok (.iload_n 1, 1) := by decide +kernel
theorem dX12_alike_7 : decode cX12_alike 7 = .ok (.invokevirtual 269, 3) := by decide +kernel
theorem dX12_alike_10 : decode cX12_alike 10 = .ok (.ifCond .eq 22, 3) := by decide +kernel
theorem dX12_alike_13 : decode cX12_alike 13 = .ok (.aload_n 0, 1) := by decide +kernel
theorem dX12_alike_14 : decode cX12_alike 14 = .ok (.iload_n 2, 1) := by decide +kernel
theorem dX12_alike_15 : decode cX12_alike 15 = .ok (.invokevirtual 269, 3) := by decide +kernel
theorem dX12_alike_18 : decode cX12_alike 18 = .ok (.ifCond .eq 14, 3) := by decide +kernel
theorem dX12_alike_21 : decode cX12_alike 21 = .ok (.iload_n 3, 1) := by decide +kernel
theorem dX12_alike_22 : decode cX12_alike 22 = .ok (.iconst 0, 1) := by decide +kernel
theorem dX12_alike_23 : decode cX12_alike 23 = .ok (.sipush 180, 3) := by decide +kernel
theorem dX12_alike_26 : decode cX12_alike 26 = .ok (.invokestatic 45, 3) := by decide +kernel
theorem dX12_alike_29 : decode cX12_alike 29 = .ok (.ifCond .ne 5, 3) := by decide +kernel
theorem dX12_alike_32 : decode cX12_alike 32 = .ok (.iconst (-1), 1) := by decide +kernel
theorem dX12_alike_33 : decode cX12_alike 33 = .ok (.ireturn, 1) := by decide +kernel
theorem dX12_alike_34 : decode cX12_alike 34 = .ok (.aload_n 0, 1) := by decide +kernel
theorem dX12_alike_35 : decode cX12_alike 35 = .ok (.getfield 215, 3) := by decide +kernel
theorem dX12_alike_38 : decode cX12_alike 38 = .ok (.iload_n 1, 1) := by decide +kernel
theorem dX12_alike_39 : decode cX12_alike 39 = .ok (.iaload, 1) := by decide +kernel
theorem dX12_alike_40 : decode cX12_alike 40 = .ok (.aload_n 0, 1) := by decide +kernel
theorem dX12_alike_41 : decode cX12_alike 41 = .ok (.getfield 215, 3) := by decide +kernel
theorem dX12_alike_44 : decode cX12_alike 44 = .ok (.iload_n 2, 1) := by decide +kernel
theorem dX12_alike_45 : decode cX12_alike 45 = .ok (.iaload, 1) := by decide +kernel
theorem dX12_alike_46 : decode cX12_alike 46 = .ok (.if_icmp .ne 7, 3) := by decide +kernel
theorem dX12_alike_49 : decode cX12_alike 49 = .ok (.iconst 1, 1) := by decide +kernel
theorem dX12_alike_50 : decode cX12_alike 50 = .ok (.goto 4, 3) := by decide +kernel
theorem dX12_alike_53 : decode cX12_alike 53 = .ok (.iconst 0, 1) := by decide +kernel
theorem dX12_alike_54 : decode cX12_alike 54 = .ok (.istore 4, 2) := by decide +kernel
theorem dX12_alike_56 : decode cX12_alike 56 = .ok (.iconst 0, 1) := by decide +kernel
theorem dX12_alike_57 : decode cX12_alike 57 = .ok (.istore 5, 2) := by decide +kernel
theorem dX12_alike_59 : decode cX12_alike 59 = .ok (.iload 5, 2) := by decide +kernel
theorem dX12_alike_61 : decode cX12_alike 61 = .ok (.iload_n 3, 1) := by decide +kernel
theorem dX12_alike_62 : decode cX12_alike 62 = .ok (.if_icmp .gt 50, 3) := by decide +kernel
theorem dX12_alike_65 : decode cX12_alike 65 = .ok (.iload 4, 2) := by decide +kernel
theorem dX12_alike_67 : decode cX12_alike 67 = .ok (.ifCond .eq 45, 3) := by decide +kernel
theorem dX12_alike_70 : decode cX12_alike 70 = .ok (.aload_n 0, 1) := by decide +kernel
theorem dX12_alike_71 : decode cX12_alike 71 = .ok (.getfield 218, 3) := by decide +kernel
theorem dX12_alike_74 : decode cX12_alike 74 = .ok (.sipush 181, 3) := by decide +kernel
theorem dX12_alike_77 : decode cX12_alike 77 = .ok (.iload_n 1, 1) := by decide +kernel
theorem dX12_alike_78 : decode cX12_alike 78 = .ok (.imul, 1) := by decide +kernel
theorem dX12_alike_79 : decode cX12_alike 79 = .ok (.iload 5, 2) := by decide +kernel
theorem dX12_alike_81 : decode cX12_alike 81 = .ok (.iadd, 1) := by decide +kernel
theorem dX12_alike_82 : decode cX12_alike 82 = .ok (.iaload, 1) := by decide +kernel
theorem dX12_alike_83 : decode cX12_alike 83 = .ok (.aload_n 0, 1) := by decide +kernel
theorem dX12_alike_84 : decode cX12_alike 84 = .ok (.getfield 218, 3) := by decide +kernel
theorem dX12_alike_87 : decode cX12_alike 87 = .ok (.sipush 181, 3) := by decide +kernel
theorem dX12_alike_90 : decode cX12_alike 90 = .ok (.iload_n 2, 1) := by decide +kernel
theorem dX12_alike_91 : decode cX12_alike 91 = .ok (.imul, 1) := by decide +kernel
theorem dX12_alike_92 : decode cX12_alike 92 = .ok (.iload 5, 2) := by decide +kernel
theorem dX12_alike_94 : decode cX12_alike 94 = .ok (.iadd, 1) := by decide +kernel
theorem dX12_alike_95 : decode cX12_alike 95 = .ok (.iaload, 1) := by decide +kernel
theorem dX12_alike_96 : decode cX12_alike 96 = .ok (.if_icmp .ne 7, 3) := by decide +kernel
theorem dX12_alike_99 : decode cX12_alike 99 = .ok (.iconst 1, 1) := by decide +kernel
theorem dX12_alike_100 : decode cX12_alike 100 = .ok (.goto 4, 3) := by decide +kernel
theorem dX12_alike_103 : decode cX12_alike 103 = .ok (.iconst 0, 1) := by decide +kernel
theorem dX12_alike_104 : decode cX12_alike 104 = .ok (.istore 4, 2) := by decide +kernel
theorem dX12_alike_106 : decode cX12_alike 106 = .ok (.iinc 5 1, 3) := by decide +kernel
theorem dX12_alike_109 : decode cX12_alike 109 = .ok (.goto (-50), 3) := by decide +kernel
theorem dX12_alike_112 : decode cX12_alike 112 = .ok (.iload 4, 2) := by decide +kernel
theorem dX12_alike_114 : decode cX12_alike 114 = .ok (.ifCond .eq 7, 3) := by decide +kernel
theorem dX12_alike_117 : decode cX12_alike 117 = .ok (.iconst 1, 1) := by decide +kernel
theorem dX12_alike_118 : decode cX12_alike 118 = .ok (.goto 4, 3) := by decide +kernel
theorem dX12_alike_121 : decode cX12_alike 121 = .ok (.iconst 0, 1) := by decide +kernel
theorem dX12_alike_122 : decode cX12_alike 122 = .ok (.ireturn, 1) := by decide +kernel
theorem dX12_parts_0 : decode cX12_parts 0 = .ok (.aload_n 0, 1) := by decide +kernel
theorem dX12_parts_1 : decode cX12_parts 1 = .ok (.iconst 0, 1) := by decide +kernel
theorem dX12_parts_2 : decode cX12_parts 2 = .ok (.putfield 1, 3) := by decide +kernel
theorem dX12_parts_5 : decode cX12_parts 5 = .ok (.aload_n 0, 1) := by decide +kernel
theorem dX12_parts_6 : decode cX12_parts 6 = .ok (.iload_n 1, 1) := by decide +kernel
theorem dX12_parts_7 : decode cX12_parts 7 = .ok (.invokevirtual 269, 3) := by decide +kernel
theorem dX12_parts_10 : decode cX12_parts 10 = .ok (.ifCond .eq 26, 3) := by decide +kernel
theorem dX12_parts_13 : decode cX12_parts 13 = .ok (.aload_n 0, 1) := by decide +kernel
theorem dX12_parts_14 : decode cX12_parts 14 = .ok (.iload_n 2, 1) := by decide +kernel
theorem dX12_parts_15 : decode cX12_parts 15 = .ok (.invokevirtual 269, 3) := by decide +kernel
theorem dX12_parts_18 : decode cX12_parts 18 = .ok (.ifCond .eq 18, 3) := by decide +kernel
theorem dX12_parts_21 : decode cX12_parts 21 = .ok (.aload_n 0, 1) := by decide +kernel
theorem dX12_parts_22 : decode cX12_parts 22 = .ok (.getfield 215, 3) := by decide +kernel
theorem dX12_parts_25 : decode cX12_parts 25 = .ok (.iload_n 1, 1) := by decide +kernel
theorem dX12_parts_26 : decode cX12_parts 26 = .ok (.iaload, 1) := by decide +kernel
theorem dX12_parts_27 : decode cX12_parts 27 = .ok (.aload_n 0, 1) := by decide +kernel
theorem dX12_parts_28 : decode cX12_parts 28 = .ok (.getfield 215, 3) := by decide +kernel
theorem dX12_parts_31 : decode cX12_parts 31 = .ok (.iload_n 2, 1) := by decide +kernel
theorem dX12_parts_32 : decode cX12_parts 32 = .ok (.iaload, 1) := by decide +kernel
theorem dX12_parts_33 : decode cX12_parts 33 = .ok (.if_icmp .eq 5, 3) := by decide +kernel
theorem dX12_parts_36 : decode cX12_parts 36 = .ok (.iconst (-1), 1) := by decide +kernel
theorem dX12_parts_37 : decode cX12_parts 37 = .ok (.ireturn, 1) := by decide +kernel
theorem dX12_parts_38 : decode cX12_parts 38 = .ok (.iconst 0, 1) := by decide +kernel
theorem dX12_parts_39 : decode cX12_parts 39 = .ok (.istore_n 3, 1) := by decide +kernel
theorem dX12_parts_40 : decode cX12_parts 40 = .ok (.iload_n 3, 1) := by decide +kernel
theorem dX12_parts_41 : decode cX12_parts 41 = .ok (.aload_n 0, 1) := by decide +kernel
theorem dX12_parts_42 : decode cX12_parts 42 = .ok (.getfield 215, 3) := by decide +kernel
theorem dX12_parts_45 : decode cX12_parts 45 = .ok (.iload_n 1, 1) := by decide +kernel
theorem dX12_parts_46 : decode cX12_parts 46 = .ok (.iaload, 1) := by decide +kernel
theorem dX12_parts_47 : decode cX12_parts 47 = .ok (.bipush 12, 2) := by decide +kernel
theorem dX12_parts_49 : decode cX12_parts 49 = .ok (.idiv, 1) := by decide +kernel
theorem dX12_parts_50 : decode cX12_parts 50 = .ok (.if_icmp .gt 38, 3) := by decide +kernel
theorem dX12_parts_53 : decode cX12_parts 53 = .ok (.aload_n 0, 1) := by decide +kernel
theorem dX12_parts_54 : decode cX12_parts 54 = .ok (.getfield 218, 3) := by decide +kernel
theorem dX12_parts_57 : decode cX12_parts 57 = .ok (.sipush 181, 3) := by decide +kernel
theorem dX12_parts_60 : decode cX12_parts 60 = .ok (.iload_n 1, 1) := by decide +kernel
theorem dX12_parts_61 : decode cX12_parts 61 = .ok (.imul, 1) := by decide +kernel
theorem dX12_parts_62 : decode cX12_parts 62 = .ok (.iload_n 3, 1) := by decide +kernel
theorem dX12_parts_63 : decode cX12_parts 63 = .ok (.iadd, 1) := by decide +kernel
theorem dX12_parts_64 : decode cX12_parts 64 = .ok (.iaload, 1) := by decide +kernel
theorem dX12_parts_65 : decode cX12_parts 65 = .ok (.aload_n 0, 1) := by decide +kernel
theorem dX12_parts_66 : decode cX12_parts 66 = .ok (.getfield 218, 3) := by decide +kernel
theorem dX12_parts_69 : decode cX12_parts 69 = .ok (.sipush 181, 3) := by decide +kernel
theorem dX12_parts_72 : decode cX12_parts 72 = .ok (.iload_n 2, 1) := by decide +kernel
theorem dX12_parts_73 : decode cX12_parts 73 = .ok (.imul, 1) := by decide +kernel
theorem dX12_parts_74 : decode cX12_parts 74 = .ok (.iload_n 3, 1) := by decide +kernel
theorem dX12_parts_75 : decode cX12_parts 75 = .ok (.iadd, 1) := by decide +kernel
theorem dX12_parts_76 : decode cX12_parts 76 = .ok (.iaload, 1) := by decide +kernel
theorem dX12_parts_77 : decode cX12_parts 77 = .ok (.if_icmp .eq 5, 3) := by decide +kernel
theorem dX12_parts_80 : decode cX12_parts 80 = .ok (.iload_n 3, 1) := by decide +kernel
theorem dX12_parts_81 : decode cX12_parts 81 = .ok (.ireturn, 1) := by decide +kernel
theorem dX12_parts_82 : decode cX12_parts 82 = .ok (.iinc 3 1, 3) := by decide +kernel
theorem dX12_parts_85 : decode cX12_parts 85 = .ok (.goto (-45), 3) := by decide +kernel
theorem dX12_parts_88 : decode cX12_parts 88 = .ok (.bipush (-2), 2) := by decide +kernel
theorem dX12_parts_90 : decode cX12_parts 90 = .ok (.ireturn, 1) := by decide +kernel
theorem dX12_laysTable_0 : decode cX12_laysTable 0 = .ok (.aload_n 0, 1) := by decide +kernel
theorem dX12_laysTable_1 : decode cX12_laysTable 1 = .ok (.iload_n 1, 1) := by decide +kernel
theorem dX12_laysTable_2 : decode cX12_laysTable 2 = .ok (.invokestatic 275, 3) := by decide +kernel
theorem dX12_laysTable_5 : decode cX12_laysTable 5 = .ok (.putfield 342, 3) := by decide +kernel
theorem dX12_laysTable_8 : decode cX12_laysTable 8 = .ok (.iconst 0, 1) := by decide +kernel
theorem dX12_laysTable_9 : decode cX12_laysTable 9 = .ok (.istore_n 3, 1) := by decide +kernel
theorem dX12_laysTable_10 : decode cX12_laysTable 10 = .ok (.iload_n 3, 1) := by decide +kernel
theorem dX12_laysTable_11 : decode cX12_laysTable 11 = .ok (.aload_n 0, 1) := by decide +kernel
theorem dX12_laysTable_12 : decode cX12_laysTable 12 = .ok (.getfield 342, 3) := by decide +kernel
theorem dX12_laysTable_15 : decode cX12_laysTable 15 = .ok (.if_icmp .ge 95, 3) := by decide +kernel
theorem dX12_laysTable_18 : decode cX12_laysTable 18 = .ok (.iconst 0, 1) := by decide +kernel
theorem dX12_laysTable_19 : decode cX12_laysTable 19 = .ok (.istore 4, 2) := by decide +kernel
theorem dX12_laysTable_21 : decode cX12_laysTable 21 = .ok (.iload 4, 2) := by decide +kernel
theorem dX12_laysTable_23 : decode cX12_laysTable 23 = .ok (.bipush 6, 2) := by decide +kernel
theorem dX12_laysTable_25 : decode cX12_laysTable 25 = .ok (.if_icmp .ge 29, 3) := by decide +kernel
theorem dX12_laysTable_28 : decode cX12_laysTable 28 = .ok (.aload_n 0, 1) := by decide +kernel
theorem dX12_laysTable_29 : decode cX12_laysTable 29 = .ok (.getfield 72, 3) := by decide +kernel
theorem dX12_laysTable_32 : decode cX12_laysTable 32 = .ok (.iload 4, 2) := by decide +kernel
theorem dX12_laysTable_34 : decode cX12_laysTable 34 = .ok (.iload 4, 2) := by decide +kernel
theorem dX12_laysTable_36 : decode cX12_laysTable 36 = .ok (.iload_n 3, 1) := by decide +kernel
theorem dX12_laysTable_37 : decode cX12_laysTable 37 = .ok (.iconst 1, 1) := by decide +kernel
theorem dX12_laysTable_38 : decode cX12_laysTable 38 = .ok (.iadd, 1) := by decide +kernel
theorem dX12_laysTable_39 : decode cX12_laysTable 39 = .ok (.if_icmp .ne 7, 3) := by decide +kernel
theorem dX12_laysTable_42 : decode cX12_laysTable 42 = .ok (.iconst 1, 1) := by decide +kernel
theorem dX12_laysTable_43 : decode cX12_laysTable 43 = .ok (.goto 4, 3) := by decide +kernel
theorem dX12_laysTable_46 : decode cX12_laysTable 46 = .ok (.iconst 0, 1) := by decide +kernel
theorem dX12_laysTable_47 : decode cX12_laysTable 47 = .ok (.iastore, 1) := by decide +kernel
theorem dX12_laysTable_48 : decode cX12_laysTable 48 = .ok (.iinc 4 1, 3) := by decide +kernel
theorem dX12_laysTable_51 : decode cX12_laysTable 51 = .ok (.goto (-30), 3) := by decide +kernel
theorem dX12_laysTable_54 : decode cX12_laysTable 54 = .ok (.aload_n 0, 1) := by decide +kernel
theorem dX12_laysTable_55 : decode cX12_laysTable 55 = .ok (.iload_n 1, 1) := by decide +kernel
theorem dX12_laysTable_56 : decode cX12_laysTable 56 = .ok (.invokevirtual 339, 3) := by decide +kernel
theorem dX12_laysTable_59 : decode cX12_laysTable 59 = .ok (.iconst 0, 1) := by decide +kernel
theorem dX12_laysTable_60 : decode cX12_laysTable 60 = .ok (.istore 4, 2) := by decide +kernel
theorem dX12_laysTable_62 : decode cX12_laysTable 62 = .ok (.iload 4, 2) := by decide +kernel
theorem dX12_laysTable_64 : decode cX12_laysTable 64 = .ok (.aload_n 0, 1) := by decide +kernel
theorem dX12_laysTable_65 : decode cX12_laysTable 65 = .ok (.getfield 342, 3) := by decide +kernel
theorem dX12_laysTable_68 : decode cX12_laysTable 68 = .ok (.if_icmp .ge 36, 3) := by decide +kernel
theorem dX12_laysTable_71 : decode cX12_laysTable 71 = .ok (.aload_n 0, 1) := by decide +kernel
theorem dX12_laysTable_72 : decode cX12_laysTable 72 = .ok (.getfield 233, 3) := by decide +kernel
theorem dX12_laysTable_75 : decode cX12_laysTable 75 = .ok (.bipush 6, 2) := by decide +kernel
theorem dX12_laysTable_77 : decode cX12_laysTable 77 = .ok (.iload_n 3, 1) := by decide +kernel
theorem dX12_laysTable_78 : decode cX12_laysTable 78 = .ok (.imul, 1) := by decide +kernel
theorem dX12_laysTable_79 : decode cX12_laysTable 79 = .ok (.iload 4, 2) := by decide +kernel
theorem dX12_laysTable_81 : decode cX12_laysTable 81 = .ok (.iadd, 1) := by decide +kernel
theorem dX12_laysTable_82 : decode cX12_laysTable 82 = .ok (.aload_n 0, 1) := by decide +kernel
theorem dX12_laysTable_83 : decode cX12_laysTable 83 = .ok (.aload_n 0, 1) := by decide +kernel
theorem dX12_laysTable_84 : decode cX12_laysTable 84 = .ok (.getfield 69, 3) := by decide +kernel
theorem dX12_laysTable_87 : decode cX12_laysTable 87 = .ok (.iconst 0, 1) := by decide +kernel
theorem dX12_laysTable_88 : decode cX12_laysTable 88 = .ok (.iload_n 1, 1) := by decide +kernel
theorem dX12_laysTable_89 : decode cX12_laysTable 89 = .ok (.iload_n 2, 1) := by decide +kernel
theorem dX12_laysTable_90 : decode cX12_laysTable 90 = .ok (.iload 4, 2) := by decide +kernel
theorem dX12_laysTable_92 : decode cX12_laysTable 92 = .ok (.iconst 1, 1) := by decide +kernel
theorem dX12_laysTable_93 : decode cX12_laysTable 93 = .ok (.iadd, 1) := by decide +kernel
theorem dX12_laysTable_94 : decode cX12_laysTable 94 = .ok (.invokevirtual 335, 3) := by decide +kernel
theorem dX12_laysTable_97 : decode cX12_laysTable 97 = .ok (.iastore, 1) := by decide +kernel
theorem dX12_laysTable_98 : decode cX12_laysTable 98 = .ok (.iinc 4 1, 3) := by decide +kernel
theorem dX12_laysTable_101 : decode cX12_laysTable 101 = .ok (.goto (-39), 3) := by decide +kernel
theorem dX12_laysTable_104 : decode cX12_laysTable 104 = .ok (.iinc 3 1, 3) := by decide +kernel
theorem dX12_laysTable_107 : decode cX12_laysTable 107 = .ok (.goto (-97), 3) := by decide +kernel
theorem dX12_laysTable_110 : decode cX12_laysTable 110 = .ok (.return_, 1) := by decide +kernel
theorem dX12_table_0 : decode cX12_table 0 = .ok (.aload_n 0, 1) := by decide +kernel
theorem dX12_table_1 : decode cX12_table 1 = .ok (.iconst 0, 1) := by decide +kernel
theorem dX12_table_2 : decode cX12_table 2 = .ok (.putfield 1, 3) := by decide +kernel
theorem dX12_table_5 : decode cX12_table 5 = .ok (.iload_n 1, 1) := by decide +kernel
theorem dX12_table_6 : decode cX12_table 6 = .ok (.invokestatic 272, 3) := by decide +kernel
theorem dX12_table_9 : decode cX12_table 9 = .ok (.ifCond .eq 35, 3) := by decide +kernel
theorem dX12_table_12 : decode cX12_table 12 = .ok (.iload_n 2, 1) := by decide +kernel
theorem dX12_table_13 : decode cX12_table 13 = .ok (.invokestatic 332, 3) := by decide +kernel
theorem dX12_table_16 : decode cX12_table 16 = .ok (.ifCond .eq 28, 3) := by decide +kernel
theorem dX12_table_19 : decode cX12_table 19 = .ok (.iload_n 3, 1) := by decide +kernel
theorem dX12_table_20 : decode cX12_table 20 = .ok (.iconst 1, 1) := by decide +kernel
theorem dX12_table_21 : decode cX12_table 21 = .ok (.iload_n 1, 1) := by decide +kernel
theorem dX12_table_22 : decode cX12_table 22 = .ok (.invokestatic 275, 3) := by decide +kernel
theorem dX12_table_25 : decode cX12_table 25 = .ok (.invokestatic 45, 3) := by decide +kernel
theorem dX12_table_28 : decode cX12_table 28 = .ok (.ifCond .eq 16, 3) := by decide +kernel
theorem dX12_table_31 : decode cX12_table 31 = .ok (.iload 4, 2) := by decide +kernel
theorem dX12_table_33 : decode cX12_table 33 = .ok (.iconst 1, 1) := by decide +kernel
theorem dX12_table_34 : decode cX12_table 34 = .ok (.iload_n 1, 1) := by decide +kernel
theorem dX12_table_35 : decode cX12_table 35 = .ok (.invokestatic 275, 3) := by decide +kernel
theorem dX12_table_38 : decode cX12_table 38 = .ok (.invokestatic 45, 3) := by decide +kernel
theorem dX12_table_41 : decode cX12_table 41 = .ok (.ifCond .ne 5, 3) := by decide +kernel
theorem dX12_table_44 : decode cX12_table 44 = .ok (.iconst (-1), 1) := by decide +kernel
theorem dX12_table_45 : decode cX12_table 45 = .ok (.ireturn, 1) := by decide +kernel
theorem dX12_table_46 : decode cX12_table 46 = .ok (.aload_n 0, 1) := by decide +kernel
theorem dX12_table_47 : decode cX12_table 47 = .ok (.iload_n 1, 1) := by decide +kernel
theorem dX12_table_48 : decode cX12_table 48 = .ok (.iload_n 2, 1) := by decide +kernel
theorem dX12_table_49 : decode cX12_table 49 = .ok (.invokevirtual 345, 3) := by decide +kernel
theorem dX12_table_52 : decode cX12_table 52 = .ok (.aload_n 0, 1) := by decide +kernel
theorem dX12_table_53 : decode cX12_table 53 = .ok (.getfield 233, 3) := by decide +kernel
theorem dX12_table_56 : decode cX12_table 56 = .ok (.bipush 6, 2) := by decide +kernel
theorem dX12_table_58 : decode cX12_table 58 = .ok (.iload_n 3, 1) := by decide +kernel
theorem dX12_table_59 : decode cX12_table 59 = .ok (.imul, 1) := by decide +kernel
theorem dX12_table_60 : decode cX12_table 60 = .ok (.iload 4, 2) := by decide +kernel
theorem dX12_table_62 : decode cX12_table 62 = .ok (.iadd, 1) := by decide +kernel
theorem dX12_table_63 : decode cX12_table 63 = .ok (.bipush 7, 2) := by decide +kernel
theorem dX12_table_65 : decode cX12_table 65 = .ok (.isub, 1) := by decide +kernel
theorem dX12_table_66 : decode cX12_table 66 = .ok (.iaload, 1) := by decide +kernel
theorem dX12_table_67 : decode cX12_table 67 = .ok (.ireturn, 1) := by decide +kernel
theorem dX12_laysPolynomial_0 : decode cX12_laysPolynomial 0 = .ok (.aload_n 0, 1) := by decide +kernel
theorem dX12_laysPolynomial_1 : decode cX12_laysPolynomial 1 = .ok (.getfield 236, 3) := by decide +kernel
theorem dX12_laysPolynomial_4 : decode cX12_laysPolynomial 4 = .ok (.aload_n 0, 1) := by decide +kernel
theorem dX12_laysPolynomial_5 : decode cX12_laysPolynomial 5 = .ok (.getfield 342, 3) := by decide +kernel
theorem dX12_laysPolynomial_8 : decode cX12_laysPolynomial 8 = .ok (.iconst 1, 1) := by decide +kernel
theorem dX12_laysPolynomial_9 : decode cX12_laysPolynomial 9 = .ok (.iastore, 1) := by decide +kernel
theorem dX12_laysPolynomial_10 : decode cX12_laysPolynomial 10 = .ok (.iconst 0, 1) := by decide +kernel
theorem dX12_laysPolynomial_11 : decode cX12_laysPolynomial 11 = .ok (.istore_n 1, 1) := by decide +kernel
theorem dX12_laysPolynomial_12 : decode cX12_laysPolynomial 12 = .ok (.iload_n 1, 1) := by decide +kernel
theorem dX12_laysPolynomial_13 : decode cX12_laysPolynomial 13 = .ok (.bipush 36, 2) := by decide +kernel
theorem dX12_laysPolynomial_15 : decode cX12_laysPolynomial 15 = .ok (.if_icmp .ge 16, 3) := by decide +kernel
theorem dX12_laysPolynomial_18 : decode cX12_laysPolynomial 18 = .ok (.aload_n 0, 1) := by decide +kernel
theorem dX12_laysPolynomial_19 : decode cX12_laysPolynomial 19 = .ok (.getfield 239, 3) := by decide +kernel
theorem dX12_laysPolynomial_22 : decode cX12_laysPolynomial 22 = .ok (.iload_n 1, 1) := by decide +kernel
theorem dX12_laysPolynomial_23 : decode cX12_laysPolynomial 23 = .ok (.iconst 0, 1) := by decide +kernel
theorem dX12_laysPolynomial_24 : decode cX12_laysPolynomial 24 = .ok (.iastore, 1) := by decide +kernel
theorem dX12_laysPolynomial_25 : decode cX12_laysPolynomial 25 = .ok (.iinc 1 1, 3) := by decide +kernel
theorem dX12_laysPolynomial_28 : decode cX12_laysPolynomial 28 = .ok (.goto (-16), 3) := by decide +kernel
theorem dX12_laysPolynomial_31 : decode cX12_laysPolynomial 31 = .ok (.iconst 1, 1) := by decide +kernel
theorem dX12_laysPolynomial_32 : decode cX12_laysPolynomial 32 = .ok (.istore_n 1, 1) := by decide +kernel
theorem dX12_laysPolynomial_33 : decode cX12_laysPolynomial 33 = .ok (.iload_n 1, 1) := by decide +kernel
theorem dX12_laysPolynomial_34 : decode cX12_laysPolynomial 34 = .ok (.aload_n 0, 1) := by decide +kernel
theorem dX12_laysPolynomial_35 : decode cX12_laysPolynomial 35 = .ok (.getfield 342, 3) := by decide +kernel
theorem dX12_laysPolynomial_38 : decode cX12_laysPolynomial 38 = .ok (.if_icmp .gt 258, 3) := by decide +kernel
theorem dX12_laysPolynomial_41 : decode cX12_laysPolynomial 41 = .ok (.iconst 0, 1) := by decide +kernel
theorem dX12_laysPolynomial_42 : decode cX12_laysPolynomial 42 = .ok (.istore_n 2, 1) := by decide +kernel
theorem dX12_laysPolynomial_43 : decode cX12_laysPolynomial 43 = .ok (.iload_n 2, 1) := by decide +kernel
theorem dX12_laysPolynomial_44 : decode cX12_laysPolynomial 44 = .ok (.aload_n 0, 1) := by decide +kernel
theorem dX12_laysPolynomial_45 : decode cX12_laysPolynomial 45 = .ok (.getfield 342, 3) := by decide +kernel
theorem dX12_laysPolynomial_48 : decode cX12_laysPolynomial 48 = .ok (.if_icmp .ge 46, 3) := by decide +kernel
theorem dX12_laysPolynomial_51 : decode cX12_laysPolynomial 51 = .ok (.aload_n 0, 1) := by decide +kernel
theorem dX12_laysPolynomial_52 : decode cX12_laysPolynomial 52 = .ok (.getfield 239, 3) := by decide +kernel
theorem dX12_laysPolynomial_55 : decode cX12_laysPolynomial 55 = .ok (.bipush 7, 2) := by decide +kernel
theorem dX12_laysPolynomial_57 : decode cX12_laysPolynomial 57 = .ok (.iload_n 2, 1) := by decide +kernel
theorem dX12_laysPolynomial_58 : decode cX12_laysPolynomial 58 = .ok (.imul, 1) := by decide +kernel
theorem dX12_laysPolynomial_59 : decode cX12_laysPolynomial 59 = .ok (.aload_n 0, 1) := by decide +kernel
theorem dX12_laysPolynomial_60 : decode cX12_laysPolynomial 60 = .ok (.aload_n 0, 1) := by decide +kernel
theorem dX12_laysPolynomial_61 : decode cX12_laysPolynomial 61 = .ok (.getfield 239, 3) := by decide +kernel
theorem dX12_laysPolynomial_64 : decode cX12_laysPolynomial 64 = .ok (.bipush 7, 2) := by decide +kernel
theorem dX12_laysPolynomial_66 : decode cX12_laysPolynomial 66 = .ok (.iload_n 2, 1) := by decide +kernel
theorem dX12_laysPolynomial_67 : decode cX12_laysPolynomial 67 = .ok (.imul, 1) := by decide +kernel
theorem dX12_laysPolynomial_68 : decode cX12_laysPolynomial 68 = .ok (.iaload, 1) := by decide +kernel
theorem dX12_laysPolynomial_69 : decode cX12_laysPolynomial 69 = .ok (.aload_n 0, 1) := by decide +kernel
theorem dX12_laysPolynomial_70 : decode cX12_laysPolynomial 70 = .ok (.getfield 236, 3) := by decide +kernel
theorem dX12_laysPolynomial_73 : decode cX12_laysPolynomial 73 = .ok (.aload_n 0, 1) := by decide +kernel
theorem dX12_laysPolynomial_74 : decode cX12_laysPolynomial 74 = .ok (.getfield 342, 3) := by decide +kernel
theorem dX12_laysPolynomial_77 : decode cX12_laysPolynomial 77 = .ok (.iload_n 1, 1) := by decide +kernel
theorem dX12_laysPolynomial_78 : decode cX12_laysPolynomial 78 = .ok (.isub, 1) := by decide +kernel
theorem dX12_laysPolynomial_79 : decode cX12_laysPolynomial 79 = .ok (.iconst 1, 1) := by decide +kernel
theorem dX12_laysPolynomial_80 : decode cX12_laysPolynomial 80 = .ok (.iadd, 1) := by decide +kernel
theorem dX12_laysPolynomial_81 : decode cX12_laysPolynomial 81 = .ok (.iaload, 1) := by decide +kernel
theorem dX12_laysPolynomial_82 : decode cX12_laysPolynomial 82 = .ok (.iadd, 1) := by decide +kernel
theorem dX12_laysPolynomial_83 : decode cX12_laysPolynomial 83 = .ok (.i2l, 1) := by decide +kernel
theorem dX12_laysPolynomial_84 : decode cX12_laysPolynomial 84 = .ok (.invokevirtual 10, 3) := by decide +kernel
theorem dX12_laysPolynomial_87 : decode cX12_laysPolynomial 87 = .ok (.iastore, 1) := by decide +kernel
theorem dX12_laysPolynomial_88 : decode cX12_laysPolynomial 88 = .ok (.iinc 2 1, 3) := by decide +kernel
theorem dX12_laysPolynomial_91 : decode cX12_laysPolynomial 91 = .ok (.goto (-48), 3) := by decide +kernel
theorem dX12_laysPolynomial_94 : decode cX12_laysPolynomial 94 = .ok (.iconst 0, 1) := by decide +kernel
theorem dX12_laysPolynomial_95 : decode cX12_laysPolynomial 95 = .ok (.istore_n 2, 1) := by decide +kernel
theorem dX12_laysPolynomial_96 : decode cX12_laysPolynomial 96 = .ok (.iload_n 2, 1) := by decide +kernel
theorem dX12_laysPolynomial_97 : decode cX12_laysPolynomial 97 = .ok (.aload_n 0, 1) := by decide +kernel
theorem dX12_laysPolynomial_98 : decode cX12_laysPolynomial 98 = .ok (.getfield 342, 3) := by decide +kernel
theorem dX12_laysPolynomial_101 : decode cX12_laysPolynomial 101 = .ok (.if_icmp .ge 95, 3) := by decide +kernel
theorem dX12_laysPolynomial_104 : decode cX12_laysPolynomial 104 = .ok (.iconst 0, 1) := by decide +kernel
theorem dX12_laysPolynomial_105 : decode cX12_laysPolynomial 105 = .ok (.istore_n 3, 1) := by decide +kernel
theorem dX12_laysPolynomial_106 : decode cX12_laysPolynomial 106 = .ok (.iload_n 3, 1) := by decide +kernel
theorem dX12_laysPolynomial_107 : decode cX12_laysPolynomial 107 = .ok (.aload_n 0, 1) := by decide +kernel
theorem dX12_laysPolynomial_108 : decode cX12_laysPolynomial 108 = .ok (.getfield 342, 3) := by decide +kernel
theorem dX12_laysPolynomial_111 : decode cX12_laysPolynomial 111 = .ok (.if_icmp .ge 79, 3) := by decide +kernel
theorem dX12_laysPolynomial_114 : decode cX12_laysPolynomial 114 = .ok (.lconst 0, 1) := by decide +kernel
theorem dX12_laysPolynomial_115 : decode cX12_laysPolynomial 115 = .ok (.lstore 4, 2) := by decide +kernel
theorem dX12_laysPolynomial_117 : decode cX12_laysPolynomial 117 = .ok (.iconst 0, 1) := by decide +kernel
theorem dX12_laysPolynomial_118 : decode cX12_laysPolynomial 118 = .ok (.istore 6, 2) := by decide +kernel
theorem dX12_laysPolynomial_120 : decode cX12_laysPolynomial 120 = .ok (.iload 6, 2) := by decide +kernel
theorem dX12_laysPolynomial_122 : decode cX12_laysPolynomial 122 = .ok (.aload_n 0, 1) := by decide +kernel
theorem dX12_laysPolynomial_123 : decode cX12_laysPolynomial 123 = .ok (.getfield 342, 3) := by decide +kernel
theorem dX12_laysPolynomial_126 : decode cX12_laysPolynomial 126 = .ok (.if_icmp .ge 41, 3) := by decide +kernel
theorem dX12_laysPolynomial_129 : decode cX12_laysPolynomial 129 = .ok (.lload 4, 2) := by decide +kernel
theorem dX12_laysPolynomial_131 : decode cX12_laysPolynomial 131 = .ok (.aload_n 0, 1) := by decide +kernel
theorem dX12_laysPolynomial_132 : decode cX12_laysPolynomial 132 = .ok (.getfield 233, 3) := by decide +kernel
theorem dX12_laysPolynomial_135 : decode cX12_laysPolynomial 135 = .ok (.bipush 6, 2) := by decide +kernel
theorem dX12_laysPolynomial_137 : decode cX12_laysPolynomial 137 = .ok (.iload_n 2, 1) := by decide +kernel
theorem dX12_laysPolynomial_138 : decode cX12_laysPolynomial 138 = .ok (.imul, 1) := by decide +kernel
theorem dX12_laysPolynomial_139 : decode cX12_laysPolynomial 139 = .ok (.iload 6, 2) := by decide +kernel
theorem dX12_laysPolynomial_141 : decode cX12_laysPolynomial 141 = .ok (.iadd, 1) := by decide +kernel
theorem dX12_laysPolynomial_142 : decode cX12_laysPolynomial 142 = .ok (.iaload, 1) := by decide +kernel
theorem dX12_laysPolynomial_143 : decode cX12_laysPolynomial 143 = .ok (.i2l, 1) := by decide +kernel
theorem dX12_laysPolynomial_144 : decode cX12_laysPolynomial 144 = .ok (.aload_n 0, 1) := by decide +kernel
theorem dX12_laysPolynomial_145 : decode cX12_laysPolynomial 145 = .ok (.getfield 239, 3) := by decide +kernel
theorem dX12_laysPolynomial_148 : decode cX12_laysPolynomial 148 = .ok (.bipush 6, 2) := by decide +kernel
theorem dX12_laysPolynomial_150 : decode cX12_laysPolynomial 150 = .ok (.iload 6, 2) := by decide +kernel
theorem dX12_laysPolynomial_152 : decode cX12_laysPolynomial 152 = .ok (.imul, 1) := by decide +kernel
theorem dX12_laysPolynomial_153 : decode cX12_laysPolynomial 153 = .ok (.iload_n 3, 1) := by decide +kernel
theorem dX12_laysPolynomial_154 : decode cX12_laysPolynomial 154 = .ok (.iadd, 1) := by decide +kernel
theorem dX12_laysPolynomial_155 : decode cX12_laysPolynomial 155 = .ok (.iaload, 1) := by decide +kernel
theorem dX12_laysPolynomial_156 : decode cX12_laysPolynomial 156 = .ok (.i2l, 1) := by decide +kernel
theorem dX12_laysPolynomial_157 : decode cX12_laysPolynomial 157 = .ok (.lmul, 1) := by decide +kernel
theorem dX12_laysPolynomial_158 : decode cX12_laysPolynomial 158 = .ok (.ladd, 1) := by decide +kernel
theorem dX12_laysPolynomial_159 : decode cX12_laysPolynomial 159 = .ok (.lstore 4, 2) := by decide +kernel
theorem dX12_laysPolynomial_161 : decode cX12_laysPolynomial 161 = .ok (.iinc 6 1, 3) := by decide +kernel
theorem dX12_laysPolynomial_164 : decode cX12_laysPolynomial 164 = .ok (.goto (-44), 3) := by decide +kernel
theorem dX12_laysPolynomial_167 : decode cX12_laysPolynomial 167 = .ok (.aload_n 0, 1) := by decide +kernel
theorem dX12_laysPolynomial_168 : decode cX12_laysPolynomial 168 = .ok (.getfield 241, 3) := by decide +kernel
theorem dX12_laysPolynomial_171 : decode cX12_laysPolynomial 171 = .ok (.bipush 6, 2) := by decide +kernel
theorem dX12_laysPolynomial_173 : decode cX12_laysPolynomial 173 = .ok (.iload_n 2, 1) := by decide +kernel
theorem dX12_laysPolynomial_174 : decode cX12_laysPolynomial 174 = .ok (.imul, 1) := by decide +kernel
theorem dX12_laysPolynomial_175 : decode cX12_laysPolynomial 175 = .ok (.iload_n 3, 1) := by decide +kernel
theorem dX12_laysPolynomial_176 : decode cX12_laysPolynomial 176 = .ok (.iadd, 1) := by decide +kernel
theorem dX12_laysPolynomial_177 : decode cX12_laysPolynomial 177 = .ok (.aload_n 0, 1) := by decide +kernel
theorem dX12_laysPolynomial_178 : decode cX12_laysPolynomial 178 = .ok (.lload 4, 2) := by decide +kernel
theorem dX12_laysPolynomial_180 : decode cX12_laysPolynomial 180 = .ok (.invokevirtual 10, 3) := by decide +kernel
theorem dX12_laysPolynomial_183 : decode cX12_laysPolynomial 183 = .ok (.iastore, 1) := by decide +kernel
theorem dX12_laysPolynomial_184 : decode cX12_laysPolynomial 184 = .ok (.iinc 3 1, 3) := by decide +kernel
theorem dX12_laysPolynomial_187 : decode cX12_laysPolynomial 187 = .ok (.goto (-81), 3) := by decide +kernel
theorem dX12_laysPolynomial_190 : decode cX12_laysPolynomial 190 = .ok (.iinc 2 1, 3) := by decide +kernel
theorem dX12_laysPolynomial_193 : decode cX12_laysPolynomial 193 = .ok (.goto (-97), 3) := by decide +kernel
theorem dX12_laysPolynomial_196 : decode cX12_laysPolynomial 196 = .ok (.lconst 0, 1) := by decide +kernel
theorem dX12_laysPolynomial_197 : decode cX12_laysPolynomial 197 = .ok (.lstore_n 2, 1) := by decide +kernel
theorem dX12_laysPolynomial_198 : decode cX12_laysPolynomial 198 = .ok (.iconst 0, 1) := by decide +kernel
theorem dX12_laysPolynomial_199 : decode cX12_laysPolynomial 199 = .ok (.istore 4, 2) := by decide +kernel
theorem dX12_laysPolynomial_201 : decode cX12_laysPolynomial 201 = .ok (.iload 4, 2) := by decide +kernel
theorem dX12_laysPolynomial_203 : decode cX12_laysPolynomial 203 = .ok (.bipush 36, 2) := by decide +kernel
theorem dX12_laysPolynomial_205 : decode cX12_laysPolynomial 205 = .ok (.if_icmp .ge 23, 3) := by decide +kernel
theorem dX12_laysPolynomial_208 : decode cX12_laysPolynomial 208 = .ok (.aload_n 0, 1) := by decide +kernel
theorem dX12_laysPolynomial_209 : decode cX12_laysPolynomial 209 = .ok (.getfield 239, 3) := by decide +kernel
theorem dX12_laysPolynomial_212 : decode cX12_laysPolynomial 212 = .ok (.iload 4, 2) := by decide +kernel
theorem dX12_laysPolynomial_214 : decode cX12_laysPolynomial 214 = .ok (.aload_n 0, 1) := by decide +kernel
theorem dX12_laysPolynomial_215 : decode cX12_laysPolynomial 215 = .ok (.getfield 241, 3) := by decide +kernel
theorem dX12_laysPolynomial_218 : decode cX12_laysPolynomial 218 = .ok (.iload 4, 2) := by decide +kernel
theorem dX12_laysPolynomial_220 : decode cX12_laysPolynomial 220 = .ok (.iaload, 1) := by decide +kernel
theorem dX12_laysPolynomial_221 : decode cX12_laysPolynomial 221 = .ok (.iastore, 1) := by decide +kernel
theorem dX12_laysPolynomial_222 : decode cX12_laysPolynomial 222 = .ok (.iinc 4 1, 3) := by decide +kernel
theorem dX12_laysPolynomial_225 : decode cX12_laysPolynomial 225 = .ok (.goto (-24), 3) := by decide +kernel
theorem dX12_laysPolynomial_228 : decode cX12_laysPolynomial 228 = .ok (.iconst 0, 1) := by decide +kernel
theorem dX12_laysPolynomial_229 : decode cX12_laysPolynomial 229 = .ok (.istore 4, 2) := by decide +kernel
theorem dX12_laysPolynomial_231 : decode cX12_laysPolynomial 231 = .ok (.iload 4, 2) := by decide +kernel
theorem dX12_laysPolynomial_233 : decode cX12_laysPolynomial 233 = .ok (.aload_n 0, 1) := by decide +kernel
theorem dX12_laysPolynomial_234 : decode cX12_laysPolynomial 234 = .ok (.getfield 342, 3) := by decide +kernel
theorem dX12_laysPolynomial_237 : decode cX12_laysPolynomial 237 = .ok (.if_icmp .ge 23, 3) := by decide +kernel
theorem dX12_laysPolynomial_240 : decode cX12_laysPolynomial 240 = .ok (.lload_n 2, 1) := by decide +kernel
theorem dX12_laysPolynomial_241 : decode cX12_laysPolynomial 241 = .ok (.aload_n 0, 1) := by decide +kernel
theorem dX12_laysPolynomial_242 : decode cX12_laysPolynomial 242 = .ok (.getfield 239, 3) := by decide +kernel
theorem dX12_laysPolynomial_245 : decode cX12_laysPolynomial 245 = .ok (.bipush 7, 2) := by decide +kernel
theorem dX12_laysPolynomial_247 : decode cX12_laysPolynomial 247 = .ok (.iload 4, 2) := by decide +kernel
theorem dX12_laysPolynomial_249 : decode cX12_laysPolynomial 249 = .ok (.imul, 1) := by decide +kernel
theorem dX12_laysPolynomial_250 : decode cX12_laysPolynomial 250 = .ok (.iaload, 1) := by decide +kernel
theorem dX12_laysPolynomial_251 : decode cX12_laysPolynomial 251 = .ok (.i2l, 1) := by decide +kernel
theorem dX12_laysPolynomial_252 : decode cX12_laysPolynomial 252 = .ok (.ladd, 1) := by decide +kernel
theorem dX12_laysPolynomial_253 : decode cX12_laysPolynomial 253 = .ok (.lstore_n 2, 1) := by decide +kernel
theorem dX12_laysPolynomial_254 : decode cX12_laysPolynomial 254 = .ok (.iinc 4 1, 3) := by decide +kernel
theorem dX12_laysPolynomial_257 : decode cX12_laysPolynomial 257 = .ok (.goto (-26), 3) := by decide +kernel
theorem dX12_laysPolynomial_260 : decode cX12_laysPolynomial 260 = .ok (.aload_n 0, 1) := by decide +kernel
theorem dX12_laysPolynomial_261 : decode cX12_laysPolynomial 261 = .ok (.getfield 236, 3) := by decide +kernel
theorem dX12_laysPolynomial_264 : decode cX12_laysPolynomial 264 = .ok (.aload_n 0, 1) := by decide +kernel
theorem dX12_laysPolynomial_265 : decode cX12_laysPolynomial 265 = .ok (.getfield 342, 3) := by decide +kernel
theorem dX12_laysPolynomial_268 : decode cX12_laysPolynomial 268 = .ok (.iload_n 1, 1) := by decide +kernel
theorem dX12_laysPolynomial_269 : decode cX12_laysPolynomial 269 = .ok (.isub, 1) := by decide +kernel
theorem dX12_laysPolynomial_270 : decode cX12_laysPolynomial 270 = .ok (.aload_n 0, 1) := by decide +kernel
theorem dX12_laysPolynomial_271 : decode cX12_laysPolynomial 271 = .ok (.lload_n 2, 1) := by decide +kernel
theorem dX12_laysPolynomial_272 : decode cX12_laysPolynomial 272 = .ok (.lneg, 1) := by decide +kernel
theorem dX12_laysPolynomial_273 : decode cX12_laysPolynomial 273 = .ok (.aload_n 0, 1) := by decide +kernel
theorem dX12_laysPolynomial_274 : decode cX12_laysPolynomial 274 = .ok (.getfield 7, 3) := by decide +kernel
theorem dX12_laysPolynomial_277 : decode cX12_laysPolynomial 277 = .ok (.i2l, 1) := by decide +kernel
theorem dX12_laysPolynomial_278 : decode cX12_laysPolynomial 278 = .ok (.lrem, 1) := by decide +kernel
theorem dX12_laysPolynomial_279 : decode cX12_laysPolynomial 279 = .ok (.aload_n 0, 1) := by decide +kernel
theorem dX12_laysPolynomial_280 : decode cX12_laysPolynomial 280 = .ok (.iload_n 1, 1) := by decide +kernel
theorem dX12_laysPolynomial_281 : decode cX12_laysPolynomial 281 = .ok (.invokevirtual 41, 3) := by decide +kernel
theorem dX12_laysPolynomial_284 : decode cX12_laysPolynomial 284 = .ok (.i2l, 1) := by decide +kernel
theorem dX12_laysPolynomial_285 : decode cX12_laysPolynomial 285 = .ok (.lmul, 1) := by decide +kernel
theorem dX12_laysPolynomial_286 : decode cX12_laysPolynomial 286 = .ok (.invokevirtual 10, 3) := by decide +kernel
theorem dX12_laysPolynomial_289 : decode cX12_laysPolynomial 289 = .ok (.iastore, 1) := by decide +kernel
theorem dX12_laysPolynomial_290 : decode cX12_laysPolynomial 290 = .ok (.iinc 1 1, 3) := by decide +kernel
theorem dX12_laysPolynomial_293 : decode cX12_laysPolynomial 293 = .ok (.goto (-260), 3) := by decide +kernel
theorem dX12_laysPolynomial_296 : decode cX12_laysPolynomial 296 = .ok (.return_, 1) := by decide +kernel
theorem dX12_polynomial_0 : decode cX12_polynomial 0 = .ok (.aload_n 0, 1) := by decide +kernel
theorem dX12_polynomial_1 : decode cX12_polynomial 1 = .ok (.iconst 0, 1) := by decide +kernel
theorem dX12_polynomial_2 : decode cX12_polynomial 2 = .ok (.putfield 1, 3) := by decide +kernel
theorem dX12_polynomial_5 : decode cX12_polynomial 5 = .ok (.iload_n 1, 1) := by decide +kernel
theorem dX12_polynomial_6 : decode cX12_polynomial 6 = .ok (.invokestatic 272, 3) := by decide +kernel
theorem dX12_polynomial_9 : decode cX12_polynomial 9 = .ok (.ifCond .eq 22, 3) := by decide +kernel
theorem dX12_polynomial_12 : decode cX12_polynomial 12 = .ok (.iload_n 2, 1) := by decide +kernel
theorem dX12_polynomial_13 : decode cX12_polynomial 13 = .ok (.invokestatic 332, 3) := by decide +kernel
theorem dX12_polynomial_16 : decode cX12_polynomial 16 = .ok (.ifCond .eq 15, 3) := by decide +kernel
theorem dX12_polynomial_19 : decode cX12_polynomial 19 = .ok (.iload_n 3, 1) := by decide +kernel
theorem dX12_polynomial_20 : decode cX12_polynomial 20 = .ok (.iconst 0, 1) := by decide +kernel
theorem dX12_polynomial_21 : decode cX12_polynomial 21 = .ok (.iload_n 1, 1) := by decide +kernel
theorem dX12_polynomial_22 : decode cX12_polynomial 22 = .ok (.invokestatic 275, 3) := by decide +kernel
theorem dX12_polynomial_25 : decode cX12_polynomial 25 = .ok (.invokestatic 45, 3) := by decide +kernel
theorem dX12_polynomial_28 : decode cX12_polynomial 28 = .ok (.ifCond .ne 5, 3) := by decide +kernel
theorem dX12_polynomial_31 : decode cX12_polynomial 31 = .ok (.iconst (-1), 1) := by decide +kernel
theorem dX12_polynomial_32 : decode cX12_polynomial 32 = .ok (.ireturn, 1) := by decide +kernel
theorem dX12_polynomial_33 : decode cX12_polynomial 33 = .ok (.aload_n 0, 1) := by decide +kernel
theorem dX12_polynomial_34 : decode cX12_polynomial 34 = .ok (.iload_n 1, 1) := by decide +kernel
theorem dX12_polynomial_35 : decode cX12_polynomial 35 = .ok (.iload_n 2, 1) := by decide +kernel
theorem dX12_polynomial_36 : decode cX12_polynomial 36 = .ok (.invokevirtual 345, 3) := by decide +kernel
theorem dX12_polynomial_39 : decode cX12_polynomial 39 = .ok (.aload_n 0, 1) := by decide +kernel
theorem dX12_polynomial_40 : decode cX12_polynomial 40 = .ok (.invokevirtual 349, 3) := by decide +kernel
theorem dX12_polynomial_43 : decode cX12_polynomial 43 = .ok (.aload_n 0, 1) := by decide +kernel
theorem dX12_polynomial_44 : decode cX12_polynomial 44 = .ok (.getfield 236, 3) := by decide +kernel
theorem dX12_polynomial_47 : decode cX12_polynomial 47 = .ok (.iload_n 3, 1) := by decide +kernel
theorem dX12_polynomial_48 : decode cX12_polynomial 48 = .ok (.iaload, 1) := by decide +kernel
theorem dX12_polynomial_49 : decode cX12_polynomial 49 = .ok (.ireturn, 1) := by decide +kernel
theorem dX12_laysRoots_0 : decode cX12_laysRoots 0 = .ok (.aload_n 0, 1) := by decide +kernel
theorem dX12_laysRoots_1 : decode cX12_laysRoots 1 = .ok (.iload_n 1, 1) := by decide +kernel
theorem dX12_laysRoots_2 : decode cX12_laysRoots 2 = .ok (.iconst 2, 1) := by decide +kernel
theorem dX12_laysRoots_3 : decode cX12_laysRoots 3 = .ok (.invokevirtual 345, 3) := by decide +kernel
theorem dX12_laysRoots_6 : decode cX12_laysRoots 6 = .ok (.aload_n 0, 1) := by decide +kernel
theorem dX12_laysRoots_7 : decode cX12_laysRoots 7 = .ok (.invokevirtual 349, 3) := by decide +kernel
theorem dX12_laysRoots_10 : decode cX12_laysRoots 10 = .ok (.aload_n 0, 1) := by decide +kernel
theorem dX12_laysRoots_11 : decode cX12_laysRoots 11 = .ok (.iconst 0, 1) := by decide +kernel
theorem dX12_laysRoots_12 : decode cX12_laysRoots 12 = .ok (.putfield 352, 3) := by decide +kernel
theorem dX12_laysRoots_15 : decode cX12_laysRoots 15 = .ok (.iconst 0, 1) := by decide +kernel
theorem dX12_laysRoots_16 : decode cX12_laysRoots 16 = .ok (.istore_n 2, 1) := by decide +kernel
theorem dX12_laysRoots_17 : decode cX12_laysRoots 17 = .ok (.iload_n 2, 1) := by decide +kernel
theorem dX12_laysRoots_18 : decode cX12_laysRoots 18 = .ok (.aload_n 0, 1) := by decide +kernel
theorem dX12_laysRoots_19 : decode cX12_laysRoots 19 = .ok (.getfield 7, 3) := by decide +kernel
theorem dX12_laysRoots_22 : decode cX12_laysRoots 22 = .ok (.if_icmp .ge 81, 3) := by decide +kernel
theorem dX12_laysRoots_25 : decode cX12_laysRoots 25 = .ok (.aload_n 0, 1) := by decide +kernel
theorem dX12_laysRoots_26 : decode cX12_laysRoots 26 = .ok (.getfield 342, 3) := by decide +kernel
theorem dX12_laysRoots_29 : decode cX12_laysRoots 29 = .ok (.ifCond .le 74, 3) := by decide +kernel
theorem dX12_laysRoots_32 : decode cX12_laysRoots 32 = .ok (.lconst 0, 1) := by decide +kernel
theorem dX12_laysRoots_33 : decode cX12_laysRoots 33 = .ok (.lstore_n 3, 1) := by decide +kernel
theorem dX12_laysRoots_34 : decode cX12_laysRoots 34 = .ok (.aload_n 0, 1) := by decide +kernel
theorem dX12_laysRoots_35 : decode cX12_laysRoots 35 = .ok (.getfield 342, 3) := by decide +kernel
theorem dX12_laysRoots_38 : decode cX12_laysRoots 38 = .ok (.istore 5, 2) := by decide +kernel
theorem dX12_laysRoots_40 : decode cX12_laysRoots 40 = .ok (.iload 5, 2) := by decide +kernel
theorem dX12_laysRoots_42 : decode cX12_laysRoots 42 = .ok (.ifCond .lt 29, 3) := by decide +kernel
theorem dX12_laysRoots_45 : decode cX12_laysRoots 45 = .ok (.lload_n 3, 1) := by decide +kernel
theorem dX12_laysRoots_46 : decode cX12_laysRoots 46 = .ok (.iload_n 2, 1) := by decide +kernel
theorem dX12_laysRoots_47 : decode cX12_laysRoots 47 = .ok (.i2l, 1) := by decide +kernel
theorem dX12_laysRoots_48 : decode cX12_laysRoots 48 = .ok (.lmul, 1) := by decide +kernel
theorem dX12_laysRoots_49 : decode cX12_laysRoots 49 = .ok (.aload_n 0, 1) := by decide +kernel
theorem dX12_laysRoots_50 : decode cX12_laysRoots 50 = .ok (.getfield 236, 3) := by decide +kernel
theorem dX12_laysRoots_53 : decode cX12_laysRoots 53 = .ok (.iload 5, 2) := by decide +kernel
theorem dX12_laysRoots_55 : decode cX12_laysRoots 55 = .ok (.iaload, 1) := by decide +kernel
theorem dX12_laysRoots_56 : decode cX12_laysRoots 56 = .ok (.i2l, 1) := by decide +kernel
theorem dX12_laysRoots_57 : decode cX12_laysRoots 57 = .ok (.ladd, 1) := by decide +kernel
theorem dX12_laysRoots_58 : decode cX12_laysRoots 58 = .ok (.aload_n 0, 1) := by decide +kernel
theorem dX12_laysRoots_59 : decode cX12_laysRoots 59 = .ok (.getfield 7, 3) := by decide +kernel
theorem dX12_laysRoots_62 : decode cX12_laysRoots 62 = .ok (.i2l, 1) := by decide +kernel
theorem dX12_laysRoots_63 : decode cX12_laysRoots 63 = .ok (.lrem, 1) := by decide +kernel
theorem dX12_laysRoots_64 : decode cX12_laysRoots 64 = .ok (.lstore_n 3, 1) := by decide +kernel
theorem dX12_laysRoots_65 : decode cX12_laysRoots 65 = .ok (.iinc 5 (-1), 3) := by decide +kernel
theorem dX12_laysRoots_68 : decode cX12_laysRoots 68 = .ok (.goto (-28), 3) := by decide +kernel
theorem dX12_laysRoots_71 : decode cX12_laysRoots 71 = .ok (.lload_n 3, 1) := by decide +kernel
theorem dX12_laysRoots_72 : decode cX12_laysRoots 72 = .ok (.lconst 0, 1) := by decide +kernel
theorem dX12_laysRoots_73 : decode cX12_laysRoots 73 = .ok (.lcmp, 1) := by decide +kernel
theorem dX12_laysRoots_74 : decode cX12_laysRoots 74 = .ok (.ifCond .ne 23, 3) := by decide +kernel
theorem dX12_laysRoots_77 : decode cX12_laysRoots 77 = .ok (.aload_n 0, 1) := by decide +kernel
theorem dX12_laysRoots_78 : decode cX12_laysRoots 78 = .ok (.getfield 244, 3) := by decide +kernel
theorem dX12_laysRoots_81 : decode cX12_laysRoots 81 = .ok (.aload_n 0, 1) := by decide +kernel
theorem dX12_laysRoots_82 : decode cX12_laysRoots 82 = .ok (.getfield 352, 3) := by decide +kernel
theorem dX12_laysRoots_85 : decode cX12_laysRoots 85 = .ok (.iload_n 2, 1) := by decide +kernel
theorem dX12_laysRoots_86 : decode cX12_laysRoots 86 = .ok (.iastore, 1) := by decide +kernel
theorem dX12_laysRoots_87 : decode cX12_laysRoots 87 = .ok (.aload_n 0, 1) := by decide +kernel
theorem dX12_laysRoots_88 : decode cX12_laysRoots 88 = .ok (.dup, 1) := by decide +kernel
theorem dX12_laysRoots_89 : decode cX12_laysRoots 89 = .ok (.getfield 352, 3) := by decide +kernel
theorem dX12_laysRoots_92 : decode cX12_laysRoots 92 = .ok (.iconst 1, 1) := by decide +kernel
theorem dX12_laysRoots_93 : decode cX12_laysRoots 93 = .ok (.iadd, 1) := by decide +kernel
theorem dX12_laysRoots_94 : decode cX12_laysRoots 94 = .ok (.putfield 352, 3) := by decide +kernel
theorem dX12_laysRoots_97 : decode cX12_laysRoots 97 = .ok (.iinc 2 1, 3) := by decide +kernel
theorem dX12_laysRoots_100 : decode cX12_laysRoots 100 = .ok (.goto (-83), 3) := by decide +kernel
theorem dX12_laysRoots_103 : decode cX12_laysRoots 103 = .ok (.return_, 1) := by decide +kernel
theorem dX12_root_0 : decode cX12_root 0 = .ok (.aload_n 0, 1) := by decide +kernel
theorem dX12_root_1 : decode cX12_root 1 = .ok (.iconst 0, 1) := by decide +kernel
theorem dX12_root_2 : decode cX12_root 2 = .ok (.putfield 1, 3) := by decide +kernel
theorem dX12_root_5 : decode cX12_root 5 = .ok (.iload_n 1, 1) := by decide +kernel
theorem dX12_root_6 : decode cX12_root 6 = .ok (.invokestatic 272, 3) := by decide +kernel
theorem dX12_root_9 : decode cX12_root 9 = .ok (.ifCond .ne 5, 3) := by decide +kernel
theorem dX12_root_12 : decode cX12_root 12 = .ok (.iconst (-1), 1) := by decide +kernel
theorem dX12_root_13 : decode cX12_root 13 = .ok (.ireturn, 1) := by decide +kernel
theorem dX12_root_14 : decode cX12_root 14 = .ok (.aload_n 0, 1) := by decide +kernel
theorem dX12_root_15 : decode cX12_root 15 = .ok (.iload_n 1, 1) := by decide +kernel
theorem dX12_root_16 : decode cX12_root 16 = .ok (.invokevirtual 355, 3) := by decide +kernel
theorem dX12_root_19 : decode cX12_root 19 = .ok (.iload_n 2, 1) := by decide +kernel
theorem dX12_root_20 : decode cX12_root 20 = .ok (.iconst (-1), 1) := by decide +kernel
theorem dX12_root_21 : decode cX12_root 21 = .ok (.if_icmp .ne 10, 3) := by decide +kernel
theorem dX12_root_24 : decode cX12_root 24 = .ok (.aload_n 0, 1) := by decide +kernel
theorem dX12_root_25 : decode cX12_root 25 = .ok (.getfield 352, 3) := by decide +kernel
theorem dX12_root_28 : decode cX12_root 28 = .ok (.goto 27, 3) := by decide +kernel
theorem dX12_root_31 : decode cX12_root 31 = .ok (.iload_n 2, 1) := by decide +kernel
theorem dX12_root_32 : decode cX12_root 32 = .ok (.iconst 0, 1) := by decide +kernel
theorem dX12_root_33 : decode cX12_root 33 = .ok (.aload_n 0, 1) := by decide +kernel
theorem dX12_root_34 : decode cX12_root 34 = .ok (.getfield 352, 3) := by decide +kernel
theorem dX12_root_37 : decode cX12_root 37 = .ok (.iconst 1, 1) := by decide +kernel
theorem dX12_root_38 : decode cX12_root 38 = .ok (.isub, 1) := by decide +kernel
theorem dX12_root_39 : decode cX12_root 39 = .ok (.invokestatic 45, 3) := by decide +kernel
theorem dX12_root_42 : decode cX12_root 42 = .ok (.ifCond .eq 12, 3) := by decide +kernel
theorem dX12_root_45 : decode cX12_root 45 = .ok (.aload_n 0, 1) := by decide +kernel
theorem dX12_root_46 : decode cX12_root 46 = .ok (.getfield 244, 3) := by decide +kernel
theorem dX12_root_49 : decode cX12_root 49 = .ok (.iload_n 2, 1) := by decide +kernel
theorem dX12_root_50 : decode cX12_root 50 = .ok (.iaload, 1) := by decide +kernel
theorem dX12_root_51 : decode cX12_root 51 = .ok (.goto 4, 3) := by decide +kernel
theorem dX12_root_54 : decode cX12_root 54 = .ok (.iconst (-1), 1) := by decide +kernel
theorem dX12_root_55 : decode cX12_root 55 = .ok (.ireturn, 1) := by decide +kernel
theorem dX12_solves_0 : decode cX12_solves 0 = .ok (.iconst 0, 1) := by decide +kernel
theorem dX12_solves_1 : decode cX12_solves 1 = .ok (.istore_n 2, 1) := by decide +kernel
theorem dX12_solves_2 : decode cX12_solves 2 = .ok (.iload_n 2, 1) := by decide +kernel
theorem dX12_solves_3 : decode cX12_solves 3 = .ok (.aload_n 0, 1) := by decide +kernel
theorem dX12_solves_4 : decode cX12_solves 4 = .ok (.getfield 342, 3) := by decide +kernel
theorem dX12_solves_7 : decode cX12_solves 7 = .ok (.if_icmp .ge 63, 3) := by decide +kernel
theorem dX12_solves_10 : decode cX12_solves 10 = .ok (.iconst 0, 1) := by decide +kernel
theorem dX12_solves_11 : decode cX12_solves 11 = .ok (.istore_n 3, 1) := by decide +kernel
theorem dX12_solves_12 : decode cX12_solves 12 = .ok (.iload_n 3, 1) := by decide +kernel
theorem dX12_solves_13 : decode cX12_solves 13 = .ok (.aload_n 0, 1) := by decide +kernel
theorem dX12_solves_14 : decode cX12_solves 14 = .ok (.getfield 342, 3) := by decide +kernel
theorem dX12_solves_17 : decode cX12_solves 17 = .ok (.if_icmp .ge 47, 3) := by decide +kernel
theorem dX12_solves_20 : decode cX12_solves 20 = .ok (.aload_n 0, 1) := by decide +kernel
theorem dX12_solves_21 : decode cX12_solves 21 = .ok (.getfield 247, 3) := by decide +kernel
theorem dX12_solves_24 : decode cX12_solves 24 = .ok (.bipush 6, 2) := by decide +kernel
theorem dX12_solves_26 : decode cX12_solves 26 = .ok (.iload_n 2, 1) := by decide +kernel
theorem dX12_solves_27 : decode cX12_solves 27 = .ok (.imul, 1) := by decide +kernel
theorem dX12_solves_28 : decode cX12_solves 28 = .ok (.iload_n 3, 1) := by decide +kernel
theorem dX12_solves_29 : decode cX12_solves 29 = .ok (.iadd, 1) := by decide +kernel
theorem dX12_solves_30 : decode cX12_solves 30 = .ok (.aload_n 0, 1) := by decide +kernel
theorem dX12_solves_31 : decode cX12_solves 31 = .ok (.aload_n 0, 1) := by decide +kernel
theorem dX12_solves_32 : decode cX12_solves 32 = .ok (.getfield 233, 3) := by decide +kernel
theorem dX12_solves_35 : decode cX12_solves 35 = .ok (.bipush 6, 2) := by decide +kernel
theorem dX12_solves_37 : decode cX12_solves 37 = .ok (.iload_n 3, 1) := by decide +kernel
theorem dX12_solves_38 : decode cX12_solves 38 = .ok (.imul, 1) := by decide +kernel
theorem dX12_solves_39 : decode cX12_solves 39 = .ok (.iload_n 2, 1) := by decide +kernel
theorem dX12_solves_40 : decode cX12_solves 40 = .ok (.iadd, 1) := by decide +kernel
theorem dX12_solves_41 : decode cX12_solves 41 = .ok (.iaload, 1) := by decide +kernel
theorem dX12_solves_42 : decode cX12_solves 42 = .ok (.iload_n 3, 1) := by decide +kernel
theorem dX12_solves_43 : decode cX12_solves 43 = .ok (.iload_n 2, 1) := by decide +kernel
theorem dX12_solves_44 : decode cX12_solves 44 = .ok (.if_icmp .ne 7, 3) := by decide +kernel
theorem dX12_solves_47 : decode cX12_solves 47 = .ok (.iload_n 1, 1) := by decide +kernel
theorem dX12_solves_48 : decode cX12_solves 48 = .ok (.goto 4, 3) := by decide +kernel
theorem dX12_solves_51 : decode cX12_solves 51 = .ok (.iconst 0, 1) := by decide +kernel
theorem dX12_solves_52 : decode cX12_solves 52 = .ok (.isub, 1) := by decide +kernel
theorem dX12_solves_53 : decode cX12_solves 53 = .ok (.i2l, 1) := by decide +kernel
theorem dX12_solves_54 : decode cX12_solves 54 = .ok (.invokevirtual 10, 3) := by decide +kernel
theorem dX12_solves_57 : decode cX12_solves 57 = .ok (.iastore, 1) := by decide +kernel
theorem dX12_solves_58 : decode cX12_solves 58 = .ok (.iinc 3 1, 3) := by decide +kernel
theorem dX12_solves_61 : decode cX12_solves 61 = .ok (.goto (-49), 3) := by decide +kernel
theorem dX12_solves_64 : decode cX12_solves 64 = .ok (.iinc 2 1, 3) := by decide +kernel
theorem dX12_solves_67 : decode cX12_solves 67 = .ok (.goto (-65), 3) := by decide +kernel
theorem dX12_solves_70 : decode cX12_solves 70 = .ok (.iconst 0, 1) := by decide +kernel
theorem dX12_solves_71 : decode cX12_solves 71 = .ok (.istore_n 2, 1) := by decide +kernel
theorem dX12_solves_72 : decode cX12_solves 72 = .ok (.iconst 1, 1) := by decide +kernel
theorem dX12_solves_73 : decode cX12_solves 73 = .ok (.istore_n 3, 1) := by decide +kernel
theorem dX12_solves_74 : decode cX12_solves 74 = .ok (.iload_n 3, 1) := by decide +kernel
theorem dX12_solves_75 : decode cX12_solves 75 = .ok (.aload_n 0, 1) := by decide +kernel
theorem dX12_solves_76 : decode cX12_solves 76 = .ok (.getfield 342, 3) := by decide +kernel
theorem dX12_solves_79 : decode cX12_solves 79 = .ok (.if_icmp .ge 64, 3) := by decide +kernel
theorem dX12_solves_82 : decode cX12_solves 82 = .ok (.iload_n 2, 1) := by decide +kernel
theorem dX12_solves_83 : decode cX12_solves 83 = .ok (.istore 4, 2) := by decide +kernel
theorem dX12_solves_85 : decode cX12_solves 85 = .ok (.iload 4, 2) := by decide +kernel
theorem dX12_solves_87 : decode cX12_solves 87 = .ok (.aload_n 0, 1) := by decide +kernel
theorem dX12_solves_88 : decode cX12_solves 88 = .ok (.getfield 342, 3) := by decide +kernel
theorem dX12_solves_91 : decode cX12_solves 91 = .ok (.if_icmp .ge 24, 3) := by decide +kernel
theorem dX12_solves_94 : decode cX12_solves 94 = .ok (.aload_n 0, 1) := by decide +kernel
theorem dX12_solves_95 : decode cX12_solves 95 = .ok (.getfield 247, 3) := by decide +kernel
theorem dX12_solves_98 : decode cX12_solves 98 = .ok (.bipush 6, 2) := by decide +kernel
theorem dX12_solves_100 : decode cX12_solves 100 = .ok (.iload 4, 2) := by decide +kernel
theorem dX12_solves_102 : decode cX12_solves 102 = .ok (.imul, 1) := by decide +kernel
theorem dX12_solves_103 : decode cX12_solves 103 = .ok (.iload_n 3, 1) := by decide +kernel
theorem dX12_solves_104 : decode cX12_solves 104 = .ok (.iadd, 1) := by decide +kernel
theorem dX12_solves_105 : decode cX12_solves 105 = .ok (.iaload, 1) := by decide +kernel
theorem dX12_solves_106 : decode cX12_solves 106 = .ok (.ifCond .ne 9, 3) := by decide +kernel
theorem dX12_solves_109 : decode cX12_solves 109 = .ok (.iinc 4 1, 3) := by decide +kernel
theorem dX12_solves_112 : decode cX12_solves 112 = .ok (.goto (-27), 3) := by decide +kernel
theorem dX12_solves_115 : decode cX12_solves 115 = .ok (.iload 4, 2) := by decide +kernel
theorem dX12_solves_117 : decode cX12_solves 117 = .ok (.aload_n 0, 1) := by decide +kernel
theorem dX12_solves_118 : decode cX12_solves 118 = .ok (.getfield 342, 3) := by decide +kernel
theorem dX12_solves_121 : decode cX12_solves 121 = .ok (.if_icmp .ne 5, 3) := by decide +kernel
theorem dX12_solves_124 : decode cX12_solves 124 = .ok (.iconst 0, 1) := by decide +kernel
theorem dX12_solves_125 : decode cX12_solves 125 = .ok (.ireturn, 1) := by decide +kernel
theorem dX12_solves_126 : decode cX12_solves 126 = .ok (.aload_n 0, 1) := by decide +kernel
theorem dX12_solves_127 : decode cX12_solves 127 = .ok (.iload_n 2, 1) := by decide +kernel
theorem dX12_solves_128 : decode cX12_solves 128 = .ok (.iload 4, 2) := by decide +kernel
theorem dX12_solves_130 : decode cX12_solves 130 = .ok (.iload_n 3, 1) := by decide +kernel
theorem dX12_solves_131 : decode cX12_solves 131 = .ok (.invokevirtual 358, 3) := by decide +kernel
theorem dX12_solves_134 : decode cX12_solves 134 = .ok (.iinc 2 1, 3) := by decide +kernel
theorem dX12_solves_137 : decode cX12_solves 137 = .ok (.iinc 3 1, 3) := by decide +kernel
theorem dX12_solves_140 : decode cX12_solves 140 = .ok (.goto (-66), 3) := by decide +kernel
theorem dX12_solves_143 : decode cX12_solves 143 = .ok (.iload_n 2, 1) := by decide +kernel
theorem dX12_solves_144 : decode cX12_solves 144 = .ok (.istore_n 3, 1) := by decide +kernel
theorem dX12_solves_145 : decode cX12_solves 145 = .ok (.iload_n 3, 1) := by decide +kernel
theorem dX12_solves_146 : decode cX12_solves 146 = .ok (.aload_n 0, 1) := by decide +kernel
theorem dX12_solves_147 : decode cX12_solves 147 = .ok (.getfield 342, 3) := by decide +kernel
theorem dX12_solves_150 : decode cX12_solves 150 = .ok (.if_icmp .ge 23, 3) := by decide +kernel
theorem dX12_solves_153 : decode cX12_solves 153 = .ok (.aload_n 0, 1) := by decide +kernel
theorem dX12_solves_154 : decode cX12_solves 154 = .ok (.getfield 247, 3) := by decide +kernel
theorem dX12_solves_157 : decode cX12_solves 157 = .ok (.bipush 6, 2) := by decide +kernel
theorem dX12_solves_159 : decode cX12_solves 159 = .ok (.iload_n 3, 1) := by decide +kernel
theorem dX12_solves_160 : decode cX12_solves 160 = .ok (.imul, 1) := by decide +kernel
theorem dX12_solves_161 : decode cX12_solves 161 = .ok (.iaload, 1) := by decide +kernel
theorem dX12_solves_162 : decode cX12_solves 162 = .ok (.ifCond .eq 5, 3) := by decide +kernel
theorem dX12_solves_165 : decode cX12_solves 165 = .ok (.iconst 0, 1) := by decide +kernel
theorem dX12_solves_166 : decode cX12_solves 166 = .ok (.ireturn, 1) := by decide +kernel
theorem dX12_solves_167 : decode cX12_solves 167 = .ok (.iinc 3 1, 3) := by decide +kernel
theorem dX12_solves_170 : decode cX12_solves 170 = .ok (.goto (-25), 3) := by decide +kernel
theorem dX12_solves_173 : decode cX12_solves 173 = .ok (.aload_n 0, 1) := by decide +kernel
theorem dX12_solves_174 : decode cX12_solves 174 = .ok (.getfield 72, 3) := by decide +kernel
theorem dX12_solves_177 : decode cX12_solves 177 = .ok (.iconst 0, 1) := by decide +kernel
theorem dX12_solves_178 : decode cX12_solves 178 = .ok (.iconst 0, 1) := by decide +kernel
theorem dX12_solves_179 : decode cX12_solves 179 = .ok (.iastore, 1) := by decide +kernel
theorem dX12_solves_180 : decode cX12_solves 180 = .ok (.aload_n 0, 1) := by decide +kernel
theorem dX12_solves_181 : decode cX12_solves 181 = .ok (.getfield 72, 3) := by decide +kernel
theorem dX12_solves_184 : decode cX12_solves 184 = .ok (.iconst 1, 1) := by decide +kernel
theorem dX12_solves_185 : decode cX12_solves 185 = .ok (.iconst 1, 1) := by decide +kernel
theorem dX12_solves_186 : decode cX12_solves 186 = .ok (.iastore, 1) := by decide +kernel
theorem dX12_solves_187 : decode cX12_solves 187 = .ok (.iconst 1, 1) := by decide +kernel
theorem dX12_solves_188 : decode cX12_solves 188 = .ok (.istore_n 3, 1) := by decide +kernel
theorem dX12_solves_189 : decode cX12_solves 189 = .ok (.iload_n 3, 1) := by decide +kernel
theorem dX12_solves_190 : decode cX12_solves 190 = .ok (.aload_n 0, 1) := by decide +kernel
theorem dX12_solves_191 : decode cX12_solves 191 = .ok (.getfield 342, 3) := by decide +kernel
theorem dX12_solves_194 : decode cX12_solves 194 = .ok (.if_icmp .ge 34, 3) := by decide +kernel
theorem dX12_solves_197 : decode cX12_solves 197 = .ok (.aload_n 0, 1) := by decide +kernel
theorem dX12_solves_198 : decode cX12_solves 198 = .ok (.getfield 72, 3) := by decide +kernel
theorem dX12_solves_201 : decode cX12_solves 201 = .ok (.iload_n 3, 1) := by decide +kernel
theorem dX12_solves_202 : decode cX12_solves 202 = .ok (.iconst 1, 1) := by decide +kernel
theorem dX12_solves_203 : decode cX12_solves 203 = .ok (.iadd, 1) := by decide +kernel
theorem dX12_solves_204 : decode cX12_solves 204 = .ok (.aload_n 0, 1) := by decide +kernel
theorem dX12_solves_205 : decode cX12_solves 205 = .ok (.aload_n 0, 1) := by decide +kernel
theorem dX12_solves_206 : decode cX12_solves 206 = .ok (.getfield 247, 3) := by decide +kernel
theorem dX12_solves_209 : decode cX12_solves 209 = .ok (.bipush 6, 2) := by decide +kernel
theorem dX12_solves_211 : decode cX12_solves 211 = .ok (.iload_n 3, 1) := by decide +kernel
theorem dX12_solves_212 : decode cX12_solves 212 = .ok (.iconst 1, 1) := by decide +kernel
theorem dX12_solves_213 : decode cX12_solves 213 = .ok (.isub, 1) := by decide +kernel
theorem dX12_solves_214 : decode cX12_solves 214 = .ok (.imul, 1) := by decide +kernel
theorem dX12_solves_215 : decode cX12_solves 215 = .ok (.iaload, 1) := by decide +kernel
theorem dX12_solves_216 : decode cX12_solves 216 = .ok (.ineg, 1) := by decide +kernel
theorem dX12_solves_217 : decode cX12_solves 217 = .ok (.i2l, 1) := by decide +kernel
theorem dX12_solves_218 : decode cX12_solves 218 = .ok (.invokevirtual 10, 3) := by decide +kernel
theorem dX12_solves_221 : decode cX12_solves 221 = .ok (.iastore, 1) := by decide +kernel
theorem dX12_solves_222 : decode cX12_solves 222 = .ok (.iinc 3 1, 3) := by decide +kernel
theorem dX12_solves_225 : decode cX12_solves 225 = .ok (.goto (-36), 3) := by decide +kernel
theorem dX12_solves_228 : decode cX12_solves 228 = .ok (.iconst 1, 1) := by decide +kernel
theorem dX12_solves_229 : decode cX12_solves 229 = .ok (.ireturn, 1) := by decide +kernel
theorem dX12_takesStep_0 : decode cX12_takesStep 0 = .ok (.aload_n 0, 1) := by decide +kernel
theorem dX12_takesStep_1 : decode cX12_takesStep 1 = .ok (.aload_n 0, 1) := by decide +kernel
theorem dX12_takesStep_2 : decode cX12_takesStep 2 = .ok (.getfield 247, 3) := by decide +kernel
theorem dX12_takesStep_5 : decode cX12_takesStep 5 = .ok (.bipush 6, 2) := by decide +kernel
theorem dX12_takesStep_7 : decode cX12_takesStep 7 = .ok (.iload_n 2, 1) := by decide +kernel
theorem dX12_takesStep_8 : decode cX12_takesStep 8 = .ok (.imul, 1) := by decide +kernel
theorem dX12_takesStep_9 : decode cX12_takesStep 9 = .ok (.iload_n 3, 1) := by decide +kernel
theorem dX12_takesStep_10 : decode cX12_takesStep 10 = .ok (.iadd, 1) := by decide +kernel
theorem dX12_takesStep_11 : decode cX12_takesStep 11 = .ok (.iaload, 1) := by decide +kernel
theorem dX12_takesStep_12 : decode cX12_takesStep 12 = .ok (.invokevirtual 41, 3) := by decide +kernel
theorem dX12_takesStep_15 : decode cX12_takesStep 15 = .ok (.istore 4, 2) := by decide +kernel
theorem dX12_takesStep_17 : decode cX12_takesStep 17 = .ok (.iconst 0, 1) := by decide +kernel
theorem dX12_takesStep_18 : decode cX12_takesStep 18 = .ok (.istore 5, 2) := by decide +kernel
theorem dX12_takesStep_20 : decode cX12_takesStep 20 = .ok (.iload 5, 2) := by decide +kernel
theorem dX12_takesStep_22 : decode cX12_takesStep 22 = .ok (.aload_n 0, 1) := by decide +kernel
theorem dX12_takesStep_23 : decode cX12_takesStep 23 = .ok (.getfield 342, 3) := by decide +kernel
theorem dX12_takesStep_26 : decode cX12_takesStep 26 = .ok (.if_icmp .ge 70, 3) := by decide +kernel
theorem dX12_takesStep_29 : decode cX12_takesStep 29 = .ok (.aload_n 0, 1) := by decide +kernel
theorem dX12_takesStep_30 : decode cX12_takesStep 30 = .ok (.getfield 247, 3) := by decide +kernel
theorem dX12_takesStep_33 : decode cX12_takesStep 33 = .ok (.bipush 6, 2) := by decide +kernel
theorem dX12_takesStep_35 : decode cX12_takesStep 35 = .ok (.iload_n 2, 1) := by decide +kernel
theorem dX12_takesStep_36 : decode cX12_takesStep 36 = .ok (.imul, 1) := by decide +kernel
theorem dX12_takesStep_37 : decode cX12_takesStep 37 = .ok (.iload 5, 2) := by decide +kernel
theorem dX12_takesStep_39 : decode cX12_takesStep 39 = .ok (.iadd, 1) := by decide +kernel
theorem dX12_takesStep_40 : decode cX12_takesStep 40 = .ok (.iaload, 1) := by decide +kernel
theorem dX12_takesStep_41 : decode cX12_takesStep 41 = .ok (.istore 6, 2) := by decide +kernel
theorem dX12_takesStep_43 : decode cX12_takesStep 43 = .ok (.aload_n 0, 1) := by decide +kernel
theorem dX12_takesStep_44 : decode cX12_takesStep 44 = .ok (.getfield 247, 3) := by decide +kernel
theorem dX12_takesStep_47 : decode cX12_takesStep 47 = .ok (.bipush 6, 2) := by decide +kernel
theorem dX12_takesStep_49 : decode cX12_takesStep 49 = .ok (.iload_n 2, 1) := by decide +kernel
theorem dX12_takesStep_50 : decode cX12_takesStep 50 = .ok (.imul, 1) := by decide +kernel
theorem dX12_takesStep_51 : decode cX12_takesStep 51 = .ok (.iload 5, 2) := by decide +kernel
theorem dX12_takesStep_53 : decode cX12_takesStep 53 = .ok (.iadd, 1) := by decide +kernel
theorem dX12_takesStep_54 : decode cX12_takesStep 54 = .ok (.aload_n 0, 1) := by decide +kernel
theorem dX12_takesStep_55 : decode cX12_takesStep 55 = .ok (.getfield 247, 3) := by decide +kernel
theorem dX12_takesStep_58 : decode cX12_takesStep 58 = .ok (.bipush 6, 2) := by decide +kernel
theorem dX12_takesStep_60 : decode cX12_takesStep 60 = .ok (.iload_n 1, 1) := by decide +kernel
theorem dX12_takesStep_61 : decode cX12_takesStep 61 = .ok (.imul, 1) := by decide +kernel
theorem dX12_takesStep_62 : decode cX12_takesStep 62 = .ok (.iload 5, 2) := by decide +kernel
theorem dX12_takesStep_64 : decode cX12_takesStep 64 = .ok (.iadd, 1) := by decide +kernel
theorem dX12_takesStep_65 : decode cX12_takesStep 65 = .ok (.iaload, 1) := by decide +kernel
theorem dX12_takesStep_66 : decode cX12_takesStep 66 = .ok (.iastore, 1) := by decide +kernel
theorem dX12_takesStep_67 : decode cX12_takesStep 67 = .ok (.aload_n 0, 1) := by decide +kernel
theorem dX12_takesStep_68 : decode cX12_takesStep 68 = .ok (.getfield 247, 3) := by decide +kernel
theorem dX12_takesStep_71 : decode cX12_takesStep 71 = .ok (.bipush 6, 2) := by decide +kernel
theorem dX12_takesStep_73 : decode cX12_takesStep 73 = .ok (.iload_n 1, 1) := by decide +kernel
theorem dX12_takesStep_74 : decode cX12_takesStep 74 = .ok (.imul, 1) := by decide +kernel
theorem dX12_takesStep_75 : decode cX12_takesStep 75 = .ok (.iload 5, 2) := by decide +kernel
theorem dX12_takesStep_77 : decode cX12_takesStep 77 = .ok (.iadd, 1) := by decide +kernel
theorem dX12_takesStep_78 : decode cX12_takesStep 78 = .ok (.aload_n 0, 1) := by decide +kernel
theorem dX12_takesStep_79 : decode cX12_takesStep 79 = .ok (.iload 6, 2) := by decide +kernel
theorem dX12_takesStep_81 : decode cX12_takesStep 81 = .ok (.i2l, 1) := by decide +kernel
theorem dX12_takesStep_82 : decode cX12_takesStep 82 = .ok (.iload 4, 2) := by decide +kernel
theorem dX12_takesStep_84 : decode cX12_takesStep 84 = .ok (.i2l, 1) := by decide +kernel
theorem dX12_takesStep_85 : decode cX12_takesStep 85 = .ok (.lmul, 1) := by decide +kernel
theorem dX12_takesStep_86 : decode cX12_takesStep 86 = .ok (.invokevirtual 10, 3) := by decide +kernel
theorem dX12_takesStep_89 : decode cX12_takesStep 89 = .ok (.iastore, 1) := by decide +kernel
theorem dX12_takesStep_90 : decode cX12_takesStep 90 = .ok (.iinc 5 1, 3) := by decide +kernel
theorem dX12_takesStep_93 : decode cX12_takesStep 93 = .ok (.goto (-73), 3) := by decide +kernel
theorem dX12_takesStep_96 : decode cX12_takesStep 96 = .ok (.iconst 0, 1) := by decide +kernel
theorem dX12_takesStep_97 : decode cX12_takesStep 97 = .ok (.istore 5, 2) := by decide +kernel
theorem dX12_takesStep_99 : decode cX12_takesStep 99 = .ok (.iload 5, 2) := by decide +kernel
theorem dX12_takesStep_101 : decode cX12_takesStep 101 = .ok (.aload_n 0, 1) := by decide +kernel
theorem dX12_takesStep_102 : decode cX12_takesStep 102 = .ok (.getfield 342, 3) := by decide +kernel
theorem dX12_takesStep_105 : decode cX12_takesStep 105 = .ok (.if_icmp .ge 96, 3) := by decide +kernel
theorem dX12_takesStep_108 : decode cX12_takesStep 108 = .ok (.aload_n 0, 1) := by decide +kernel
theorem dX12_takesStep_109 : decode cX12_takesStep 109 = .ok (.getfield 247, 3) := by decide +kernel
theorem dX12_takesStep_112 : decode cX12_takesStep 112 = .ok (.bipush 6, 2) := by decide +kernel
theorem dX12_takesStep_114 : decode cX12_takesStep 114 = .ok (.iload 5, 2) := by decide +kernel
theorem dX12_takesStep_116 : decode cX12_takesStep 116 = .ok (.imul, 1) := by decide +kernel
theorem dX12_takesStep_117 : decode cX12_takesStep 117 = .ok (.iload_n 3, 1) := by decide +kernel
theorem dX12_takesStep_118 : decode cX12_takesStep 118 = .ok (.iadd, 1) := by decide +kernel
theorem dX12_takesStep_119 : decode cX12_takesStep 119 = .ok (.iaload, 1) := by decide +kernel
theorem dX12_takesStep_120 : decode cX12_takesStep 120 = .ok (.i2l, 1) := by decide +kernel
theorem dX12_takesStep_121 : decode cX12_takesStep 121 = .ok (.lstore 6, 2) := by decide +kernel
theorem dX12_takesStep_123 : decode cX12_takesStep 123 = .ok (.iconst 0, 1) := by decide +kernel
theorem dX12_takesStep_124 : decode cX12_takesStep 124 = .ok (.istore 8, 2) := by decide +kernel
theorem dX12_takesStep_126 : decode cX12_takesStep 126 = .ok (.iload 8, 2) := by decide +kernel
theorem dX12_takesStep_128 : decode cX12_takesStep 128 = .ok (.aload_n 0, 1) := by decide +kernel
theorem dX12_takesStep_129 : decode cX12_takesStep 129 = .ok (.getfield 342, 3) := by decide +kernel
theorem dX12_takesStep_132 : decode cX12_takesStep 132 = .ok (.if_icmp .ge 63, 3) := by decide +kernel
theorem dX12_takesStep_135 : decode cX12_takesStep 135 = .ok (.iload 5, 2) := by decide +kernel
theorem dX12_takesStep_137 : decode cX12_takesStep 137 = .ok (.iload_n 1, 1) := by decide +kernel
theorem dX12_takesStep_138 : decode cX12_takesStep 138 = .ok (.if_icmp .eq 57, 3) := by decide +kernel
theorem dX12_takesStep_141 : decode cX12_takesStep 141 = .ok (.aload_n 0, 1) := by decide +kernel
theorem dX12_takesStep_142 : decode cX12_takesStep 142 = .ok (.getfield 247, 3) := by decide +kernel
theorem dX12_takesStep_145 : decode cX12_takesStep 145 = .ok (.bipush 6, 2) := by decide +kernel
theorem dX12_takesStep_147 : decode cX12_takesStep 147 = .ok (.iload 5, 2) := by decide +kernel
theorem dX12_takesStep_149 : decode cX12_takesStep 149 = .ok (.imul, 1) := by decide +kernel
theorem dX12_takesStep_150 : decode cX12_takesStep 150 = .ok (.iload 8, 2) := by decide +kernel
theorem dX12_takesStep_152 : decode cX12_takesStep 152 = .ok (.iadd, 1) := by decide +kernel
theorem dX12_takesStep_153 : decode cX12_takesStep 153 = .ok (.aload_n 0, 1) := by decide +kernel
theorem dX12_takesStep_154 : decode cX12_takesStep 154 = .ok (.aload_n 0, 1) := by decide +kernel
theorem dX12_takesStep_155 : decode cX12_takesStep 155 = .ok (.getfield 247, 3) := by decide +kernel
theorem dX12_takesStep_158 : decode cX12_takesStep 158 = .ok (.bipush 6, 2) := by decide +kernel
theorem dX12_takesStep_160 : decode cX12_takesStep 160 = .ok (.iload 5, 2) := by decide +kernel
theorem dX12_takesStep_162 : decode cX12_takesStep 162 = .ok (.imul, 1) := by decide +kernel
theorem dX12_takesStep_163 : decode cX12_takesStep 163 = .ok (.iload 8, 2) := by decide +kernel
theorem dX12_takesStep_165 : decode cX12_takesStep 165 = .ok (.iadd, 1) := by decide +kernel
theorem dX12_takesStep_166 : decode cX12_takesStep 166 = .ok (.iaload, 1) := by decide +kernel
theorem dX12_takesStep_167 : decode cX12_takesStep 167 = .ok (.i2l, 1) := by decide +kernel
theorem dX12_takesStep_168 : decode cX12_takesStep 168 = .ok (.lload 6, 2) := by decide +kernel
theorem dX12_takesStep_170 : decode cX12_takesStep 170 = .ok (.aload_n 0, 1) := by decide +kernel
theorem dX12_takesStep_171 : decode cX12_takesStep 171 = .ok (.getfield 247, 3) := by decide +kernel
theorem dX12_takesStep_174 : decode cX12_takesStep 174 = .ok (.bipush 6, 2) := by decide +kernel
theorem dX12_takesStep_176 : decode cX12_takesStep 176 = .ok (.iload_n 1, 1) := by decide +kernel
theorem dX12_takesStep_177 : decode cX12_takesStep 177 = .ok (.imul, 1) := by decide +kernel
theorem dX12_takesStep_178 : decode cX12_takesStep 178 = .ok (.iload 8, 2) := by decide +kernel
theorem dX12_takesStep_180 : decode cX12_takesStep 180 = .ok (.iadd, 1) := by decide +kernel
theorem dX12_takesStep_181 : decode cX12_takesStep 181 = .ok (.iaload, 1) := by decide +kernel
theorem dX12_takesStep_182 : decode cX12_takesStep 182 = .ok (.i2l, 1) := by decide +kernel
theorem dX12_takesStep_183 : decode cX12_takesStep 183 = .ok (.lmul, 1) := by decide +kernel
theorem dX12_takesStep_184 : decode cX12_takesStep 184 = .ok (.lsub, 1) := by decide +kernel
theorem dX12_takesStep_185 : decode cX12_takesStep 185 = .ok (.invokevirtual 10, 3) := by decide +kernel
theorem dX12_takesStep_188 : decode cX12_takesStep 188 = .ok (.iastore, 1) := by decide +kernel
theorem dX12_takesStep_189 : decode cX12_takesStep 189 = .ok (.iinc 8 1, 3) := by decide +kernel
theorem dX12_takesStep_192 : decode cX12_takesStep 192 = .ok (.goto (-66), 3) := by decide +kernel
theorem dX12_takesStep_195 : decode cX12_takesStep 195 = .ok (.iinc 5 1, 3) := by decide +kernel
theorem dX12_takesStep_198 : decode cX12_takesStep 198 = .ok (.goto (-99), 3) := by decide +kernel
theorem dX12_takesStep_201 : decode cX12_takesStep 201 = .ok (.return_, 1) := by decide +kernel
theorem dX12_own_0 : decode cX12_own 0 = .ok (.aload_n 0, 1) := by decide +kernel
theorem dX12_own_1 : decode cX12_own 1 = .ok (.iconst 0, 1) := by decide +kernel
theorem dX12_own_2 : decode cX12_own 2 = .ok (.putfield 1, 3) := by decide +kernel
theorem dX12_own_5 : decode cX12_own 5 = .ok (.aload_n 0, 1) := by decide +kernel
theorem dX12_own_6 : decode cX12_own 6 = .ok (.iload_n 1, 1) := by decide +kernel
theorem dX12_own_7 : decode cX12_own 7 = .ok (.invokevirtual 269, 3) := by decide +kernel
theorem dX12_own_10 : decode cX12_own 10 = .ok (.ifCond .eq 10, 3) := by decide +kernel
theorem dX12_own_13 : decode cX12_own 13 = .ok (.iload_n 2, 1) := by decide +kernel
theorem dX12_own_14 : decode cX12_own 14 = .ok (.invokestatic 272, 3) := by decide +kernel
theorem dX12_own_17 : decode cX12_own 17 = .ok (.ifCond .ne 5, 3) := by decide +kernel
theorem dX12_own_20 : decode cX12_own 20 = .ok (.iconst (-1), 1) := by decide +kernel
theorem dX12_own_21 : decode cX12_own 21 = .ok (.ireturn, 1) := by decide +kernel
theorem dX12_own_22 : decode cX12_own 22 = .ok (.aload_n 0, 1) := by decide +kernel
theorem dX12_own_23 : decode cX12_own 23 = .ok (.iload_n 2, 1) := by decide +kernel
theorem dX12_own_24 : decode cX12_own 24 = .ok (.invokevirtual 355, 3) := by decide +kernel
theorem dX12_own_27 : decode cX12_own 27 = .ok (.iload_n 3, 1) := by decide +kernel
theorem dX12_own_28 : decode cX12_own 28 = .ok (.iconst 0, 1) := by decide +kernel
theorem dX12_own_29 : decode cX12_own 29 = .ok (.aload_n 0, 1) := by decide +kernel
theorem dX12_own_30 : decode cX12_own 30 = .ok (.getfield 352, 3) := by decide +kernel
theorem dX12_own_33 : decode cX12_own 33 = .ok (.iconst 1, 1) := by decide +kernel
theorem dX12_own_34 : decode cX12_own 34 = .ok (.isub, 1) := by decide +kernel
theorem dX12_own_35 : decode cX12_own 35 = .ok (.invokestatic 45, 3) := by decide +kernel
theorem dX12_own_38 : decode cX12_own 38 = .ok (.ifCond .ne 5, 3) := by decide +kernel
theorem dX12_own_41 : decode cX12_own 41 = .ok (.iconst (-1), 1) := by decide +kernel
theorem dX12_own_42 : decode cX12_own 42 = .ok (.ireturn, 1) := by decide +kernel
theorem dX12_own_43 : decode cX12_own 43 = .ok (.aload_n 0, 1) := by decide +kernel
theorem dX12_own_44 : decode cX12_own 44 = .ok (.aload_n 0, 1) := by decide +kernel
theorem dX12_own_45 : decode cX12_own 45 = .ok (.getfield 244, 3) := by decide +kernel
theorem dX12_own_48 : decode cX12_own 48 = .ok (.iload_n 3, 1) := by decide +kernel
theorem dX12_own_49 : decode cX12_own 49 = .ok (.iaload, 1) := by decide +kernel
theorem dX12_own_50 : decode cX12_own 50 = .ok (.invokevirtual 362, 3) := by decide +kernel
theorem dX12_own_53 : decode cX12_own 53 = .ok (.ifCond .ne 6, 3) := by decide +kernel
theorem dX12_own_56 : decode cX12_own 56 = .ok (.bipush (-2), 2) := by decide +kernel
theorem dX12_own_58 : decode cX12_own 58 = .ok (.ireturn, 1) := by decide +kernel
theorem dX12_own_59 : decode cX12_own 59 = .ok (.aload_n 0, 1) := by decide +kernel
theorem dX12_own_60 : decode cX12_own 60 = .ok (.iload_n 2, 1) := by decide +kernel
theorem dX12_own_61 : decode cX12_own 61 = .ok (.invokevirtual 339, 3) := by decide +kernel
theorem dX12_own_64 : decode cX12_own 64 = .ok (.aload_n 0, 1) := by decide +kernel
theorem dX12_own_65 : decode cX12_own 65 = .ok (.getfield 69, 3) := by decide +kernel
theorem dX12_own_68 : decode cX12_own 68 = .ok (.iconst 0, 1) := by decide +kernel
theorem dX12_own_69 : decode cX12_own 69 = .ok (.aload_n 0, 1) := by decide +kernel
theorem dX12_own_70 : decode cX12_own 70 = .ok (.getfield 218, 3) := by decide +kernel
theorem dX12_own_73 : decode cX12_own 73 = .ok (.sipush 181, 3) := by decide +kernel
theorem dX12_own_76 : decode cX12_own 76 = .ok (.iload_n 1, 1) := by decide +kernel
theorem dX12_own_77 : decode cX12_own 77 = .ok (.imul, 1) := by decide +kernel
theorem dX12_own_78 : decode cX12_own 78 = .ok (.invokestatic 58, 3) := by decide +kernel
theorem dX12_own_81 : decode cX12_own 81 = .ok (.aload_n 0, 1) := by decide +kernel
theorem dX12_own_82 : decode cX12_own 82 = .ok (.getfield 215, 3) := by decide +kernel
theorem dX12_own_85 : decode cX12_own 85 = .ok (.iload_n 1, 1) := by decide +kernel
theorem dX12_own_86 : decode cX12_own 86 = .ok (.iload_n 2, 1) := by decide +kernel
theorem dX12_own_87 : decode cX12_own 87 = .ok (.iastore, 1) := by decide +kernel
theorem dX12_own_88 : decode cX12_own 88 = .ok (.aload_n 0, 1) := by decide +kernel
theorem dX12_own_89 : decode cX12_own 89 = .ok (.getfield 244, 3) := by decide +kernel
theorem dX12_own_92 : decode cX12_own 92 = .ok (.iload_n 3, 1) := by decide +kernel
theorem dX12_own_93 : decode cX12_own 93 = .ok (.iaload, 1) := by decide +kernel
theorem dX12_own_94 : decode cX12_own 94 = .ok (.ireturn, 1) := by decide +kernel
theorem dX12_sortOf_0 : decode cX12_sortOf 0 = .ok (.iload_n 1, 1) := by decide +kernel
theorem dX12_sortOf_1 : decode cX12_sortOf 1 = .ok (.ifCond .ne 10, 3) := by decide +kernel
theorem dX12_sortOf_4 : decode cX12_sortOf 4 = .ok (.aload_n 0, 1) := by decide +kernel
theorem dX12_sortOf_5 : decode cX12_sortOf 5 = .ok (.getfield 365, 3) := by decide +kernel
theorem dX12_sortOf_8 : decode cX12_sortOf 8 = .ok (.goto 9, 3) := by decide +kernel
theorem dX12_sortOf_11 : decode cX12_sortOf 11 = .ok (.iconst 1, 1) := by decide +kernel
theorem dX12_sortOf_12 : decode cX12_sortOf 12 = .ok (.aload_n 0, 1) := by decide +kernel
theorem dX12_sortOf_13 : decode cX12_sortOf 13 = .ok (.getfield 365, 3) := by decide +kernel
theorem dX12_sortOf_16 : decode cX12_sortOf 16 = .ok (.isub, 1) := by decide +kernel
theorem dX12_sortOf_17 : decode cX12_sortOf 17 = .ok (.ireturn, 1) := by decide +kernel
theorem dX12_put_0 : decode cX12_put 0 = .ok (.aload_n 0, 1) := by decide +kernel
theorem dX12_put_1 : decode cX12_put 1 = .ok (.iconst 0, 1) := by decide +kernel
theorem dX12_put_2 : decode cX12_put 2 = .ok (.putfield 1, 3) := by decide +kernel
theorem dX12_put_5 : decode cX12_put 5 = .ok (.iload_n 1, 1) := by decide +kernel
theorem dX12_put_6 : decode cX12_put 6 = .ok (.iconst 0, 1) := by decide +kernel
theorem dX12_put_7 : decode cX12_put 7 = .ok (.iconst 1, 1) := by decide +kernel
theorem dX12_put_8 : decode cX12_put 8 = .ok (.invokestatic 45, 3) := by decide +kernel
theorem dX12_put_11 : decode cX12_put 11 = .ok (.ifCond .eq 12, 3) := by decide +kernel
theorem dX12_put_14 : decode cX12_put 14 = .ok (.iload_n 2, 1) := by decide +kernel
theorem dX12_put_15 : decode cX12_put 15 = .ok (.iconst 0, 1) := by decide +kernel
theorem dX12_put_16 : decode cX12_put 16 = .ok (.iconst 3, 1) := by decide +kernel
theorem dX12_put_17 : decode cX12_put 17 = .ok (.invokestatic 45, 3) := by decide +kernel
theorem dX12_put_20 : decode cX12_put 20 = .ok (.ifCond .ne 5, 3) := by decide +kernel
theorem dX12_put_23 : decode cX12_put 23 = .ok (.iconst 0, 1) := by decide +kernel
theorem dX12_put_24 : decode cX12_put 24 = .ok (.ireturn, 1) := by decide +kernel
theorem dX12_put_25 : decode cX12_put 25 = .ok (.aload_n 0, 1) := by decide +kernel
theorem dX12_put_26 : decode cX12_put 26 = .ok (.iload_n 1, 1) := by decide +kernel
theorem dX12_put_27 : decode cX12_put 27 = .ok (.invokevirtual 368, 3) := by decide +kernel
theorem dX12_put_30 : decode cX12_put 30 = .ok (.iload_n 3, 1) := by decide +kernel
theorem dX12_put_31 : decode cX12_put 31 = .ok (.ifCond .eq 7, 3) := by decide +kernel
theorem dX12_put_34 : decode cX12_put 34 = .ok (.iconst 1, 1) := by decide +kernel
theorem dX12_put_35 : decode cX12_put 35 = .ok (.goto 4, 3) := by decide +kernel
theorem dX12_put_38 : decode cX12_put 38 = .ok (.iconst 0, 1) := by decide +kernel
theorem dX12_put_39 : decode cX12_put 39 = .ok (.if_icmp .ne 7, 3) := by decide +kernel
theorem dX12_put_42 : decode cX12_put 42 = .ok (.iconst 1, 1) := by decide +kernel
theorem dX12_put_43 : decode cX12_put 43 = .ok (.goto 4, 3) := by decide +kernel
theorem dX12_put_46 : decode cX12_put 46 = .ok (.iconst 0, 1) := by decide +kernel
theorem dX12_put_47 : decode cX12_put 47 = .ok (.istore 5, 2) := by decide +kernel
theorem dX12_put_49 : decode cX12_put 49 = .ok (.iload_n 3, 1) := by decide +kernel
theorem dX12_put_50 : decode cX12_put 50 = .ok (.ifCond .eq 69, 3) := by decide +kernel
theorem dX12_put_53 : decode cX12_put 53 = .ok (.iload 5, 2) := by decide +kernel
theorem dX12_put_55 : decode cX12_put 55 = .ok (.ifCond .eq 16, 3) := by decide +kernel
theorem dX12_put_58 : decode cX12_put 58 = .ok (.iload 4, 2) := by decide +kernel
theorem dX12_put_60 : decode cX12_put 60 = .ok (.iconst 1, 1) := by decide +kernel
theorem dX12_put_61 : decode cX12_put 61 = .ok (.invokestatic 310, 3) := by decide +kernel
theorem dX12_put_64 : decode cX12_put 64 = .ok (.ifCond .eq 7, 3) := by decide +kernel
theorem dX12_put_67 : decode cX12_put 67 = .ok (.iconst 1, 1) := by decide +kernel
theorem dX12_put_68 : decode cX12_put 68 = .ok (.goto 4, 3) := by decide +kernel
theorem dX12_put_71 : decode cX12_put 71 = .ok (.iconst 0, 1) := by decide +kernel
theorem dX12_put_72 : decode cX12_put 72 = .ok (.istore 5, 2) := by decide +kernel
theorem dX12_put_74 : decode cX12_put 74 = .ok (.iconst 1, 1) := by decide +kernel
theorem dX12_put_75 : decode cX12_put 75 = .ok (.istore 6, 2) := by decide +kernel
theorem dX12_put_77 : decode cX12_put 77 = .ok (.iload 6, 2) := by decide +kernel
theorem dX12_put_79 : decode cX12_put 79 = .ok (.bipush 12, 2) := by decide +kernel
theorem dX12_put_81 : decode cX12_put 81 = .ok (.if_icmp .gt 38, 3) := by decide +kernel
theorem dX12_put_84 : decode cX12_put 84 = .ok (.iload 5, 2) := by decide +kernel
theorem dX12_put_86 : decode cX12_put 86 = .ok (.ifCond .eq 33, 3) := by decide +kernel
theorem dX12_put_89 : decode cX12_put 89 = .ok (.aload_n 0, 1) := by decide +kernel
theorem dX12_put_90 : decode cX12_put 90 = .ok (.iload 4, 2) := by decide +kernel
theorem dX12_put_92 : decode cX12_put 92 = .ok (.iload 6, 2) := by decide +kernel
theorem dX12_put_94 : decode cX12_put 94 = .ok (.invokevirtual 317, 3) := by decide +kernel
theorem dX12_put_97 : decode cX12_put 97 = .ok (.lstore 7, 2) := by decide +kernel
theorem dX12_put_99 : decode cX12_put 99 = .ok (.aload_n 0, 1) := by decide +kernel
theorem dX12_put_100 : decode cX12_put 100 = .ok (.getfield 293, 3) := by decide +kernel
theorem dX12_put_103 : decode cX12_put 103 = .ok (.ifCond .ne 7, 3) := by decide +kernel
theorem dX12_put_106 : decode cX12_put 106 = .ok (.iconst 1, 1) := by decide +kernel
theorem dX12_put_107 : decode cX12_put 107 = .ok (.goto 4, 3) := by decide +kernel
theorem dX12_put_110 : decode cX12_put 110 = .ok (.iconst 0, 1) := by decide +kernel
theorem dX12_put_111 : decode cX12_put 111 = .ok (.istore 5, 2) := by decide +kernel
theorem dX12_put_113 : decode cX12_put 113 = .ok (.iinc 6 1, 3) := by decide +kernel
theorem dX12_put_116 : decode cX12_put 116 = .ok (.goto (-39), 3) := by decide +kernel
theorem dX12_put_119 : decode cX12_put 119 = .ok (.iconst 4, 1) := by decide +kernel
theorem dX12_put_120 : decode cX12_put 120 = .ok (.iload_n 1, 1) := by decide +kernel
theorem dX12_put_121 : decode cX12_put 121 = .ok (.imul, 1) := by decide +kernel
theorem dX12_put_122 : decode cX12_put 122 = .ok (.iload_n 2, 1) := by decide +kernel
theorem dX12_put_123 : decode cX12_put 123 = .ok (.iadd, 1) := by decide +kernel
theorem dX12_put_124 : decode cX12_put 124 = .ok (.istore 6, 2) := by decide +kernel
theorem dX12_put_126 : decode cX12_put 126 = .ok (.iconst 0, 1) := by decide +kernel
theorem dX12_put_127 : decode cX12_put 127 = .ok (.istore 7, 2) := by decide +kernel
theorem dX12_put_129 : decode cX12_put 129 = .ok (.iload 7, 2) := by decide +kernel
theorem dX12_put_131 : decode cX12_put 131 = .ok (.bipush 13, 2) := by decide +kernel
theorem dX12_put_133 : decode cX12_put 133 = .ok (.if_icmp .ge 63, 3) := by decide +kernel
theorem dX12_put_136 : decode cX12_put 136 = .ok (.iload 5, 2) := by decide +kernel
theorem dX12_put_138 : decode cX12_put 138 = .ok (.ifCond .eq 58, 3) := by decide +kernel
theorem dX12_put_141 : decode cX12_put 141 = .ok (.aload_n 0, 1) := by decide +kernel
theorem dX12_put_142 : decode cX12_put 142 = .ok (.getfield 250, 3) := by decide +kernel
theorem dX12_put_145 : decode cX12_put 145 = .ok (.bipush 13, 2) := by decide +kernel
theorem dX12_put_147 : decode cX12_put 147 = .ok (.iload 6, 2) := by decide +kernel
theorem dX12_put_149 : decode cX12_put 149 = .ok (.imul, 1) := by decide +kernel
theorem dX12_put_150 : decode cX12_put 150 = .ok (.iload 7, 2) := by decide +kernel
theorem dX12_put_152 : decode cX12_put 152 = .ok (.iadd, 1) := by decide +kernel
theorem dX12_put_153 : decode cX12_put 153 = .ok (.iload_n 3, 1) := by decide +kernel
theorem dX12_put_154 : decode cX12_put 154 = .ok (.ifCond .ne 14, 3) := by decide +kernel
theorem dX12_put_157 : decode cX12_put 157 = .ok (.aload_n 0, 1) := by decide +kernel
theorem dX12_put_158 : decode cX12_put 158 = .ok (.getfield 218, 3) := by decide +kernel
theorem dX12_put_161 : decode cX12_put 161 = .ok (.iload 7, 2) := by decide +kernel
theorem dX12_put_163 : decode cX12_put 163 = .ok (.iaload, 1) := by decide +kernel
theorem dX12_put_164 : decode cX12_put 164 = .ok (.i2l, 1) := by decide +kernel
theorem dX12_put_165 : decode cX12_put 165 = .ok (.goto 24, 3) := by decide +kernel
theorem dX12_put_168 : decode cX12_put 168 = .ok (.iload 7, 2) := by decide +kernel
theorem dX12_put_170 : decode cX12_put 170 = .ok (.bipush 12, 2) := by decide +kernel
theorem dX12_put_172 : decode cX12_put 172 = .ok (.if_icmp .ge 16, 3) := by decide +kernel
theorem dX12_put_175 : decode cX12_put 175 = .ok (.aload_n 0, 1) := by decide +kernel
theorem dX12_put_176 : decode cX12_put 176 = .ok (.iload 4, 2) := by decide +kernel
theorem dX12_put_178 : decode cX12_put 178 = .ok (.iload 7, 2) := by decide +kernel
theorem dX12_put_180 : decode cX12_put 180 = .ok (.iconst 1, 1) := by decide +kernel
theorem dX12_put_181 : decode cX12_put 181 = .ok (.iadd, 1) := by decide +kernel
theorem dX12_put_182 : decode cX12_put 182 = .ok (.invokevirtual 317, 3) := by decide +kernel
theorem dX12_put_185 : decode cX12_put 185 = .ok (.goto 4, 3) := by decide +kernel
theorem dX12_put_188 : decode cX12_put 188 = .ok (.lconst 0, 1) := by decide +kernel
theorem dX12_put_189 : decode cX12_put 189 = .ok (.lastore, 1) := by decide +kernel
theorem dX12_put_190 : decode cX12_put 190 = .ok (.iinc 7 1, 3) := by decide +kernel
theorem dX12_put_193 : decode cX12_put 193 = .ok (.goto (-64), 3) := by decide +kernel
theorem dX12_put_196 : decode cX12_put 196 = .ok (.aload_n 0, 1) := by decide +kernel
theorem dX12_put_197 : decode cX12_put 197 = .ok (.getfield 221, 3) := by decide +kernel
theorem dX12_put_200 : decode cX12_put 200 = .ok (.iload 6, 2) := by decide +kernel
theorem dX12_put_202 : decode cX12_put 202 = .ok (.aload_n 0, 1) := by decide +kernel
theorem dX12_put_203 : decode cX12_put 203 = .ok (.getfield 221, 3) := by decide +kernel
theorem dX12_put_206 : decode cX12_put 206 = .ok (.iload 6, 2) := by decide +kernel
theorem dX12_put_208 : decode cX12_put 208 = .ok (.baload, 1) := by decide +kernel
theorem dX12_put_209 : decode cX12_put 209 = .ok (.ifCond .ne 8, 3) := by decide +kernel
theorem dX12_put_212 : decode cX12_put 212 = .ok (.iload 5, 2) := by decide +kernel
theorem dX12_put_214 : decode cX12_put 214 = .ok (.ifCond .eq 7, 3) := by decide +kernel
theorem dX12_put_217 : decode cX12_put 217 = .ok (.iconst 1, 1) := by decide +kernel
theorem dX12_put_218 : decode cX12_put 218 = .ok (.goto 4, 3) := by decide +kernel
theorem dX12_put_221 : decode cX12_put 221 = .ok (.iconst 0, 1) := by decide +kernel
theorem dX12_put_222 : decode cX12_put 222 = .ok (.bastore, 1) := by decide +kernel
theorem dX12_put_223 : decode cX12_put 223 = .ok (.iload 5, 2) := by decide +kernel
theorem dX12_put_225 : decode cX12_put 225 = .ok (.ireturn, 1) := by decide +kernel
theorem dX12_row_0 : decode cX12_row 0 = .ok (.aload_n 0, 1) := by decide +kernel
theorem dX12_row_1 : decode cX12_row 1 = .ok (.iconst 1, 1) := by decide +kernel
theorem dX12_row_2 : decode cX12_row 2 = .ok (.putfield 1, 3) := by decide +kernel
theorem dX12_row_5 : decode cX12_row 5 = .ok (.iload_n 1, 1) := by decide +kernel
theorem dX12_row_6 : decode cX12_row 6 = .ok (.iconst 0, 1) := by decide +kernel
theorem dX12_row_7 : decode cX12_row 7 = .ok (.iconst 1, 1) := by decide +kernel
theorem dX12_row_8 : decode cX12_row 8 = .ok (.invokestatic 45, 3) := by decide +kernel
theorem dX12_row_11 : decode cX12_row 11 = .ok (.ifCond .eq 48, 3) := by decide +kernel
theorem dX12_row_14 : decode cX12_row 14 = .ok (.iload_n 2, 1) := by decide +kernel
theorem dX12_row_15 : decode cX12_row 15 = .ok (.iconst 0, 1) := by decide +kernel
theorem dX12_row_16 : decode cX12_row 16 = .ok (.iconst 3, 1) := by decide +kernel
theorem dX12_row_17 : decode cX12_row 17 = .ok (.invokestatic 45, 3) := by decide +kernel
theorem dX12_row_20 : decode cX12_row 20 = .ok (.ifCond .eq 39, 3) := by decide +kernel
theorem dX12_row_23 : decode cX12_row 23 = .ok (.aload_n 0, 1) := by decide +kernel
theorem dX12_row_24 : decode cX12_row 24 = .ok (.getfield 221, 3) := by decide +kernel
theorem dX12_row_27 : decode cX12_row 27 = .ok (.iconst 4, 1) := by decide +kernel
theorem dX12_row_28 : decode cX12_row 28 = .ok (.iload_n 1, 1) := by decide +kernel
theorem dX12_row_29 : decode cX12_row 29 = .ok (.imul, 1) := by decide +kernel
theorem dX12_row_30 : decode cX12_row 30 = .ok (.iload_n 2, 1) := by decide +kernel
theorem dX12_row_31 : decode cX12_row 31 = .ok (.iadd, 1) := by decide +kernel
theorem dX12_row_32 : decode cX12_row 32 = .ok (.baload, 1) := by decide +kernel
theorem dX12_row_33 : decode cX12_row 33 = .ok (.ifCond .eq 26, 3) := by decide +kernel
theorem dX12_row_36 : decode cX12_row 36 = .ok (.iload_n 3, 1) := by decide +kernel
theorem dX12_row_37 : decode cX12_row 37 = .ok (.iconst 0, 1) := by decide +kernel
theorem dX12_row_38 : decode cX12_row 38 = .ok (.aload_n 0, 1) := by decide +kernel
theorem dX12_row_39 : decode cX12_row 39 = .ok (.iload_n 1, 1) := by decide +kernel
theorem dX12_row_40 : decode cX12_row 40 = .ok (.invokevirtual 368, 3) := by decide +kernel
theorem dX12_row_43 : decode cX12_row 43 = .ok (.ifCond .ne 8, 3) := by decide +kernel
theorem dX12_row_46 : decode cX12_row 46 = .ok (.bipush 12, 2) := by decide +kernel
theorem dX12_row_48 : decode cX12_row 48 = .ok (.goto 5, 3) := by decide +kernel
theorem dX12_row_51 : decode cX12_row 51 = .ok (.bipush 11, 2) := by decide +kernel
theorem dX12_row_53 : decode cX12_row 53 = .ok (.invokestatic 45, 3) := by decide +kernel
theorem dX12_row_56 : decode cX12_row 56 = .ok (.ifCond .ne 5, 3) := by decide +kernel
theorem dX12_row_59 : decode cX12_row 59 = .ok (.lconst 0, 1) := by decide +kernel
theorem dX12_row_60 : decode cX12_row 60 = .ok (.lreturn, 1) := by decide +kernel
theorem dX12_row_61 : decode cX12_row 61 = .ok (.aload_n 0, 1) := by decide +kernel
theorem dX12_row_62 : decode cX12_row 62 = .ok (.iconst 0, 1) := by decide +kernel
theorem dX12_row_63 : decode cX12_row 63 = .ok (.putfield 1, 3) := by decide +kernel
theorem dX12_row_66 : decode cX12_row 66 = .ok (.aload_n 0, 1) := by decide +kernel
theorem dX12_row_67 : decode cX12_row 67 = .ok (.getfield 250, 3) := by decide +kernel
theorem dX12_row_70 : decode cX12_row 70 = .ok (.bipush 13, 2) := by decide +kernel
theorem dX12_row_72 : decode cX12_row 72 = .ok (.iconst 4, 1) := by decide +kernel
theorem dX12_row_73 : decode cX12_row 73 = .ok (.iload_n 1, 1) := by decide +kernel
theorem dX12_row_74 : decode cX12_row 74 = .ok (.imul, 1) := by decide +kernel
theorem dX12_row_75 : decode cX12_row 75 = .ok (.iload_n 2, 1) := by decide +kernel
theorem dX12_row_76 : decode cX12_row 76 = .ok (.iadd, 1) := by decide +kernel
theorem dX12_row_77 : decode cX12_row 77 = .ok (.imul, 1) := by decide +kernel
theorem dX12_row_78 : decode cX12_row 78 = .ok (.iload_n 3, 1) := by decide +kernel
theorem dX12_row_79 : decode cX12_row 79 = .ok (.iadd, 1) := by decide +kernel
theorem dX12_row_80 : decode cX12_row 80 = .ok (.laload, 1) := by decide +kernel
theorem dX12_row_81 : decode cX12_row 81 = .ok (.lreturn, 1) := by decide +kernel
theorem dX12_swap_0 : decode cX12_swap 0 = .ok (.aload_n 0, 1) := by decide +kernel
theorem dX12_swap_1 : decode cX12_swap 1 = .ok (.iconst 0, 1) := by decide +kernel
theorem dX12_swap_2 : decode cX12_swap 2 = .ok (.putfield 1, 3) := by decide +kernel
theorem dX12_swap_5 : decode cX12_swap 5 = .ok (.aload_n 0, 1) := by decide +kernel
theorem dX12_swap_6 : decode cX12_swap 6 = .ok (.iconst 1, 1) := by decide +kernel
theorem dX12_swap_7 : decode cX12_swap 7 = .ok (.aload_n 0, 1) := by decide +kernel
theorem dX12_swap_8 : decode cX12_swap 8 = .ok (.getfield 365, 3) := by decide +kernel
theorem dX12_swap_11 : decode cX12_swap 11 = .ok (.isub, 1) := by decide +kernel
theorem dX12_swap_12 : decode cX12_swap 12 = .ok (.putfield 365, 3) := by decide +kernel
theorem dX12_swap_15 : decode cX12_swap 15 = .ok (.iconst 0, 1) := by decide +kernel
theorem dX12_swap_16 : decode cX12_swap 16 = .ok (.istore_n 1, 1) := by decide +kernel
theorem dX12_swap_17 : decode cX12_swap 17 = .ok (.iload_n 1, 1) := by decide +kernel
theorem dX12_swap_18 : decode cX12_swap 18 = .ok (.bipush 8, 2) := by decide +kernel
theorem dX12_swap_20 : decode cX12_swap 20 = .ok (.if_icmp .ge 16, 3) := by decide +kernel
theorem dX12_swap_23 : decode cX12_swap 23 = .ok (.aload_n 0, 1) := by decide +kernel
theorem dX12_swap_24 : decode cX12_swap 24 = .ok (.getfield 221, 3) := by decide +kernel
theorem dX12_swap_27 : decode cX12_swap 27 = .ok (.iload_n 1, 1) := by decide +kernel
theorem dX12_swap_28 : decode cX12_swap 28 = .ok (.iconst 0, 1) := by decide +kernel
theorem dX12_swap_29 : decode cX12_swap 29 = .ok (.bastore, 1) := by decide +kernel
theorem dX12_swap_30 : decode cX12_swap 30 = .ok (.iinc 1 1, 3) := by decide +kernel
theorem dX12_swap_33 : decode cX12_swap 33 = .ok (.goto (-16), 3) := by decide +kernel
theorem dX12_swap_36 : decode cX12_swap 36 = .ok (.aload_n 0, 1) := by decide +kernel
theorem dX12_swap_37 : decode cX12_swap 37 = .ok (.getfield 365, 3) := by decide +kernel
theorem dX12_swap_40 : decode cX12_swap 40 = .ok (.ireturn, 1) := by decide +kernel
theorem dX12_image_0 : decode cX12_image 0 = .ok (.aload_n 0, 1) := by decide +kernel
theorem dX12_image_1 : decode cX12_image 1 = .ok (.iconst 0, 1) := by decide +kernel
theorem dX12_image_2 : decode cX12_image 2 = .ok (.putfield 1, 3) := by decide +kernel
theorem dX12_image_5 : decode cX12_image 5 = .ok (.iload_n 1, 1) := by decide +kernel
