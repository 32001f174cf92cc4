theorem dX0_init_0 : decode cX0_init 0 = .ok (.aload_n 0, 1) := by decide +kernel
theorem dX0_init_1 : decode cX0_init 1 = .ok (.invokespecial 3, 3) := by decide +kernel
theorem dX0_init_4 : decode cX0_init 4 = .ok (.aload_n 0, 1) := by decide +kernel
theorem dX0_init_5 : decode cX0_init 5 = .ok (.aload_n 1, 1) := by decide +kernel
theorem dX0_init_6 : decode cX0_init 6 = .ok (.getfield 9, 3) := by decide +kernel
theorem dX0_init_9 : decode cX0_init 9 = .ok (.putfield 15, 3) := by decide +kernel
theorem dX0_init_12 : decode cX0_init 12 = .ok (.aload_n 0, 1) := by decide +kernel
theorem dX0_init_13 : decode cX0_init 13 = .ok (.aload_n 1, 1) := by decide +kernel
theorem dX0_init_14 : decode cX0_init 14 = .ok (.getfield 18, 3) := by decide +kernel
theorem dX0_init_17 : decode cX0_init 17 = .ok (.putfield 21, 3) := by decide +kernel
theorem dX0_init_20 : decode cX0_init 20 = .ok (.aload_n 0, 1) := by decide +kernel
theorem dX0_init_21 : decode cX0_init 21 = .ok (.aload_n 1, 1) := by decide +kernel
theorem dX0_init_22 : decode cX0_init 22 = .ok (.getfield 22, 3) := by decide +kernel
theorem dX0_init_25 : decode cX0_init 25 = .ok (.putfield 25, 3) := by decide +kernel
theorem dX0_init_28 : decode cX0_init 28 = .ok (.aload_n 0, 1) := by decide +kernel
theorem dX0_init_29 : decode cX0_init 29 = .ok (.aload_n 1, 1) := by decide +kernel
theorem dX0_init_30 : decode cX0_init 30 = .ok (.getfield 26, 3) := by decide +kernel
theorem dX0_init_33 : decode cX0_init 33 = .ok (.putfield 30, 3) := by decide +kernel
theorem dX0_init_36 : decode cX0_init 36 = .ok (.aload_n 0, 1) := by decide +kernel
theorem dX0_init_37 : decode cX0_init 37 = .ok (.aload_n 0, 1) := by decide +kernel
theorem dX0_init_38 : decode cX0_init 38 = .ok (.getfield 30, 3) := by decide +kernel
theorem dX0_init_41 : decode cX0_init 41 = .ok (.arraylength, 1) := by decide +kernel
theorem dX0_init_42 : decode cX0_init 42 = .ok (.newarray .int, 2) := by decide +kernel
theorem dX0_init_44 : decode cX0_init 44 = .ok (.putfield 31, 3) := by decide +kernel
theorem dX0_init_47 : decode cX0_init 47 = .ok (.aload_n 0, 1) := by decide +kernel
theorem dX0_init_48 : decode cX0_init 48 = .ok (.aload_n 0, 1) := by decide +kernel
theorem dX0_init_49 : decode cX0_init 49 = .ok (.getfield 30, 3) := by decide +kernel
theorem dX0_init_52 : decode cX0_init 52 = .ok (.arraylength, 1) := by decide +kernel
theorem dX0_init_53 : decode cX0_init 53 = .ok (.newarray .int, 2) := by decide +kernel
theorem dX0_init_55 : decode cX0_init 55 = .ok (.putfield 34, 3) := by decide +kernel
theorem dX0_init_58 : decode cX0_init 58 = .ok (.aload_n 0, 1) := by decide +kernel
theorem dX0_init_59 : decode cX0_init 59 = .ok (.aload_n 0, 1) := by decide +kernel
theorem dX0_init_60 : decode cX0_init 60 = .ok (.getfield 30, 3) := by decide +kernel
theorem dX0_init_63 : decode cX0_init 63 = .ok (.arraylength, 1) := by decide +kernel
theorem dX0_init_64 : decode cX0_init 64 = .ok (.newarray .int, 2) := by decide +kernel
theorem dX0_init_66 : decode cX0_init 66 = .ok (.putfield 37, 3) := by decide +kernel
theorem dX0_init_69 : decode cX0_init 69 = .ok (.iconst 0, 1) := by decide +kernel
theorem dX0_init_70 : decode cX0_init 70 = .ok (.istore_n 3, 1) := by decide +kernel
theorem dX0_init_71 : decode cX0_init 71 = .ok (.iconst 0, 1) := by decide +kernel
theorem dX0_init_72 : decode cX0_init 72 = .ok (.istore 4, 2) := by decide +kernel
theorem dX0_init_74 : decode cX0_init 74 = .ok (.iload 4, 2) := by decide +kernel
theorem dX0_init_76 : decode cX0_init 76 = .ok (.aload_n 0, 1) := by decide +kernel
theorem dX0_init_77 : decode cX0_init 77 = .ok (.getfield 30, 3) := by decide +kernel
theorem dX0_init_80 : decode cX0_init 80 = .ok (.arraylength, 1) := by decide +kernel
theorem dX0_init_81 : decode cX0_init 81 = .ok (.if_icmp .ge 69, 3) := by decide +kernel
theorem dX0_init_84 : decode cX0_init 84 = .ok (.aload_n 0, 1) := by decide +kernel
theorem dX0_init_85 : decode cX0_init 85 = .ok (.getfield 31, 3) := by decide +kernel
theorem dX0_init_88 : decode cX0_init 88 = .ok (.iload 4, 2) := by decide +kernel
theorem dX0_init_90 : decode cX0_init 90 = .ok (.iload_n 3, 1) := by decide +kernel
theorem dX0_init_91 : decode cX0_init 91 = .ok (.iastore, 1) := by decide +kernel
theorem dX0_init_92 : decode cX0_init 92 = .ok (.aload_n 0, 1) := by decide +kernel
theorem dX0_init_93 : decode cX0_init 93 = .ok (.getfield 34, 3) := by decide +kernel
theorem dX0_init_96 : decode cX0_init 96 = .ok (.iload 4, 2) := by decide +kernel
theorem dX0_init_98 : decode cX0_init 98 = .ok (.iload_n 3, 1) := by decide +kernel
theorem dX0_init_99 : decode cX0_init 99 = .ok (.aload_n 0, 1) := by decide +kernel
theorem dX0_init_100 : decode cX0_init 100 = .ok (.getfield 21, 3) := by decide +kernel
theorem dX0_init_103 : decode cX0_init 103 = .ok (.iadd, 1) := by decide +kernel
theorem dX0_init_104 : decode cX0_init 104 = .ok (.aload_n 2, 1) := by decide +kernel
theorem dX0_init_105 : decode cX0_init 105 = .ok (.aload_n 0, 1) := by decide +kernel
theorem dX0_init_106 : decode cX0_init 106 = .ok (.getfield 30, 3) := by decide +kernel
theorem dX0_init_109 : decode cX0_init 109 = .ok (.iload 4, 2) := by decide +kernel
theorem dX0_init_111 : decode cX0_init 111 = .ok (.iaload, 1) := by decide +kernel
theorem dX0_init_112 : decode cX0_init 112 = .ok (.iaload, 1) := by decide +kernel
theorem dX0_init_113 : decode cX0_init 113 = .ok (.iadd, 1) := by decide +kernel
theorem dX0_init_114 : decode cX0_init 114 = .ok (.iastore, 1) := by decide +kernel
theorem dX0_init_115 : decode cX0_init 115 = .ok (.aload_n 0, 1) := by decide +kernel
theorem dX0_init_116 : decode cX0_init 116 = .ok (.getfield 37, 3) := by decide +kernel
theorem dX0_init_119 : decode cX0_init 119 = .ok (.iload 4, 2) := by decide +kernel
theorem dX0_init_121 : decode cX0_init 121 = .ok (.iload_n 3, 1) := by decide +kernel
theorem dX0_init_122 : decode cX0_init 122 = .ok (.aload_n 0, 1) := by decide +kernel
theorem dX0_init_123 : decode cX0_init 123 = .ok (.getfield 15, 3) := by decide +kernel
theorem dX0_init_126 : decode cX0_init 126 = .ok (.aload_n 0, 1) := by decide +kernel
theorem dX0_init_127 : decode cX0_init 127 = .ok (.getfield 21, 3) := by decide +kernel
theorem dX0_init_130 : decode cX0_init 130 = .ok (.invokestatic 40, 3) := by decide +kernel
theorem dX0_init_133 : decode cX0_init 133 = .ok (.iastore, 1) := by decide +kernel
theorem dX0_init_134 : decode cX0_init 134 = .ok (.aload_n 0, 1) := by decide +kernel
theorem dX0_init_135 : decode cX0_init 135 = .ok (.getfield 34, 3) := by decide +kernel
theorem dX0_init_138 : decode cX0_init 138 = .ok (.iload 4, 2) := by decide +kernel
theorem dX0_init_140 : decode cX0_init 140 = .ok (.iaload, 1) := by decide +kernel
theorem dX0_init_141 : decode cX0_init 141 = .ok (.iconst 2, 1) := by decide +kernel
theorem dX0_init_142 : decode cX0_init 142 = .ok (.iadd, 1) := by decide +kernel
theorem dX0_init_143 : decode cX0_init 143 = .ok (.istore_n 3, 1) := by decide +kernel
theorem dX0_init_144 : decode cX0_init 144 = .ok (.iinc 4 1, 3) := by decide +kernel
theorem dX0_init_147 : decode cX0_init 147 = .ok (.goto (-73), 3) := by decide +kernel
theorem dX0_init_150 : decode cX0_init 150 = .ok (.return_, 1) := by decide +kernel
theorem dX0_spansFrom_0 : decode cX0_spansFrom 0 = .ok (.iconst 0, 1) := by decide +kernel
theorem dX0_spansFrom_1 : decode cX0_spansFrom 1 = .ok (.istore_n 3, 1) := by decide +kernel
theorem dX0_spansFrom_2 : decode cX0_spansFrom 2 = .ok (.iconst 0, 1) := by decide +kernel
theorem dX0_spansFrom_3 : decode cX0_spansFrom 3 = .ok (.istore 4, 2) := by decide +kernel
theorem dX0_spansFrom_5 : decode cX0_spansFrom 5 = .ok (.iload 4, 2) := by decide +kernel
theorem dX0_spansFrom_7 : decode cX0_spansFrom 7 = .ok (.bipush 32, 2) := by decide +kernel
theorem dX0_spansFrom_9 : decode cX0_spansFrom 9 = .ok (.if_icmp .ge 42, 3) := by decide +kernel
theorem dX0_spansFrom_12 : decode cX0_spansFrom 12 = .ok (.iconst (-1), 1) := by decide +kernel
theorem dX0_spansFrom_13 : decode cX0_spansFrom 13 = .ok (.istore 5, 2) := by decide +kernel
theorem dX0_spansFrom_15 : decode cX0_spansFrom 15 = .ok (.iload 5, 2) := by decide +kernel
theorem dX0_spansFrom_17 : decode cX0_spansFrom 17 = .ok (.iload_n 2, 1) := by decide +kernel
theorem dX0_spansFrom_18 : decode cX0_spansFrom 18 = .ok (.if_icmp .ge 24, 3) := by decide +kernel
theorem dX0_spansFrom_21 : decode cX0_spansFrom 21 = .ok (.iload_n 3, 1) := by decide +kernel
theorem dX0_spansFrom_22 : decode cX0_spansFrom 22 = .ok (.iconst 1, 1) := by decide +kernel
theorem dX0_spansFrom_23 : decode cX0_spansFrom 23 = .ok (.iload_n 0, 1) := by decide +kernel
theorem dX0_spansFrom_24 : decode cX0_spansFrom 24 = .ok (.iload 4, 2) := by decide +kernel
theorem dX0_spansFrom_26 : decode cX0_spansFrom 26 = .ok (.iadd, 1) := by decide +kernel
theorem dX0_spansFrom_27 : decode cX0_spansFrom 27 = .ok (.iload 5, 2) := by decide +kernel
theorem dX0_spansFrom_29 : decode cX0_spansFrom 29 = .ok (.iadd, 1) := by decide +kernel
theorem dX0_spansFrom_30 : decode cX0_spansFrom 30 = .ok (.bipush 31, 2) := by decide +kernel
theorem dX0_spansFrom_32 : decode cX0_spansFrom 32 = .ok (.iand, 1) := by decide +kernel
theorem dX0_spansFrom_33 : decode cX0_spansFrom 33 = .ok (.ishl, 1) := by decide +kernel
theorem dX0_spansFrom_34 : decode cX0_spansFrom 34 = .ok (.ior, 1) := by decide +kernel
theorem dX0_spansFrom_35 : decode cX0_spansFrom 35 = .ok (.istore_n 3, 1) := by decide +kernel
theorem dX0_spansFrom_36 : decode cX0_spansFrom 36 = .ok (.iinc 5 1, 3) := by decide +kernel
theorem dX0_spansFrom_39 : decode cX0_spansFrom 39 = .ok (.goto (-24), 3) := by decide +kernel
theorem dX0_spansFrom_42 : decode cX0_spansFrom 42 = .ok (.iload 4, 2) := by decide +kernel
theorem dX0_spansFrom_44 : decode cX0_spansFrom 44 = .ok (.iload_n 1, 1) := by decide +kernel
theorem dX0_spansFrom_45 : decode cX0_spansFrom 45 = .ok (.iadd, 1) := by decide +kernel
theorem dX0_spansFrom_46 : decode cX0_spansFrom 46 = .ok (.istore 4, 2) := by decide +kernel
theorem dX0_spansFrom_48 : decode cX0_spansFrom 48 = .ok (.goto (-43), 3) := by decide +kernel
theorem dX0_spansFrom_51 : decode cX0_spansFrom 51 = .ok (.iload_n 3, 1) := by decide +kernel
theorem dX0_spansFrom_52 : decode cX0_spansFrom 52 = .ok (.ireturn, 1) := by decide +kernel
theorem dX0_latency_0 : decode cX0_latency 0 = .ok (.aload_n 0, 1) := by decide +kernel
theorem dX0_latency_1 : decode cX0_latency 1 = .ok (.getfield 34, 3) := by decide +kernel
theorem dX0_latency_4 : decode cX0_latency 4 = .ok (.aload_n 0, 1) := by decide +kernel
theorem dX0_latency_5 : decode cX0_latency 5 = .ok (.getfield 34, 3) := by decide +kernel
theorem dX0_latency_8 : decode cX0_latency 8 = .ok (.arraylength, 1) := by decide +kernel
theorem dX0_latency_9 : decode cX0_latency 9 = .ok (.iconst 1, 1) := by decide +kernel
theorem dX0_latency_10 : decode cX0_latency 10 = .ok (.isub, 1) := by decide +kernel
theorem dX0_latency_11 : decode cX0_latency 11 = .ok (.iaload, 1) := by decide +kernel
theorem dX0_latency_12 : decode cX0_latency 12 = .ok (.ireturn, 1) := by decide +kernel
theorem dX0_spansWith_0 : decode cX0_spansWith 0 = .ok (.aload_n 0, 1) := by decide +kernel
theorem dX0_spansWith_1 : decode cX0_spansWith 1 = .ok (.getfield 37, 3) := by decide +kernel
theorem dX0_spansWith_4 : decode cX0_spansWith 4 = .ok (.iload_n 1, 1) := by decide +kernel
theorem dX0_spansWith_5 : decode cX0_spansWith 5 = .ok (.iaload, 1) := by decide +kernel
theorem dX0_spansWith_6 : decode cX0_spansWith 6 = .ok (.iload_n 2, 1) := by decide +kernel
theorem dX0_spansWith_7 : decode cX0_spansWith 7 = .ok (.ishl, 1) := by decide +kernel
theorem dX0_spansWith_8 : decode cX0_spansWith 8 = .ok (.aload_n 0, 1) := by decide +kernel
theorem dX0_spansWith_9 : decode cX0_spansWith 9 = .ok (.getfield 37, 3) := by decide +kernel
theorem dX0_spansWith_12 : decode cX0_spansWith 12 = .ok (.iload_n 1, 1) := by decide +kernel
theorem dX0_spansWith_13 : decode cX0_spansWith 13 = .ok (.iaload, 1) := by decide +kernel
theorem dX0_spansWith_14 : decode cX0_spansWith 14 = .ok (.bipush 32, 2) := by decide +kernel
theorem dX0_spansWith_16 : decode cX0_spansWith 16 = .ok (.iload_n 2, 1) := by decide +kernel
theorem dX0_spansWith_17 : decode cX0_spansWith 17 = .ok (.isub, 1) := by decide +kernel
theorem dX0_spansWith_18 : decode cX0_spansWith 18 = .ok (.bipush 31, 2) := by decide +kernel
theorem dX0_spansWith_20 : decode cX0_spansWith 20 = .ok (.iand, 1) := by decide +kernel
theorem dX0_spansWith_21 : decode cX0_spansWith 21 = .ok (.iushr, 1) := by decide +kernel
theorem dX0_spansWith_22 : decode cX0_spansWith 22 = .ok (.ior, 1) := by decide +kernel
theorem dX0_spansWith_23 : decode cX0_spansWith 23 = .ok (.ireturn, 1) := by decide +kernel
theorem dX0_hasSpanAt_0 : decode cX0_hasSpanAt 0 = .ok (.aload_n 0, 1) := by decide +kernel
theorem dX0_hasSpanAt_1 : decode cX0_hasSpanAt 1 = .ok (.iload_n 1, 1) := by decide +kernel
theorem dX0_hasSpanAt_2 : decode cX0_hasSpanAt 2 = .ok (.aload_n 0, 1) := by decide +kernel
theorem dX0_hasSpanAt_3 : decode cX0_hasSpanAt 3 = .ok (.getfield 44, 3) := by decide +kernel
theorem dX0_hasSpanAt_6 : decode cX0_hasSpanAt 6 = .ok (.invokevirtual 47, 3) := by decide +kernel
theorem dX0_hasSpanAt_9 : decode cX0_hasSpanAt 9 = .ok (.iload_n 2, 1) := by decide +kernel
theorem dX0_hasSpanAt_10 : decode cX0_hasSpanAt 10 = .ok (.bipush 31, 2) := by decide +kernel
theorem dX0_hasSpanAt_12 : decode cX0_hasSpanAt 12 = .ok (.iand, 1) := by decide +kernel
theorem dX0_hasSpanAt_13 : decode cX0_hasSpanAt 13 = .ok (.iushr, 1) := by decide +kernel
theorem dX0_hasSpanAt_14 : decode cX0_hasSpanAt 14 = .ok (.iconst 1, 1) := by decide +kernel
theorem dX0_hasSpanAt_15 : decode cX0_hasSpanAt 15 = .ok (.iand, 1) := by decide +kernel
theorem dX0_hasSpanAt_16 : decode cX0_hasSpanAt 16 = .ok (.iconst 1, 1) := by decide +kernel
theorem dX0_hasSpanAt_17 : decode cX0_hasSpanAt 17 = .ok (.if_icmp .ne 7, 3) := by decide +kernel
theorem dX0_hasSpanAt_20 : decode cX0_hasSpanAt 20 = .ok (.iconst 1, 1) := by decide +kernel
theorem dX0_hasSpanAt_21 : decode cX0_hasSpanAt 21 = .ok (.goto 4, 3) := by decide +kernel
theorem dX0_hasSpanAt_24 : decode cX0_hasSpanAt 24 = .ok (.iconst 0, 1) := by decide +kernel
theorem dX0_hasSpanAt_25 : decode cX0_hasSpanAt 25 = .ok (.ireturn, 1) := by decide +kernel
theorem dX0_hopOn_0 : decode cX0_hopOn 0 = .ok (.iconst 0, 1) := by decide +kernel
theorem dX0_hopOn_1 : decode cX0_hopOn 1 = .ok (.istore_n 2, 1) := by decide +kernel
theorem dX0_hopOn_2 : decode cX0_hopOn 2 = .ok (.iload_n 2, 1) := by decide +kernel
theorem dX0_hopOn_3 : decode cX0_hopOn 3 = .ok (.aload_n 0, 1) := by decide +kernel
theorem dX0_hopOn_4 : decode cX0_hopOn 4 = .ok (.getfield 30, 3) := by decide +kernel
theorem dX0_hopOn_7 : decode cX0_hopOn 7 = .ok (.arraylength, 1) := by decide +kernel
theorem dX0_hopOn_8 : decode cX0_hopOn 8 = .ok (.if_icmp .ge 21, 3) := by decide +kernel
theorem dX0_hopOn_11 : decode cX0_hopOn 11 = .ok (.aload_n 0, 1) := by decide +kernel
theorem dX0_hopOn_12 : decode cX0_hopOn 12 = .ok (.getfield 30, 3) := by decide +kernel
theorem dX0_hopOn_15 : decode cX0_hopOn 15 = .ok (.iload_n 2, 1) := by decide +kernel
theorem dX0_hopOn_16 : decode cX0_hopOn 16 = .ok (.iaload, 1) := by decide +kernel
theorem dX0_hopOn_17 : decode cX0_hopOn 17 = .ok (.iload_n 1, 1) := by decide +kernel
theorem dX0_hopOn_18 : decode cX0_hopOn 18 = .ok (.if_icmp .ne 5, 3) := by decide +kernel
theorem dX0_hopOn_21 : decode cX0_hopOn 21 = .ok (.iload_n 2, 1) := by decide +kernel
theorem dX0_hopOn_22 : decode cX0_hopOn 22 = .ok (.ireturn, 1) := by decide +kernel
theorem dX0_hopOn_23 : decode cX0_hopOn 23 = .ok (.iinc 2 1, 3) := by decide +kernel
theorem dX0_hopOn_26 : decode cX0_hopOn 26 = .ok (.goto (-24), 3) := by decide +kernel
theorem dX0_hopOn_29 : decode cX0_hopOn 29 = .ok (.iconst (-1), 1) := by decide +kernel
theorem dX0_hopOn_30 : decode cX0_hopOn 30 = .ok (.ireturn, 1) := by decide +kernel
theorem dX0_beginsAt_0 : decode cX0_beginsAt 0 = .ok (.iload_n 1, 1) := by decide +kernel
theorem dX0_beginsAt_1 : decode cX0_beginsAt 1 = .ok (.aload_n 0, 1) := by decide +kernel
theorem dX0_beginsAt_2 : decode cX0_beginsAt 2 = .ok (.getfield 44, 3) := by decide +kernel
theorem dX0_beginsAt_5 : decode cX0_beginsAt 5 = .ok (.isub, 1) := by decide +kernel
theorem dX0_beginsAt_6 : decode cX0_beginsAt 6 = .ok (.aload_n 0, 1) := by decide +kernel
theorem dX0_beginsAt_7 : decode cX0_beginsAt 7 = .ok (.getfield 15, 3) := by decide +kernel
theorem dX0_beginsAt_10 : decode cX0_beginsAt 10 = .ok (.iconst 1, 1) := by decide +kernel
theorem dX0_beginsAt_11 : decode cX0_beginsAt 11 = .ok (.isub, 1) := by decide +kernel
theorem dX0_beginsAt_12 : decode cX0_beginsAt 12 = .ok (.iand, 1) := by decide +kernel
theorem dX0_beginsAt_13 : decode cX0_beginsAt 13 = .ok (.ifCond .ne 7, 3) := by decide +kernel
theorem dX0_beginsAt_16 : decode cX0_beginsAt 16 = .ok (.iconst 1, 1) := by decide +kernel
theorem dX0_beginsAt_17 : decode cX0_beginsAt 17 = .ok (.goto 4, 3) := by decide +kernel
theorem dX0_beginsAt_20 : decode cX0_beginsAt 20 = .ok (.iconst 0, 1) := by decide +kernel
theorem dX0_beginsAt_21 : decode cX0_beginsAt 21 = .ok (.ireturn, 1) := by decide +kernel
theorem dX1_init_0 : decode cX1_init 0 = .ok (.aload_n 0, 1) := by decide +kernel
theorem dX1_init_1 : decode cX1_init 1 = .ok (.invokespecial 3, 3) := by decide +kernel
theorem dX1_init_4 : decode cX1_init 4 = .ok (.aload_n 0, 1) := by decide +kernel
theorem dX1_init_5 : decode cX1_init 5 = .ok (.iconst 4, 1) := by decide +kernel
theorem dX1_init_6 : decode cX1_init 6 = .ok (.newarray .int, 2) := by decide +kernel
theorem dX1_init_8 : decode cX1_init 8 = .ok (.putfield 9, 3) := by decide +kernel
theorem dX1_init_11 : decode cX1_init 11 = .ok (.return_, 1) := by decide +kernel
theorem dX1_append_0 : decode cX1_append 0 = .ok (.aload_n 0, 1) := by decide +kernel
theorem dX1_append_1 : decode cX1_append 1 = .ok (.getfield 15, 3) := by decide +kernel
theorem dX1_append_4 : decode cX1_append 4 = .ok (.iconst 4, 1) := by decide +kernel
theorem dX1_append_5 : decode cX1_append 5 = .ok (.if_icmp .ge 23, 3) := by decide +kernel
theorem dX1_append_8 : decode cX1_append 8 = .ok (.aload_n 0, 1) := by decide +kernel
theorem dX1_append_9 : decode cX1_append 9 = .ok (.getfield 9, 3) := by decide +kernel
theorem dX1_append_12 : decode cX1_append 12 = .ok (.aload_n 0, 1) := by decide +kernel
theorem dX1_append_13 : decode cX1_append 13 = .ok (.getfield 15, 3) := by decide +kernel
theorem dX1_append_16 : decode cX1_append 16 = .ok (.iload_n 1, 1) := by decide +kernel
theorem dX1_append_17 : decode cX1_append 17 = .ok (.iastore, 1) := by decide +kernel
theorem dX1_append_18 : decode cX1_append 18 = .ok (.aload_n 0, 1) := by decide +kernel
theorem dX1_append_19 : decode cX1_append 19 = .ok (.dup, 1) := by decide +kernel
theorem dX1_append_20 : decode cX1_append 20 = .ok (.getfield 15, 3) := by decide +kernel
theorem dX1_append_23 : decode cX1_append 23 = .ok (.iconst 1, 1) := by decide +kernel
theorem dX1_append_24 : decode cX1_append 24 = .ok (.iadd, 1) := by decide +kernel
theorem dX1_append_25 : decode cX1_append 25 = .ok (.putfield 15, 3) := by decide +kernel
theorem dX1_append_28 : decode cX1_append 28 = .ok (.return_, 1) := by decide +kernel
theorem dX1_canBegin_0 : decode cX1_canBegin 0 = .ok (.aload_n 0, 1) := by decide +kernel
theorem dX1_canBegin_1 : decode cX1_canBegin 1 = .ok (.getfield 19, 3) := by decide +kernel
theorem dX1_canBegin_4 : decode cX1_canBegin 4 = .ok (.ifCond .ne 21, 3) := by decide +kernel
theorem dX1_canBegin_7 : decode cX1_canBegin 7 = .ok (.aload_n 0, 1) := by decide +kernel
theorem dX1_canBegin_8 : decode cX1_canBegin 8 = .ok (.getfield 22, 3) := by decide +kernel
theorem dX1_canBegin_11 : decode cX1_canBegin 11 = .ok (.ifCond .ne 14, 3) := by decide +kernel
theorem dX1_canBegin_14 : decode cX1_canBegin 14 = .ok (.aload_n 0, 1) := by decide +kernel
theorem dX1_canBegin_15 : decode cX1_canBegin 15 = .ok (.getfield 15, 3) := by decide +kernel
theorem dX1_canBegin_18 : decode cX1_canBegin 18 = .ok (.ifCond .le 7, 3) := by decide +kernel
theorem dX1_canBegin_21 : decode cX1_canBegin 21 = .ok (.iconst 1, 1) := by decide +kernel
theorem dX1_canBegin_22 : decode cX1_canBegin 22 = .ok (.goto 4, 3) := by decide +kernel
theorem dX1_canBegin_25 : decode cX1_canBegin 25 = .ok (.iconst 0, 1) := by decide +kernel
theorem dX1_canBegin_26 : decode cX1_canBegin 26 = .ok (.ireturn, 1) := by decide +kernel
theorem dX1_beginFirst_0 : decode cX1_beginFirst 0 = .ok (.aload_n 0, 1) := by decide +kernel
theorem dX1_beginFirst_1 : decode cX1_beginFirst 1 = .ok (.aload_n 0, 1) := by decide +kernel
theorem dX1_beginFirst_2 : decode cX1_beginFirst 2 = .ok (.getfield 9, 3) := by decide +kernel
theorem dX1_beginFirst_5 : decode cX1_beginFirst 5 = .ok (.iconst 0, 1) := by decide +kernel
theorem dX1_beginFirst_6 : decode cX1_beginFirst 6 = .ok (.iaload, 1) := by decide +kernel
theorem dX1_beginFirst_7 : decode cX1_beginFirst 7 = .ok (.putfield 19, 3) := by decide +kernel
theorem dX1_beginFirst_10 : decode cX1_beginFirst 10 = .ok (.iconst 1, 1) := by decide +kernel
theorem dX1_beginFirst_11 : decode cX1_beginFirst 11 = .ok (.istore_n 1, 1) := by decide +kernel
theorem dX1_beginFirst_12 : decode cX1_beginFirst 12 = .ok (.iload_n 1, 1) := by decide +kernel
theorem dX1_beginFirst_13 : decode cX1_beginFirst 13 = .ok (.aload_n 0, 1) := by decide +kernel
theorem dX1_beginFirst_14 : decode cX1_beginFirst 14 = .ok (.getfield 15, 3) := by decide +kernel
theorem dX1_beginFirst_17 : decode cX1_beginFirst 17 = .ok (.if_icmp .ge 23, 3) := by decide +kernel
theorem dX1_beginFirst_20 : decode cX1_beginFirst 20 = .ok (.aload_n 0, 1) := by decide +kernel
theorem dX1_beginFirst_21 : decode cX1_beginFirst 21 = .ok (.getfield 9, 3) := by decide +kernel
theorem dX1_beginFirst_24 : decode cX1_beginFirst 24 = .ok (.iload_n 1, 1) := by decide +kernel
theorem dX1_beginFirst_25 : decode cX1_beginFirst 25 = .ok (.iconst 1, 1) := by decide +kernel
theorem dX1_beginFirst_26 : decode cX1_beginFirst 26 = .ok (.isub, 1) := by decide +kernel
theorem dX1_beginFirst_27 : decode cX1_beginFirst 27 = .ok (.aload_n 0, 1) := by decide +kernel
theorem dX1_beginFirst_28 : decode cX1_beginFirst 28 = .ok (.getfield 9, 3) := by decide +kernel
theorem dX1_beginFirst_31 : decode cX1_beginFirst 31 = .ok (.iload_n 1, 1) := by decide +kernel
theorem dX1_beginFirst_32 : decode cX1_beginFirst 32 = .ok (.iaload, 1) := by decide +kernel
theorem dX1_beginFirst_33 : decode cX1_beginFirst 33 = .ok (.iastore, 1) := by decide +kernel
theorem dX1_beginFirst_34 : decode cX1_beginFirst 34 = .ok (.iinc 1 1, 3) := by decide +kernel
theorem dX1_beginFirst_37 : decode cX1_beginFirst 37 = .ok (.goto (-25), 3) := by decide +kernel
theorem dX1_beginFirst_40 : decode cX1_beginFirst 40 = .ok (.aload_n 0, 1) := by decide +kernel
theorem dX1_beginFirst_41 : decode cX1_beginFirst 41 = .ok (.dup, 1) := by decide +kernel
theorem dX1_beginFirst_42 : decode cX1_beginFirst 42 = .ok (.getfield 15, 3) := by decide +kernel
theorem dX1_beginFirst_45 : decode cX1_beginFirst 45 = .ok (.iconst 1, 1) := by decide +kernel
theorem dX1_beginFirst_46 : decode cX1_beginFirst 46 = .ok (.isub, 1) := by decide +kernel
theorem dX1_beginFirst_47 : decode cX1_beginFirst 47 = .ok (.putfield 15, 3) := by decide +kernel
theorem dX1_beginFirst_50 : decode cX1_beginFirst 50 = .ok (.return_, 1) := by decide +kernel
theorem dX1_endTick_0 : decode cX1_endTick 0 = .ok (.aload_n 0, 1) := by decide +kernel
theorem dX1_endTick_1 : decode cX1_endTick 1 = .ok (.getfield 19, 3) := by decide +kernel
theorem dX1_endTick_4 : decode cX1_endTick 4 = .ok (.ifCond .le 30, 3) := by decide +kernel
theorem dX1_endTick_7 : decode cX1_endTick 7 = .ok (.aload_n 0, 1) := by decide +kernel
theorem dX1_endTick_8 : decode cX1_endTick 8 = .ok (.dup, 1) := by decide +kernel
theorem dX1_endTick_9 : decode cX1_endTick 9 = .ok (.getfield 19, 3) := by decide +kernel
theorem dX1_endTick_12 : decode cX1_endTick 12 = .ok (.iconst 1, 1) := by decide +kernel
theorem dX1_endTick_13 : decode cX1_endTick 13 = .ok (.isub, 1) := by decide +kernel
theorem dX1_endTick_14 : decode cX1_endTick 14 = .ok (.putfield 19, 3) := by decide +kernel
theorem dX1_endTick_17 : decode cX1_endTick 17 = .ok (.aload_n 0, 1) := by decide +kernel
theorem dX1_endTick_18 : decode cX1_endTick 18 = .ok (.getfield 19, 3) := by decide +kernel
theorem dX1_endTick_21 : decode cX1_endTick 21 = .ok (.ifCond .ne 13, 3) := by decide +kernel
theorem dX1_endTick_24 : decode cX1_endTick 24 = .ok (.aload_n 0, 1) := by decide +kernel
theorem dX1_endTick_25 : decode cX1_endTick 25 = .ok (.dup, 1) := by decide +kernel
theorem dX1_endTick_26 : decode cX1_endTick 26 = .ok (.getfield 26, 3) := by decide +kernel
theorem dX1_endTick_29 : decode cX1_endTick 29 = .ok (.iconst 1, 1) := by decide +kernel
theorem dX1_endTick_30 : decode cX1_endTick 30 = .ok (.iadd, 1) := by decide +kernel
theorem dX1_endTick_31 : decode cX1_endTick 31 = .ok (.putfield 26, 3) := by decide +kernel
theorem dX1_endTick_34 : decode cX1_endTick 34 = .ok (.return_, 1) := by decide +kernel
theorem dX2_init_0 : decode cX2_init 0 = .ok (.aload_n 0, 1) := by decide +kernel
theorem dX2_init_1 : decode cX2_init 1 = .ok (.invokespecial 3, 3) := by decide +kernel
theorem dX2_init_4 : decode cX2_init 4 = .ok (.aload_n 0, 1) := by decide +kernel
theorem dX2_init_5 : decode cX2_init 5 = .ok (.aload_n 1, 1) := by decide +kernel
theorem dX2_init_6 : decode cX2_init 6 = .ok (.putfield 9, 3) := by decide +kernel
theorem dX2_init_9 : decode cX2_init 9 = .ok (.return_, 1) := by decide +kernel
theorem dX2_ownerOf_0 : decode cX2_ownerOf 0 = .ok (.iconst 0, 1) := by decide +kernel
theorem dX2_ownerOf_1 : decode cX2_ownerOf 1 = .ok (.istore_n 3, 1) := by decide +kernel
theorem dX2_ownerOf_2 : decode cX2_ownerOf 2 = .ok (.iload_n 3, 1) := by decide +kernel
theorem dX2_ownerOf_3 : decode cX2_ownerOf 3 = .ok (.aload_n 0, 1) := by decide +kernel
theorem dX2_ownerOf_4 : decode cX2_ownerOf 4 = .ok (.getfield 9, 3) := by decide +kernel
theorem dX2_ownerOf_7 : decode cX2_ownerOf 7 = .ok (.arraylength, 1) := by decide +kernel
theorem dX2_ownerOf_8 : decode cX2_ownerOf 8 = .ok (.if_icmp .ge 44, 3) := by decide +kernel
theorem dX2_ownerOf_11 : decode cX2_ownerOf 11 = .ok (.aload_n 0, 1) := by decide +kernel
theorem dX2_ownerOf_12 : decode cX2_ownerOf 12 = .ok (.getfield 9, 3) := by decide +kernel
theorem dX2_ownerOf_15 : decode cX2_ownerOf 15 = .ok (.iload_n 3, 1) := by decide +kernel
theorem dX2_ownerOf_16 : decode cX2_ownerOf 16 = .ok (.aaload, 1) := by decide +kernel
theorem dX2_ownerOf_17 : decode cX2_ownerOf 17 = .ok (.iload_n 1, 1) := by decide +kernel
theorem dX2_ownerOf_18 : decode cX2_ownerOf 18 = .ok (.invokevirtual 15, 3) := by decide +kernel
theorem dX2_ownerOf_21 : decode cX2_ownerOf 21 = .ok (.istore 4, 2) := by decide +kernel
theorem dX2_ownerOf_23 : decode cX2_ownerOf 23 = .ok (.iload 4, 2) := by decide +kernel
theorem dX2_ownerOf_25 : decode cX2_ownerOf 25 = .ok (.iconst (-1), 1) := by decide +kernel
theorem dX2_ownerOf_26 : decode cX2_ownerOf 26 = .ok (.if_icmp .eq 20, 3) := by decide +kernel
theorem dX2_ownerOf_29 : decode cX2_ownerOf 29 = .ok (.aload_n 0, 1) := by decide +kernel
theorem dX2_ownerOf_30 : decode cX2_ownerOf 30 = .ok (.getfield 9, 3) := by decide +kernel
theorem dX2_ownerOf_33 : decode cX2_ownerOf 33 = .ok (.iload_n 3, 1) := by decide +kernel
theorem dX2_ownerOf_34 : decode cX2_ownerOf 34 = .ok (.aaload, 1) := by decide +kernel
theorem dX2_ownerOf_35 : decode cX2_ownerOf 35 = .ok (.iload 4, 2) := by decide +kernel
theorem dX2_ownerOf_37 : decode cX2_ownerOf 37 = .ok (.iload_n 2, 1) := by decide +kernel
theorem dX2_ownerOf_38 : decode cX2_ownerOf 38 = .ok (.invokevirtual 21, 3) := by decide +kernel
theorem dX2_ownerOf_41 : decode cX2_ownerOf 41 = .ok (.ifCond .eq 5, 3) := by decide +kernel
theorem dX2_ownerOf_44 : decode cX2_ownerOf 44 = .ok (.iload_n 3, 1) := by decide +kernel
theorem dX2_ownerOf_45 : decode cX2_ownerOf 45 = .ok (.ireturn, 1) := by decide +kernel
theorem dX2_ownerOf_46 : decode cX2_ownerOf 46 = .ok (.iinc 3 1, 3) := by decide +kernel
theorem dX2_ownerOf_49 : decode cX2_ownerOf 49 = .ok (.goto (-47), 3) := by decide +kernel
theorem dX2_ownerOf_52 : decode cX2_ownerOf 52 = .ok (.iconst (-1), 1) := by decide +kernel
theorem dX2_ownerOf_53 : decode cX2_ownerOf 53 = .ok (.ireturn, 1) := by decide +kernel
theorem dX2_isFree_0 : decode cX2_isFree 0 = .ok (.iconst 0, 1) := by decide +kernel
theorem dX2_isFree_1 : decode cX2_isFree 1 = .ok (.istore 4, 2) := by decide +kernel
theorem dX2_isFree_3 : decode cX2_isFree 3 = .ok (.iload 4, 2) := by decide +kernel
theorem dX2_isFree_5 : decode cX2_isFree 5 = .ok (.iload_n 3, 1) := by decide +kernel
theorem dX2_isFree_6 : decode cX2_isFree 6 = .ok (.if_icmp .ge 24, 3) := by decide +kernel
theorem dX2_isFree_9 : decode cX2_isFree 9 = .ok (.aload_n 0, 1) := by decide +kernel
theorem dX2_isFree_10 : decode cX2_isFree 10 = .ok (.iload_n 1, 1) := by decide +kernel
theorem dX2_isFree_11 : decode cX2_isFree 11 = .ok (.iload_n 2, 1) := by decide +kernel
theorem dX2_isFree_12 : decode cX2_isFree 12 = .ok (.iload 4, 2) := by decide +kernel
theorem dX2_isFree_14 : decode cX2_isFree 14 = .ok (.iadd, 1) := by decide +kernel
theorem dX2_isFree_15 : decode cX2_isFree 15 = .ok (.invokevirtual 25, 3) := by decide +kernel
theorem dX2_isFree_18 : decode cX2_isFree 18 = .ok (.iconst (-1), 1) := by decide +kernel
theorem dX2_isFree_19 : decode cX2_isFree 19 = .ok (.if_icmp .eq 5, 3) := by decide +kernel
theorem dX2_isFree_22 : decode cX2_isFree 22 = .ok (.iconst 0, 1) := by decide +kernel
theorem dX2_isFree_23 : decode cX2_isFree 23 = .ok (.ireturn, 1) := by decide +kernel
theorem dX2_isFree_24 : decode cX2_isFree 24 = .ok (.iinc 4 1, 3) := by decide +kernel
theorem dX2_isFree_27 : decode cX2_isFree 27 = .ok (.goto (-24), 3) := by decide +kernel
theorem dX2_isFree_30 : decode cX2_isFree 30 = .ok (.iconst 1, 1) := by decide +kernel
theorem dX2_isFree_31 : decode cX2_isFree 31 = .ok (.ireturn, 1) := by decide +kernel
theorem dX3_init_0 : decode cX3_init 0 = .ok (.aload_n 0, 1) := by decide +kernel
theorem dX3_init_1 : decode cX3_init 1 = .ok (.invokespecial 3, 3) := by decide +kernel
theorem dX3_init_4 : decode cX3_init 4 = .ok (.aload_n 0, 1) := by decide +kernel
theorem dX3_init_5 : decode cX3_init 5 = .ok (.bipush 6, 2) := by decide +kernel
theorem dX3_init_7 : decode cX3_init 7 = .ok (.newarray .int, 2) := by decide +kernel
theorem dX3_init_9 : decode cX3_init 9 = .ok (.putfield 9, 3) := by decide +kernel
theorem dX3_init_12 : decode cX3_init 12 = .ok (.aload_n 0, 1) := by decide +kernel
theorem dX3_init_13 : decode cX3_init 13 = .ok (.bipush 6, 2) := by decide +kernel
theorem dX3_init_15 : decode cX3_init 15 = .ok (.bipush 6, 2) := by decide +kernel
theorem dX3_init_17 : decode cX3_init 17 = .ok (.multianewarray 15 2, 4) := by decide +kernel
theorem dX3_init_21 : decode cX3_init 21 = .ok (.putfield 17, 3) := by decide +kernel
theorem dX3_init_24 : decode cX3_init 24 = .ok (.return_, 1) := by decide +kernel
theorem dX3_run_0 : decode cX3_run 0 = .ok (.aload_n 0, 1) := by decide +kernel
theorem dX3_run_1 : decode cX3_run 1 = .ok (.iconst 0, 1) := by decide +kernel
theorem dX3_run_2 : decode cX3_run 2 = .ok (.putfield 20, 3) := by decide +kernel
theorem dX3_run_5 : decode cX3_run 5 = .ok (.aload_n 0, 1) := by decide +kernel
theorem dX3_run_6 : decode cX3_run 6 = .ok (.getfield 9, 3) := by decide +kernel
theorem dX3_run_9 : decode cX3_run 9 = .ok (.iconst 0, 1) := by decide +kernel
theorem dX3_run_10 : decode cX3_run 10 = .ok (.iconst 0, 1) := by decide +kernel
theorem dX3_run_11 : decode cX3_run 11 = .ok (.iastore, 1) := by decide +kernel
theorem dX3_run_12 : decode cX3_run 12 = .ok (.iconst 0, 1) := by decide +kernel
theorem dX3_run_13 : decode cX3_run 13 = .ok (.istore_n 3, 1) := by decide +kernel
theorem dX3_run_14 : decode cX3_run 14 = .ok (.iconst 0, 1) := by decide +kernel
theorem dX3_run_15 : decode cX3_run 15 = .ok (.istore 4, 2) := by decide +kernel
theorem dX3_run_17 : decode cX3_run 17 = .ok (.iload 4, 2) := by decide +kernel
theorem dX3_run_19 : decode cX3_run 19 = .ok (.ldc 24, 2) := by decide +kernel
theorem dX3_run_21 : decode cX3_run 21 = .ok (.if_icmp .ge 71, 3) := by decide +kernel
theorem dX3_run_24 : decode cX3_run 24 = .ok (.iload_n 3, 1) := by decide +kernel
theorem dX3_run_25 : decode cX3_run 25 = .ok (.ifCond .lt 67, 3) := by decide +kernel
theorem dX3_run_28 : decode cX3_run 28 = .ok (.iload_n 3, 1) := by decide +kernel
theorem dX3_run_29 : decode cX3_run 29 = .ok (.aload_n 1, 1) := by decide +kernel
theorem dX3_run_30 : decode cX3_run 30 = .ok (.arraylength, 1) := by decide +kernel
theorem dX3_run_31 : decode cX3_run 31 = .ok (.if_icmp .ge 61, 3) := by decide +kernel
theorem dX3_run_34 : decode cX3_run 34 = .ok (.aload_n 0, 1) := by decide +kernel
theorem dX3_run_35 : decode cX3_run 35 = .ok (.getfield 9, 3) := by decide +kernel
theorem dX3_run_38 : decode cX3_run 38 = .ok (.iload_n 3, 1) := by decide +kernel
theorem dX3_run_39 : decode cX3_run 39 = .ok (.iaload, 1) := by decide +kernel
theorem dX3_run_40 : decode cX3_run 40 = .ok (.aload_n 1, 1) := by decide +kernel
theorem dX3_run_41 : decode cX3_run 41 = .ok (.iload_n 3, 1) := by decide +kernel
theorem dX3_run_42 : decode cX3_run 42 = .ok (.aaload, 1) := by decide +kernel
theorem dX3_run_43 : decode cX3_run 43 = .ok (.getfield 25, 3) := by decide +kernel
theorem dX3_run_46 : decode cX3_run 46 = .ok (.if_icmp .lt 9, 3) := by decide +kernel
theorem dX3_run_49 : decode cX3_run 49 = .ok (.iinc 3 (-1), 3) := by decide +kernel
theorem dX3_run_52 : decode cX3_run 52 = .ok (.goto 34, 3) := by decide +kernel
theorem dX3_run_55 : decode cX3_run 55 = .ok (.aload_n 0, 1) := by decide +kernel
theorem dX3_run_56 : decode cX3_run 56 = .ok (.getfield 20, 3) := by decide +kernel
theorem dX3_run_59 : decode cX3_run 59 = .ok (.iload_n 2, 1) := by decide +kernel
theorem dX3_run_60 : decode cX3_run 60 = .ok (.if_icmp .lt 5, 3) := by decide +kernel
theorem dX3_run_63 : decode cX3_run 63 = .ok (.iconst (-1), 1) := by decide +kernel
theorem dX3_run_64 : decode cX3_run 64 = .ok (.ireturn, 1) := by decide +kernel
theorem dX3_run_65 : decode cX3_run 65 = .ok (.aload_n 0, 1) := by decide +kernel
theorem dX3_run_66 : decode cX3_run 66 = .ok (.aload_n 1, 1) := by decide +kernel
theorem dX3_run_67 : decode cX3_run 67 = .ok (.iload_n 3, 1) := by decide +kernel
theorem dX3_run_68 : decode cX3_run 68 = .ok (.aaload, 1) := by decide +kernel
theorem dX3_run_69 : decode cX3_run 69 = .ok (.iload_n 3, 1) := by decide +kernel
theorem dX3_run_70 : decode cX3_run 70 = .ok (.invokevirtual 30, 3) := by decide +kernel
theorem dX3_run_73 : decode cX3_run 73 = .ok (.ifCond .eq 13, 3) := by decide +kernel
theorem dX3_run_76 : decode cX3_run 76 = .ok (.iinc 3 1, 3) := by decide +kernel
theorem dX3_run_79 : decode cX3_run 79 = .ok (.aload_n 0, 1) := by decide +kernel
theorem dX3_run_80 : decode cX3_run 80 = .ok (.getfield 9, 3) := by decide +kernel
theorem dX3_run_83 : decode cX3_run 83 = .ok (.iload_n 3, 1) := by decide +kernel
theorem dX3_run_84 : decode cX3_run 84 = .ok (.iconst 0, 1) := by decide +kernel
theorem dX3_run_85 : decode cX3_run 85 = .ok (.iastore, 1) := by decide +kernel
theorem dX3_run_86 : decode cX3_run 86 = .ok (.iinc 4 1, 3) := by decide +kernel
theorem dX3_run_89 : decode cX3_run 89 = .ok (.goto (-72), 3) := by decide +kernel
theorem dX3_run_92 : decode cX3_run 92 = .ok (.iload_n 3, 1) := by decide +kernel
theorem dX3_run_93 : decode cX3_run 93 = .ok (.ifCond .ge 7, 3) := by decide +kernel
theorem dX3_run_96 : decode cX3_run 96 = .ok (.iconst 0, 1) := by decide +kernel
theorem dX3_run_97 : decode cX3_run 97 = .ok (.goto 4, 3) := by decide +kernel
theorem dX3_run_100 : decode cX3_run 100 = .ok (.iconst 1, 1) := by decide +kernel
theorem dX3_run_101 : decode cX3_run 101 = .ok (.ireturn, 1) := by decide +kernel
theorem dX3_fits_0 : decode cX3_fits 0 = .ok (.aload_n 0, 1) := by decide +kernel
theorem dX3_fits_1 : decode cX3_fits 1 = .ok (.getfield 9, 3) := by decide +kernel
theorem dX3_fits_4 : decode cX3_fits 4 = .ok (.iload_n 2, 1) := by decide +kernel
theorem dX3_fits_5 : decode cX3_fits 5 = .ok (.iaload, 1) := by decide +kernel
theorem dX3_fits_6 : decode cX3_fits 6 = .ok (.istore_n 3, 1) := by decide +kernel
theorem dX3_fits_7 : decode cX3_fits 7 = .ok (.aload_n 0, 1) := by decide +kernel
theorem dX3_fits_8 : decode cX3_fits 8 = .ok (.getfield 9, 3) := by decide +kernel
theorem dX3_fits_11 : decode cX3_fits 11 = .ok (.iload_n 2, 1) := by decide +kernel
theorem dX3_fits_12 : decode cX3_fits 12 = .ok (.dup2, 1) := by decide +kernel
theorem dX3_fits_13 : decode cX3_fits 13 = .ok (.iaload, 1) := by decide +kernel
theorem dX3_fits_14 : decode cX3_fits 14 = .ok (.iconst 1, 1) := by decide +kernel
theorem dX3_fits_15 : decode cX3_fits 15 = .ok (.iadd, 1) := by decide +kernel
theorem dX3_fits_16 : decode cX3_fits 16 = .ok (.iastore, 1) := by decide +kernel
theorem dX3_fits_17 : decode cX3_fits 17 = .ok (.aload_n 0, 1) := by decide +kernel
theorem dX3_fits_18 : decode cX3_fits 18 = .ok (.dup, 1) := by decide +kernel
theorem dX3_fits_19 : decode cX3_fits 19 = .ok (.getfield 20, 3) := by decide +kernel
theorem dX3_fits_22 : decode cX3_fits 22 = .ok (.iconst 1, 1) := by decide +kernel
theorem dX3_fits_23 : decode cX3_fits 23 = .ok (.iadd, 1) := by decide +kernel
theorem dX3_fits_24 : decode cX3_fits 24 = .ok (.putfield 20, 3) := by decide +kernel
theorem dX3_fits_27 : decode cX3_fits 27 = .ok (.aload_n 1, 1) := by decide +kernel
theorem dX3_fits_28 : decode cX3_fits 28 = .ok (.invokevirtual 34, 3) := by decide +kernel
theorem dX3_fits_31 : decode cX3_fits 31 = .ok (.aload_n 1, 1) := by decide +kernel
theorem dX3_fits_32 : decode cX3_fits 32 = .ok (.getfield 38, 3) := by decide +kernel
theorem dX3_fits_35 : decode cX3_fits 35 = .ok (.if_icmp .gt 17, 3) := by decide +kernel
theorem dX3_fits_38 : decode cX3_fits 38 = .ok (.aload_n 1, 1) := by decide +kernel
theorem dX3_fits_39 : decode cX3_fits 39 = .ok (.iload_n 3, 1) := by decide +kernel
theorem dX3_fits_40 : decode cX3_fits 40 = .ok (.aload_n 0, 1) := by decide +kernel
theorem dX3_fits_41 : decode cX3_fits 41 = .ok (.getfield 17, 3) := by decide +kernel
theorem dX3_fits_44 : decode cX3_fits 44 = .ok (.iload_n 2, 1) := by decide +kernel
theorem dX3_fits_45 : decode cX3_fits 45 = .ok (.aaload, 1) := by decide +kernel
theorem dX3_fits_46 : decode cX3_fits 46 = .ok (.invokestatic 41, 3) := by decide +kernel
theorem dX3_fits_49 : decode cX3_fits 49 = .ok (.ifCond .eq 5, 3) := by decide +kernel
theorem dX3_fits_52 : decode cX3_fits 52 = .ok (.iconst 0, 1) := by decide +kernel
theorem dX3_fits_53 : decode cX3_fits 53 = .ok (.ireturn, 1) := by decide +kernel
theorem dX3_fits_54 : decode cX3_fits 54 = .ok (.aload_n 1, 1) := by decide +kernel
theorem dX3_fits_55 : decode cX3_fits 55 = .ok (.iload_n 3, 1) := by decide +kernel
theorem dX3_fits_56 : decode cX3_fits 56 = .ok (.putfield 45, 3) := by decide +kernel
theorem dX3_fits_59 : decode cX3_fits 59 = .ok (.aload_n 0, 1) := by decide +kernel
theorem dX3_fits_60 : decode cX3_fits 60 = .ok (.getfield 17, 3) := by decide +kernel
theorem dX3_fits_63 : decode cX3_fits 63 = .ok (.iload_n 2, 1) := by decide +kernel
theorem dX3_fits_64 : decode cX3_fits 64 = .ok (.aaload, 1) := by decide +kernel
theorem dX3_fits_65 : decode cX3_fits 65 = .ok (.iconst 0, 1) := by decide +kernel
theorem dX3_fits_66 : decode cX3_fits 66 = .ok (.aload_n 0, 1) := by decide +kernel
theorem dX3_fits_67 : decode cX3_fits 67 = .ok (.getfield 17, 3) := by decide +kernel
theorem dX3_fits_70 : decode cX3_fits 70 = .ok (.iload_n 2, 1) := by decide +kernel
theorem dX3_fits_71 : decode cX3_fits 71 = .ok (.iconst 1, 1) := by decide +kernel
theorem dX3_fits_72 : decode cX3_fits 72 = .ok (.iadd, 1) := by decide +kernel
theorem dX3_fits_73 : decode cX3_fits 73 = .ok (.aaload, 1) := by decide +kernel
theorem dX3_fits_74 : decode cX3_fits 74 = .ok (.iconst 0, 1) := by decide +kernel
theorem dX3_fits_75 : decode cX3_fits 75 = .ok (.bipush 6, 2) := by decide +kernel
theorem dX3_fits_77 : decode cX3_fits 77 = .ok (.invokestatic 48, 3) := by decide +kernel
theorem dX3_fits_80 : decode cX3_fits 80 = .ok (.iconst 0, 1) := by decide +kernel
theorem dX3_fits_81 : decode cX3_fits 81 = .ok (.istore 4, 2) := by decide +kernel
theorem dX3_fits_83 : decode cX3_fits 83 = .ok (.iload 4, 2) := by decide +kernel
theorem dX3_fits_85 : decode cX3_fits 85 = .ok (.aload_n 1, 1) := by decide +kernel
theorem dX3_fits_86 : decode cX3_fits 86 = .ok (.getfield 54, 3) := by decide +kernel
theorem dX3_fits_89 : decode cX3_fits 89 = .ok (.arraylength, 1) := by decide +kernel
theorem dX3_fits_90 : decode cX3_fits 90 = .ok (.if_icmp .ge 35, 3) := by decide +kernel
theorem dX3_fits_93 : decode cX3_fits 93 = .ok (.aload_n 0, 1) := by decide +kernel
theorem dX3_fits_94 : decode cX3_fits 94 = .ok (.getfield 17, 3) := by decide +kernel
theorem dX3_fits_97 : decode cX3_fits 97 = .ok (.iload_n 2, 1) := by decide +kernel
theorem dX3_fits_98 : decode cX3_fits 98 = .ok (.iconst 1, 1) := by decide +kernel
theorem dX3_fits_99 : decode cX3_fits 99 = .ok (.iadd, 1) := by decide +kernel
theorem dX3_fits_100 : decode cX3_fits 100 = .ok (.aaload, 1) := by decide +kernel
theorem dX3_fits_101 : decode cX3_fits 101 = .ok (.aload_n 1, 1) := by decide +kernel
theorem dX3_fits_102 : decode cX3_fits 102 = .ok (.getfield 54, 3) := by decide +kernel
theorem dX3_fits_105 : decode cX3_fits 105 = .ok (.iload 4, 2) := by decide +kernel
theorem dX3_fits_107 : decode cX3_fits 107 = .ok (.iaload, 1) := by decide +kernel
theorem dX3_fits_108 : decode cX3_fits 108 = .ok (.dup2, 1) := by decide +kernel
theorem dX3_fits_109 : decode cX3_fits 109 = .ok (.iaload, 1) := by decide +kernel
theorem dX3_fits_110 : decode cX3_fits 110 = .ok (.aload_n 1, 1) := by decide +kernel
theorem dX3_fits_111 : decode cX3_fits 111 = .ok (.iload 4, 2) := by decide +kernel
theorem dX3_fits_113 : decode cX3_fits 113 = .ok (.iload_n 3, 1) := by decide +kernel
theorem dX3_fits_114 : decode cX3_fits 114 = .ok (.invokevirtual 57, 3) := by decide +kernel
theorem dX3_fits_117 : decode cX3_fits 117 = .ok (.ior, 1) := by decide +kernel
theorem dX3_fits_118 : decode cX3_fits 118 = .ok (.iastore, 1) := by decide +kernel
theorem dX3_fits_119 : decode cX3_fits 119 = .ok (.iinc 4 1, 3) := by decide +kernel
theorem dX3_fits_122 : decode cX3_fits 122 = .ok (.goto (-39), 3) := by decide +kernel
theorem dX3_fits_125 : decode cX3_fits 125 = .ok (.iconst 1, 1) := by decide +kernel
theorem dX3_fits_126 : decode cX3_fits 126 = .ok (.ireturn, 1) := by decide +kernel
theorem dX3_isTaken_0 : decode cX3_isTaken 0 = .ok (.iconst 0, 1) := by decide +kernel
theorem dX3_isTaken_1 : decode cX3_isTaken 1 = .ok (.istore_n 3, 1) := by decide +kernel
theorem dX3_isTaken_2 : decode cX3_isTaken 2 = .ok (.iload_n 3, 1) := by decide +kernel
theorem dX3_isTaken_3 : decode cX3_isTaken 3 = .ok (.aload_n 0, 1) := by decide +kernel
theorem dX3_isTaken_4 : decode cX3_isTaken 4 = .ok (.getfield 54, 3) := by decide +kernel
theorem dX3_isTaken_7 : decode cX3_isTaken 7 = .ok (.arraylength, 1) := by decide +kernel
theorem dX3_isTaken_8 : decode cX3_isTaken 8 = .ok (.if_icmp .ge 29, 3) := by decide +kernel
theorem dX3_isTaken_11 : decode cX3_isTaken 11 = .ok (.aload_n 2, 1) := by decide +kernel
theorem dX3_isTaken_12 : decode cX3_isTaken 12 = .ok (.aload_n 0, 1) := by decide +kernel
theorem dX3_isTaken_13 : decode cX3_isTaken 13 = .ok (.getfield 54, 3) := by decide +kernel
theorem dX3_isTaken_16 : decode cX3_isTaken 16 = .ok (.iload_n 3, 1) := by decide +kernel
theorem dX3_isTaken_17 : decode cX3_isTaken 17 = .ok (.iaload, 1) := by decide +kernel
theorem dX3_isTaken_18 : decode cX3_isTaken 18 = .ok (.iaload, 1) := by decide +kernel
theorem dX3_isTaken_19 : decode cX3_isTaken 19 = .ok (.aload_n 0, 1) := by decide +kernel
theorem dX3_isTaken_20 : decode cX3_isTaken 20 = .ok (.iload_n 3, 1) := by decide +kernel
theorem dX3_isTaken_21 : decode cX3_isTaken 21 = .ok (.iload_n 1, 1) := by decide +kernel
theorem dX3_isTaken_22 : decode cX3_isTaken 22 = .ok (.invokevirtual 57, 3) := by decide +kernel
theorem dX3_isTaken_25 : decode cX3_isTaken 25 = .ok (.iand, 1) := by decide +kernel
theorem dX3_isTaken_26 : decode cX3_isTaken 26 = .ok (.ifCond .eq 5, 3) := by decide +kernel
theorem dX3_isTaken_29 : decode cX3_isTaken 29 = .ok (.iconst 1, 1) := by decide +kernel
theorem dX3_isTaken_30 : decode cX3_isTaken 30 = .ok (.ireturn, 1) := by decide +kernel
theorem dX3_isTaken_31 : decode cX3_isTaken 31 = .ok (.iinc 3 1, 3) := by decide +kernel
theorem dX3_isTaken_34 : decode cX3_isTaken 34 = .ok (.goto (-32), 3) := by decide +kernel
theorem dX3_isTaken_37 : decode cX3_isTaken 37 = .ok (.iconst 0, 1) := by decide +kernel
theorem dX3_isTaken_38 : decode cX3_isTaken 38 = .ok (.ireturn, 1) := by decide +kernel
theorem dX4_init_0 : decode cX4_init 0 = .ok (.aload_n 0, 1) := by decide +kernel
theorem dX4_init_1 : decode cX4_init 1 = .ok (.invokespecial 1, 3) := by decide +kernel
theorem dX4_init_4 : decode cX4_init 4 = .ok (.aload_n 0, 1) := by decide +kernel
theorem dX4_init_5 : decode cX4_init 5 = .ok (.iload_n 1, 1) := by decide +kernel
theorem dX4_init_6 : decode cX4_init 6 = .ok (.putfield 7, 3) := by decide +kernel
theorem dX4_init_9 : decode cX4_init 9 = .ok (.aload_n 0, 1) := by decide +kernel
theorem dX4_init_10 : decode cX4_init 10 = .ok (.iload_n 2, 1) := by decide +kernel
theorem dX4_init_11 : decode cX4_init 11 = .ok (.putfield 13, 3) := by decide +kernel
theorem dX4_init_14 : decode cX4_init 14 = .ok (.aload_n 0, 1) := by decide +kernel
theorem dX4_init_15 : decode cX4_init 15 = .ok (.iload_n 3, 1) := by decide +kernel
theorem dX4_init_16 : decode cX4_init 16 = .ok (.putfield 16, 3) := by decide +kernel
theorem dX4_init_19 : decode cX4_init 19 = .ok (.aload_n 0, 1) := by decide +kernel
theorem dX4_init_20 : decode cX4_init 20 = .ok (.aload 4, 2) := by decide +kernel
theorem dX4_init_22 : decode cX4_init 22 = .ok (.putfield 19, 3) := by decide +kernel
theorem dX4_init_25 : decode cX4_init 25 = .ok (.return_, 1) := by decide +kernel
theorem dX5_init_0 : decode cX5_init 0 = .ok (.aload_n 0, 1) := by decide +kernel
theorem dX5_init_1 : decode cX5_init 1 = .ok (.invokespecial 3, 3) := by decide +kernel
theorem dX5_init_4 : decode cX5_init 4 = .ok (.aload_n 0, 1) := by decide +kernel
theorem dX5_init_5 : decode cX5_init 5 = .ok (.bipush 8, 2) := by decide +kernel
theorem dX5_init_7 : decode cX5_init 7 = .ok (.newarray .int, 2) := by decide +kernel
theorem dX5_init_9 : decode cX5_init 9 = .ok (.putfield 9, 3) := by decide +kernel
theorem dX5_init_12 : decode cX5_init 12 = .ok (.return_, 1) := by decide +kernel
theorem dX5_startAnew_0 : decode cX5_startAnew 0 = .ok (.aload_n 0, 1) := by decide +kernel
theorem dX5_startAnew_1 : decode cX5_startAnew 1 = .ok (.aload_n 1, 1) := by decide +kernel
theorem dX5_startAnew_2 : decode cX5_startAnew 2 = .ok (.putfield 15, 3) := by decide +kernel
theorem dX5_startAnew_5 : decode cX5_startAnew 5 = .ok (.aload_n 0, 1) := by decide +kernel
theorem dX5_startAnew_6 : decode cX5_startAnew 6 = .ok (.iconst 1, 1) := by decide +kernel
theorem dX5_startAnew_7 : decode cX5_startAnew 7 = .ok (.putfield 19, 3) := by decide +kernel
theorem dX5_startAnew_10 : decode cX5_startAnew 10 = .ok (.aload_n 0, 1) := by decide +kernel
theorem dX5_startAnew_11 : decode cX5_startAnew 11 = .ok (.iconst 0, 1) := by decide +kernel
theorem dX5_startAnew_12 : decode cX5_startAnew 12 = .ok (.putfield 23, 3) := by decide +kernel
theorem dX5_startAnew_15 : decode cX5_startAnew 15 = .ok (.aload_n 0, 1) := by decide +kernel
theorem dX5_startAnew_16 : decode cX5_startAnew 16 = .ok (.iconst 0, 1) := by decide +kernel
theorem dX5_startAnew_17 : decode cX5_startAnew 17 = .ok (.putfield 27, 3) := by decide +kernel
theorem dX5_startAnew_20 : decode cX5_startAnew 20 = .ok (.aload_n 0, 1) := by decide +kernel
theorem dX5_startAnew_21 : decode cX5_startAnew 21 = .ok (.iconst 0, 1) := by decide +kernel
theorem dX5_startAnew_22 : decode cX5_startAnew 22 = .ok (.putfield 30, 3) := by decide +kernel
theorem dX5_startAnew_25 : decode cX5_startAnew 25 = .ok (.aload_n 0, 1) := by decide +kernel
theorem dX5_startAnew_26 : decode cX5_startAnew 26 = .ok (.iconst 0, 1) := by decide +kernel
theorem dX5_startAnew_27 : decode cX5_startAnew 27 = .ok (.putfield 33, 3) := by decide +kernel
theorem dX5_startAnew_30 : decode cX5_startAnew 30 = .ok (.aload_n 0, 1) := by decide +kernel
theorem dX5_startAnew_31 : decode cX5_startAnew 31 = .ok (.iconst 0, 1) := by decide +kernel
theorem dX5_startAnew_32 : decode cX5_startAnew 32 = .ok (.putfield 36, 3) := by decide +kernel
theorem dX5_startAnew_35 : decode cX5_startAnew 35 = .ok (.aload_n 0, 1) := by decide +kernel
theorem dX5_startAnew_36 : decode cX5_startAnew 36 = .ok (.iconst 0, 1) := by decide +kernel
theorem dX5_startAnew_37 : decode cX5_startAnew 37 = .ok (.putfield 39, 3) := by decide +kernel
theorem dX5_startAnew_40 : decode cX5_startAnew 40 = .ok (.aload_n 0, 1) := by decide +kernel
theorem dX5_startAnew_41 : decode cX5_startAnew 41 = .ok (.iconst (-1), 1) := by decide +kernel
theorem dX5_startAnew_42 : decode cX5_startAnew 42 = .ok (.putfield 42, 3) := by decide +kernel
theorem dX5_startAnew_45 : decode cX5_startAnew 45 = .ok (.return_, 1) := by decide +kernel
theorem dX5_speak_0 : decode cX5_speak 0 = .ok (.aload_n 0, 1) := by decide +kernel
theorem dX5_speak_1 : decode cX5_speak 1 = .ok (.getfield 19, 3) := by decide +kernel
theorem dX5_speak_4 : decode cX5_speak 4 = .ok (.ifCond .eq 28, 3) := by decide +kernel
theorem dX5_speak_7 : decode cX5_speak 7 = .ok (.iload_n 1, 1) := by decide +kernel
theorem dX5_speak_8 : decode cX5_speak 8 = .ok (.aload_n 0, 1) := by decide +kernel
theorem dX5_speak_9 : decode cX5_speak 9 = .ok (.getfield 23, 3) := by decide +kernel
theorem dX5_speak_12 : decode cX5_speak 12 = .ok (.isub, 1) := by decide +kernel
theorem dX5_speak_13 : decode cX5_speak 13 = .ok (.ifCond .lt 19, 3) := by decide +kernel
theorem dX5_speak_16 : decode cX5_speak 16 = .ok (.aload_n 0, 1) := by decide +kernel
theorem dX5_speak_17 : decode cX5_speak 17 = .ok (.getfield 15, 3) := by decide +kernel
theorem dX5_speak_20 : decode cX5_speak 20 = .ok (.iload_n 1, 1) := by decide +kernel
theorem dX5_speak_21 : decode cX5_speak 21 = .ok (.aload_n 0, 1) := by decide +kernel
theorem dX5_speak_22 : decode cX5_speak 22 = .ok (.getfield 23, 3) := by decide +kernel
theorem dX5_speak_25 : decode cX5_speak 25 = .ok (.isub, 1) := by decide +kernel
theorem dX5_speak_26 : decode cX5_speak 26 = .ok (.invokevirtual 45, 3) := by decide +kernel
theorem dX5_speak_29 : decode cX5_speak 29 = .ok (.ifCond .ne 4, 3) := by decide +kernel
theorem dX5_speak_32 : decode cX5_speak 32 = .ok (.return_, 1) := by decide +kernel
theorem dX5_speak_33 : decode cX5_speak 33 = .ok (.aload_n 0, 1) := by decide +kernel
theorem dX5_speak_34 : decode cX5_speak 34 = .ok (.getfield 23, 3) := by decide +kernel
theorem dX5_speak_37 : decode cX5_speak 37 = .ok (.ifCond .gt 10, 3) := by decide +kernel
theorem dX5_speak_40 : decode cX5_speak 40 = .ok (.aload_n 0, 1) := by decide +kernel
theorem dX5_speak_41 : decode cX5_speak 41 = .ok (.getfield 27, 3) := by decide +kernel
theorem dX5_speak_44 : decode cX5_speak 44 = .ok (.ifCond .eq 21, 3) := by decide +kernel
theorem dX5_speak_47 : decode cX5_speak 47 = .ok (.aload_n 0, 1) := by decide +kernel
theorem dX5_speak_48 : decode cX5_speak 48 = .ok (.dup, 1) := by decide +kernel
theorem dX5_speak_49 : decode cX5_speak 49 = .ok (.getfield 39, 3) := by decide +kernel
theorem dX5_speak_52 : decode cX5_speak 52 = .ok (.iconst 1, 1) := by decide +kernel
theorem dX5_speak_53 : decode cX5_speak 53 = .ok (.iadd, 1) := by decide +kernel
theorem dX5_speak_54 : decode cX5_speak 54 = .ok (.putfield 39, 3) := by decide +kernel
theorem dX5_speak_57 : decode cX5_speak 57 = .ok (.aload_n 0, 1) := by decide +kernel
theorem dX5_speak_58 : decode cX5_speak 58 = .ok (.iconst 1, 1) := by decide +kernel
theorem dX5_speak_59 : decode cX5_speak 59 = .ok (.putfield 27, 3) := by decide +kernel
theorem dX5_speak_62 : decode cX5_speak 62 = .ok (.goto 32, 3) := by decide +kernel
theorem dX5_speak_65 : decode cX5_speak 65 = .ok (.aload_n 0, 1) := by decide +kernel
theorem dX5_speak_66 : decode cX5_speak 66 = .ok (.getfield 30, 3) := by decide +kernel
theorem dX5_speak_69 : decode cX5_speak 69 = .ok (.bipush 8, 2) := by decide +kernel
theorem dX5_speak_71 : decode cX5_speak 71 = .ok (.if_icmp .ge 23, 3) := by decide +kernel
theorem dX5_speak_74 : decode cX5_speak 74 = .ok (.aload_n 0, 1) := by decide +kernel
theorem dX5_speak_75 : decode cX5_speak 75 = .ok (.getfield 9, 3) := by decide +kernel
theorem dX5_speak_78 : decode cX5_speak 78 = .ok (.aload_n 0, 1) := by decide +kernel
theorem dX5_speak_79 : decode cX5_speak 79 = .ok (.getfield 30, 3) := by decide +kernel
theorem dX5_speak_82 : decode cX5_speak 82 = .ok (.iload_n 1, 1) := by decide +kernel
theorem dX5_speak_83 : decode cX5_speak 83 = .ok (.iastore, 1) := by decide +kernel
theorem dX5_speak_84 : decode cX5_speak 84 = .ok (.aload_n 0, 1) := by decide +kernel
theorem dX5_speak_85 : decode cX5_speak 85 = .ok (.dup, 1) := by decide +kernel
theorem dX5_speak_86 : decode cX5_speak 86 = .ok (.getfield 30, 3) := by decide +kernel
theorem dX5_speak_89 : decode cX5_speak 89 = .ok (.iconst 1, 1) := by decide +kernel
theorem dX5_speak_90 : decode cX5_speak 90 = .ok (.iadd, 1) := by decide +kernel
theorem dX5_speak_91 : decode cX5_speak 91 = .ok (.putfield 30, 3) := by decide +kernel
theorem dX5_speak_94 : decode cX5_speak 94 = .ok (.return_, 1) := by decide +kernel
theorem dX5_moveFrames_0 : decode cX5_moveFrames 0 = .ok (.iconst 0, 1) := by decide +kernel
theorem dX5_moveFrames_1 : decode cX5_moveFrames 1 = .ok (.istore_n 3, 1) := by decide +kernel
theorem dX5_moveFrames_2 : decode cX5_moveFrames 2 = .ok (.iconst 0, 1) := by decide +kernel
theorem dX5_moveFrames_3 : decode cX5_moveFrames 3 = .ok (.istore 4, 2) := by decide +kernel
theorem dX5_moveFrames_5 : decode cX5_moveFrames 5 = .ok (.iload 4, 2) := by decide +kernel
theorem dX5_moveFrames_7 : decode cX5_moveFrames 7 = .ok (.aload_n 0, 1) := by decide +kernel
theorem dX5_moveFrames_8 : decode cX5_moveFrames 8 = .ok (.getfield 30, 3) := by decide +kernel
theorem dX5_moveFrames_11 : decode cX5_moveFrames 11 = .ok (.if_icmp .ge 90, 3) := by decide +kernel
theorem dX5_moveFrames_14 : decode cX5_moveFrames 14 = .ok (.iload_n 1, 1) := by decide +kernel
theorem dX5_moveFrames_15 : decode cX5_moveFrames 15 = .ok (.aload_n 0, 1) := by decide +kernel
theorem dX5_moveFrames_16 : decode cX5_moveFrames 16 = .ok (.getfield 9, 3) := by decide +kernel
theorem dX5_moveFrames_19 : decode cX5_moveFrames 19 = .ok (.iload 4, 2) := by decide +kernel
theorem dX5_moveFrames_21 : decode cX5_moveFrames 21 = .ok (.iaload, 1) := by decide +kernel
theorem dX5_moveFrames_22 : decode cX5_moveFrames 22 = .ok (.isub, 1) := by decide +kernel
theorem dX5_moveFrames_23 : decode cX5_moveFrames 23 = .ok (.istore 5, 2) := by decide +kernel
theorem dX5_moveFrames_25 : decode cX5_moveFrames 25 = .ok (.aload_n 0, 1) := by decide +kernel
theorem dX5_moveFrames_26 : decode cX5_moveFrames 26 = .ok (.iload 5, 2) := by decide +kernel
theorem dX5_moveFrames_28 : decode cX5_moveFrames 28 = .ok (.aload_n 2, 1) := by decide +kernel
theorem dX5_moveFrames_29 : decode cX5_moveFrames 29 = .ok (.invokevirtual 51, 3) := by decide +kernel
theorem dX5_moveFrames_32 : decode cX5_moveFrames 32 = .ok (.ifCond .eq 16, 3) := by decide +kernel
theorem dX5_moveFrames_35 : decode cX5_moveFrames 35 = .ok (.aload_n 0, 1) := by decide +kernel
theorem dX5_moveFrames_36 : decode cX5_moveFrames 36 = .ok (.dup, 1) := by decide +kernel
theorem dX5_moveFrames_37 : decode cX5_moveFrames 37 = .ok (.getfield 36, 3) := by decide +kernel
theorem dX5_moveFrames_40 : decode cX5_moveFrames 40 = .ok (.iconst 1, 1) := by decide +kernel
theorem dX5_moveFrames_41 : decode cX5_moveFrames 41 = .ok (.iadd, 1) := by decide +kernel
theorem dX5_moveFrames_42 : decode cX5_moveFrames 42 = .ok (.putfield 36, 3) := by decide +kernel
theorem dX5_moveFrames_45 : decode cX5_moveFrames 45 = .ok (.goto 50, 3) := by decide +kernel
theorem dX5_moveFrames_48 : decode cX5_moveFrames 48 = .ok (.iload 5, 2) := by decide +kernel
theorem dX5_moveFrames_50 : decode cX5_moveFrames 50 = .ok (.aload_n 0, 1) := by decide +kernel
theorem dX5_moveFrames_51 : decode cX5_moveFrames 51 = .ok (.getfield 15, 3) := by decide +kernel
theorem dX5_moveFrames_54 : decode cX5_moveFrames 54 = .ok (.invokevirtual 55, 3) := by decide +kernel
theorem dX5_moveFrames_57 : decode cX5_moveFrames 57 = .ok (.if_icmp .ne 22, 3) := by decide +kernel
theorem dX5_moveFrames_60 : decode cX5_moveFrames 60 = .ok (.aload_n 0, 1) := by decide +kernel
theorem dX5_moveFrames_61 : decode cX5_moveFrames 61 = .ok (.dup, 1) := by decide +kernel
theorem dX5_moveFrames_62 : decode cX5_moveFrames 62 = .ok (.getfield 33, 3) := by decide +kernel
theorem dX5_moveFrames_65 : decode cX5_moveFrames 65 = .ok (.iconst 1, 1) := by decide +kernel
theorem dX5_moveFrames_66 : decode cX5_moveFrames 66 = .ok (.iadd, 1) := by decide +kernel
theorem dX5_moveFrames_67 : decode cX5_moveFrames 67 = .ok (.putfield 33, 3) := by decide +kernel
theorem dX5_moveFrames_70 : decode cX5_moveFrames 70 = .ok (.aload_n 0, 1) := by decide +kernel
theorem dX5_moveFrames_71 : decode cX5_moveFrames 71 = .ok (.iload 5, 2) := by decide +kernel
theorem dX5_moveFrames_73 : decode cX5_moveFrames 73 = .ok (.putfield 42, 3) := by decide +kernel
theorem dX5_moveFrames_76 : decode cX5_moveFrames 76 = .ok (.goto 19, 3) := by decide +kernel
theorem dX5_moveFrames_79 : decode cX5_moveFrames 79 = .ok (.aload_n 0, 1) := by decide +kernel
theorem dX5_moveFrames_80 : decode cX5_moveFrames 80 = .ok (.getfield 9, 3) := by decide +kernel
theorem dX5_moveFrames_83 : decode cX5_moveFrames 83 = .ok (.iload_n 3, 1) := by decide +kernel
theorem dX5_moveFrames_84 : decode cX5_moveFrames 84 = .ok (.aload_n 0, 1) := by decide +kernel
theorem dX5_moveFrames_85 : decode cX5_moveFrames 85 = .ok (.getfield 9, 3) := by decide +kernel
theorem dX5_moveFrames_88 : decode cX5_moveFrames 88 = .ok (.iload 4, 2) := by decide +kernel
theorem dX5_moveFrames_90 : decode cX5_moveFrames 90 = .ok (.iaload, 1) := by decide +kernel
theorem dX5_moveFrames_91 : decode cX5_moveFrames 91 = .ok (.iastore, 1) := by decide +kernel
theorem dX5_moveFrames_92 : decode cX5_moveFrames 92 = .ok (.iinc 3 1, 3) := by decide +kernel
theorem dX5_moveFrames_95 : decode cX5_moveFrames 95 = .ok (.iinc 4 1, 3) := by decide +kernel
theorem dX5_moveFrames_98 : decode cX5_moveFrames 98 = .ok (.goto (-93), 3) := by decide +kernel
theorem dX5_moveFrames_101 : decode cX5_moveFrames 101 = .ok (.aload_n 0, 1) := by decide +kernel
theorem dX5_moveFrames_102 : decode cX5_moveFrames 102 = .ok (.iload_n 3, 1) := by decide +kernel
theorem dX5_moveFrames_103 : decode cX5_moveFrames 103 = .ok (.putfield 30, 3) := by decide +kernel
theorem dX5_moveFrames_106 : decode cX5_moveFrames 106 = .ok (.return_, 1) := by decide +kernel
theorem dX5_beginsOnCut_0 : decode cX5_beginsOnCut 0 = .ok (.iconst 0, 1) := by decide +kernel
theorem dX5_beginsOnCut_1 : decode cX5_beginsOnCut 1 = .ok (.istore_n 3, 1) := by decide +kernel
theorem dX5_beginsOnCut_2 : decode cX5_beginsOnCut 2 = .ok (.iload_n 3, 1) := by decide +kernel
theorem dX5_beginsOnCut_3 : decode cX5_beginsOnCut 3 = .ok (.aload_n 0, 1) := by decide +kernel
theorem dX5_beginsOnCut_4 : decode cX5_beginsOnCut 4 = .ok (.getfield 15, 3) := by decide +kernel
theorem dX5_beginsOnCut_7 : decode cX5_beginsOnCut 7 = .ok (.getfield 58, 3) := by decide +kernel
theorem dX5_beginsOnCut_10 : decode cX5_beginsOnCut 10 = .ok (.arraylength, 1) := by decide +kernel
theorem dX5_beginsOnCut_11 : decode cX5_beginsOnCut 11 = .ok (.if_icmp .ge 41, 3) := by decide +kernel
theorem dX5_beginsOnCut_14 : decode cX5_beginsOnCut 14 = .ok (.aload_n 0, 1) := by decide +kernel
theorem dX5_beginsOnCut_15 : decode cX5_beginsOnCut 15 = .ok (.getfield 15, 3) := by decide +kernel
theorem dX5_beginsOnCut_18 : decode cX5_beginsOnCut 18 = .ok (.getfield 61, 3) := by decide +kernel
theorem dX5_beginsOnCut_21 : decode cX5_beginsOnCut 21 = .ok (.iload_n 3, 1) := by decide +kernel
theorem dX5_beginsOnCut_22 : decode cX5_beginsOnCut 22 = .ok (.iaload, 1) := by decide +kernel
theorem dX5_beginsOnCut_23 : decode cX5_beginsOnCut 23 = .ok (.iload_n 1, 1) := by decide +kernel
theorem dX5_beginsOnCut_24 : decode cX5_beginsOnCut 24 = .ok (.if_icmp .ne 22, 3) := by decide +kernel
theorem dX5_beginsOnCut_27 : decode cX5_beginsOnCut 27 = .ok (.aload_n 2, 1) := by decide +kernel
theorem dX5_beginsOnCut_28 : decode cX5_beginsOnCut 28 = .ok (.aload_n 0, 1) := by decide +kernel
theorem dX5_beginsOnCut_29 : decode cX5_beginsOnCut 29 = .ok (.getfield 15, 3) := by decide +kernel
theorem dX5_beginsOnCut_32 : decode cX5_beginsOnCut 32 = .ok (.getfield 58, 3) := by decide +kernel
theorem dX5_beginsOnCut_35 : decode cX5_beginsOnCut 35 = .ok (.iload_n 3, 1) := by decide +kernel
theorem dX5_beginsOnCut_36 : decode cX5_beginsOnCut 36 = .ok (.iaload, 1) := by decide +kernel
theorem dX5_beginsOnCut_37 : decode cX5_beginsOnCut 37 = .ok (.aaload, 1) := by decide +kernel
theorem dX5_beginsOnCut_38 : decode cX5_beginsOnCut 38 = .ok (.getfield 64, 3) := by decide +kernel
theorem dX5_beginsOnCut_41 : decode cX5_beginsOnCut 41 = .ok (.ifCond .eq 5, 3) := by decide +kernel
theorem dX5_beginsOnCut_44 : decode cX5_beginsOnCut 44 = .ok (.iconst 1, 1) := by decide +kernel
theorem dX5_beginsOnCut_45 : decode cX5_beginsOnCut 45 = .ok (.ireturn, 1) := by decide +kernel
theorem dX5_beginsOnCut_46 : decode cX5_beginsOnCut 46 = .ok (.iinc 3 1, 3) := by decide +kernel
theorem dX5_beginsOnCut_49 : decode cX5_beginsOnCut 49 = .ok (.goto (-47), 3) := by decide +kernel
theorem dX5_beginsOnCut_52 : decode cX5_beginsOnCut 52 = .ok (.iconst 0, 1) := by decide +kernel
theorem dX5_beginsOnCut_53 : decode cX5_beginsOnCut 53 = .ok (.ireturn, 1) := by decide +kernel
theorem dX5_loseOn_0 : decode cX5_loseOn 0 = .ok (.aload_n 0, 1) := by decide +kernel
theorem dX5_loseOn_1 : decode cX5_loseOn 1 = .ok (.getfield 15, 3) := by decide +kernel
theorem dX5_loseOn_4 : decode cX5_loseOn 4 = .ok (.iload_n 1, 1) := by decide +kernel
theorem dX5_loseOn_5 : decode cX5_loseOn 5 = .ok (.invokevirtual 69, 3) := by decide +kernel
theorem dX5_loseOn_8 : decode cX5_loseOn 8 = .ok (.istore_n 3, 1) := by decide +kernel
theorem dX5_loseOn_9 : decode cX5_loseOn 9 = .ok (.iload_n 3, 1) := by decide +kernel
theorem dX5_loseOn_10 : decode cX5_loseOn 10 = .ok (.iconst (-1), 1) := by decide +kernel
theorem dX5_loseOn_11 : decode cX5_loseOn 11 = .ok (.if_icmp .ne 4, 3) := by decide +kernel
theorem dX5_loseOn_14 : decode cX5_loseOn 14 = .ok (.return_, 1) := by decide +kernel
theorem dX5_loseOn_15 : decode cX5_loseOn 15 = .ok (.iconst 0, 1) := by decide +kernel
theorem dX5_loseOn_16 : decode cX5_loseOn 16 = .ok (.istore 4, 2) := by decide +kernel
theorem dX5_loseOn_18 : decode cX5_loseOn 18 = .ok (.iconst 0, 1) := by decide +kernel
theorem dX5_loseOn_19 : decode cX5_loseOn 19 = .ok (.istore 5, 2) := by decide +kernel
theorem dX5_loseOn_21 : decode cX5_loseOn 21 = .ok (.iload 5, 2) := by decide +kernel
theorem dX5_loseOn_23 : decode cX5_loseOn 23 = .ok (.aload_n 0, 1) := by decide +kernel
theorem dX5_loseOn_24 : decode cX5_loseOn 24 = .ok (.getfield 30, 3) := by decide +kernel
theorem dX5_loseOn_27 : decode cX5_loseOn 27 = .ok (.if_icmp .ge 78, 3) := by decide +kernel
theorem dX5_loseOn_30 : decode cX5_loseOn 30 = .ok (.iload_n 2, 1) := by decide +kernel
theorem dX5_loseOn_31 : decode cX5_loseOn 31 = .ok (.aload_n 0, 1) := by decide +kernel
theorem dX5_loseOn_32 : decode cX5_loseOn 32 = .ok (.getfield 9, 3) := by decide +kernel
theorem dX5_loseOn_35 : decode cX5_loseOn 35 = .ok (.iload 5, 2) := by decide +kernel
theorem dX5_loseOn_37 : decode cX5_loseOn 37 = .ok (.iaload, 1) := by decide +kernel
theorem dX5_loseOn_38 : decode cX5_loseOn 38 = .ok (.isub, 1) := by decide +kernel
theorem dX5_loseOn_39 : decode cX5_loseOn 39 = .ok (.istore 6, 2) := by decide +kernel
theorem dX5_loseOn_41 : decode cX5_loseOn 41 = .ok (.iload 6, 2) := by decide +kernel
theorem dX5_loseOn_43 : decode cX5_loseOn 43 = .ok (.aload_n 0, 1) := by decide +kernel
theorem dX5_loseOn_44 : decode cX5_loseOn 44 = .ok (.getfield 15, 3) := by decide +kernel
theorem dX5_loseOn_47 : decode cX5_loseOn 47 = .ok (.getfield 61, 3) := by decide +kernel
theorem dX5_loseOn_50 : decode cX5_loseOn 50 = .ok (.iload_n 3, 1) := by decide +kernel
theorem dX5_loseOn_51 : decode cX5_loseOn 51 = .ok (.iaload, 1) := by decide +kernel
theorem dX5_loseOn_52 : decode cX5_loseOn 52 = .ok (.if_icmp .le 30, 3) := by decide +kernel
theorem dX5_loseOn_55 : decode cX5_loseOn 55 = .ok (.iload 6, 2) := by decide +kernel
theorem dX5_loseOn_57 : decode cX5_loseOn 57 = .ok (.aload_n 0, 1) := by decide +kernel
theorem dX5_loseOn_58 : decode cX5_loseOn 58 = .ok (.getfield 15, 3) := by decide +kernel
theorem dX5_loseOn_61 : decode cX5_loseOn 61 = .ok (.getfield 73, 3) := by decide +kernel
theorem dX5_loseOn_64 : decode cX5_loseOn 64 = .ok (.iload_n 3, 1) := by decide +kernel
theorem dX5_loseOn_65 : decode cX5_loseOn 65 = .ok (.iaload, 1) := by decide +kernel
theorem dX5_loseOn_66 : decode cX5_loseOn 66 = .ok (.if_icmp .ge 16, 3) := by decide +kernel
theorem dX5_loseOn_69 : decode cX5_loseOn 69 = .ok (.aload_n 0, 1) := by decide +kernel
theorem dX5_loseOn_70 : decode cX5_loseOn 70 = .ok (.dup, 1) := by decide +kernel
theorem dX5_loseOn_71 : decode cX5_loseOn 71 = .ok (.getfield 36, 3) := by decide +kernel
theorem dX5_loseOn_74 : decode cX5_loseOn 74 = .ok (.iconst 1, 1) := by decide +kernel
theorem dX5_loseOn_75 : decode cX5_loseOn 75 = .ok (.iadd, 1) := by decide +kernel
theorem dX5_loseOn_76 : decode cX5_loseOn 76 = .ok (.putfield 36, 3) := by decide +kernel
theorem dX5_loseOn_79 : decode cX5_loseOn 79 = .ok (.goto 20, 3) := by decide +kernel
theorem dX5_loseOn_82 : decode cX5_loseOn 82 = .ok (.aload_n 0, 1) := by decide +kernel
theorem dX5_loseOn_83 : decode cX5_loseOn 83 = .ok (.getfield 9, 3) := by decide +kernel
theorem dX5_loseOn_86 : decode cX5_loseOn 86 = .ok (.iload 4, 2) := by decide +kernel
theorem dX5_loseOn_88 : decode cX5_loseOn 88 = .ok (.aload_n 0, 1) := by decide +kernel
theorem dX5_loseOn_89 : decode cX5_loseOn 89 = .ok (.getfield 9, 3) := by decide +kernel
theorem dX5_loseOn_92 : decode cX5_loseOn 92 = .ok (.iload 5, 2) := by decide +kernel
theorem dX5_loseOn_94 : decode cX5_loseOn 94 = .ok (.iaload, 1) := by decide +kernel
theorem dX5_loseOn_95 : decode cX5_loseOn 95 = .ok (.iastore, 1) := by decide +kernel
theorem dX5_loseOn_96 : decode cX5_loseOn 96 = .ok (.iinc 4 1, 3) := by decide +kernel
theorem dX5_loseOn_99 : decode cX5_loseOn 99 = .ok (.iinc 5 1, 3) := by decide +kernel
theorem dX5_loseOn_102 : decode cX5_loseOn 102 = .ok (.goto (-81), 3) := by decide +kernel
theorem dX5_loseOn_105 : decode cX5_loseOn 105 = .ok (.aload_n 0, 1) := by decide +kernel
theorem dX5_loseOn_106 : decode cX5_loseOn 106 = .ok (.iload 4, 2) := by decide +kernel
theorem dX5_loseOn_108 : decode cX5_loseOn 108 = .ok (.putfield 30, 3) := by decide +kernel
theorem dX5_loseOn_111 : decode cX5_loseOn 111 = .ok (.return_, 1) := by decide +kernel
theorem dX5_hasFrameOn_0 : decode cX5_hasFrameOn 0 = .ok (.aload_n 0, 1) := by decide +kernel
theorem dX5_hasFrameOn_1 : decode cX5_hasFrameOn 1 = .ok (.getfield 15, 3) := by decide +kernel
theorem dX5_hasFrameOn_4 : decode cX5_hasFrameOn 4 = .ok (.iload_n 1, 1) := by decide +kernel
theorem dX5_hasFrameOn_5 : decode cX5_hasFrameOn 5 = .ok (.invokevirtual 69, 3) := by decide +kernel
theorem dX5_hasFrameOn_8 : decode cX5_hasFrameOn 8 = .ok (.istore_n 3, 1) := by decide +kernel
theorem dX5_hasFrameOn_9 : decode cX5_hasFrameOn 9 = .ok (.iload_n 3, 1) := by decide +kernel
theorem dX5_hasFrameOn_10 : decode cX5_hasFrameOn 10 = .ok (.iconst (-1), 1) := by decide +kernel
theorem dX5_hasFrameOn_11 : decode cX5_hasFrameOn 11 = .ok (.if_icmp .ne 5, 3) := by decide +kernel
theorem dX5_hasFrameOn_14 : decode cX5_hasFrameOn 14 = .ok (.iconst 0, 1) := by decide +kernel
theorem dX5_hasFrameOn_15 : decode cX5_hasFrameOn 15 = .ok (.ireturn, 1) := by decide +kernel
theorem dX5_hasFrameOn_16 : decode cX5_hasFrameOn 16 = .ok (.iconst 0, 1) := by decide +kernel
theorem dX5_hasFrameOn_17 : decode cX5_hasFrameOn 17 = .ok (.istore 4, 2) := by decide +kernel
theorem dX5_hasFrameOn_19 : decode cX5_hasFrameOn 19 = .ok (.iload 4, 2) := by decide +kernel
theorem dX5_hasFrameOn_21 : decode cX5_hasFrameOn 21 = .ok (.aload_n 0, 1) := by decide +kernel
theorem dX5_hasFrameOn_22 : decode cX5_hasFrameOn 22 = .ok (.getfield 30, 3) := by decide +kernel
theorem dX5_hasFrameOn_25 : decode cX5_hasFrameOn 25 = .ok (.if_icmp .ge 49, 3) := by decide +kernel
theorem dX5_hasFrameOn_28 : decode cX5_hasFrameOn 28 = .ok (.iload_n 2, 1) := by decide +kernel
theorem dX5_hasFrameOn_29 : decode cX5_hasFrameOn 29 = .ok (.aload_n 0, 1) := by decide +kernel
theorem dX5_hasFrameOn_30 : decode cX5_hasFrameOn 30 = .ok (.getfield 9, 3) := by decide +kernel
theorem dX5_hasFrameOn_33 : decode cX5_hasFrameOn 33 = .ok (.iload 4, 2) := by decide +kernel
theorem dX5_hasFrameOn_35 : decode cX5_hasFrameOn 35 = .ok (.iaload, 1) := by decide +kernel
theorem dX5_hasFrameOn_36 : decode cX5_hasFrameOn 36 = .ok (.isub, 1) := by decide +kernel
theorem dX5_hasFrameOn_37 : decode cX5_hasFrameOn 37 = .ok (.aload_n 0, 1) := by decide +kernel
theorem dX5_hasFrameOn_38 : decode cX5_hasFrameOn 38 = .ok (.getfield 15, 3) := by decide +kernel
theorem dX5_hasFrameOn_41 : decode cX5_hasFrameOn 41 = .ok (.getfield 61, 3) := by decide +kernel
theorem dX5_hasFrameOn_44 : decode cX5_hasFrameOn 44 = .ok (.iload_n 3, 1) := by decide +kernel
theorem dX5_hasFrameOn_45 : decode cX5_hasFrameOn 45 = .ok (.iaload, 1) := by decide +kernel
theorem dX5_hasFrameOn_46 : decode cX5_hasFrameOn 46 = .ok (.isub, 1) := by decide +kernel
theorem dX5_hasFrameOn_47 : decode cX5_hasFrameOn 47 = .ok (.istore 5, 2) := by decide +kernel
theorem dX5_hasFrameOn_49 : decode cX5_hasFrameOn 49 = .ok (.iload 5, 2) := by decide +kernel
theorem dX5_hasFrameOn_51 : decode cX5_hasFrameOn 51 = .ok (.ifCond .le 17, 3) := by decide +kernel
theorem dX5_hasFrameOn_54 : decode cX5_hasFrameOn 54 = .ok (.iload 5, 2) := by decide +kernel
theorem dX5_hasFrameOn_56 : decode cX5_hasFrameOn 56 = .ok (.aload_n 0, 1) := by decide +kernel
theorem dX5_hasFrameOn_57 : decode cX5_hasFrameOn 57 = .ok (.getfield 15, 3) := by decide +kernel
theorem dX5_hasFrameOn_60 : decode cX5_hasFrameOn 60 = .ok (.getfield 76, 3) := by decide +kernel
theorem dX5_hasFrameOn_63 : decode cX5_hasFrameOn 63 = .ok (.if_icmp .ge 5, 3) := by decide +kernel
theorem dX5_hasFrameOn_66 : decode cX5_hasFrameOn 66 = .ok (.iconst 1, 1) := by decide +kernel
theorem dX5_hasFrameOn_67 : decode cX5_hasFrameOn 67 = .ok (.ireturn, 1) := by decide +kernel
theorem dX5_hasFrameOn_68 : decode cX5_hasFrameOn 68 = .ok (.iinc 4 1, 3) := by decide +kernel
theorem dX5_hasFrameOn_71 : decode cX5_hasFrameOn 71 = .ok (.goto (-52), 3) := by decide +kernel
theorem dX5_hasFrameOn_74 : decode cX5_hasFrameOn 74 = .ok (.iconst 0, 1) := by decide +kernel
theorem dX5_hasFrameOn_75 : decode cX5_hasFrameOn 75 = .ok (.ireturn, 1) := by decide +kernel
theorem dX6_init_0 : decode cX6_init 0 = .ok (.aload_n 0, 1) := by decide +kernel
theorem dX6_init_1 : decode cX6_init 1 = .ok (.invokespecial 1, 3) := by decide +kernel
theorem dX6_init_4 : decode cX6_init 4 = .ok (.aload_n 0, 1) := by decide +kernel
theorem dX6_init_5 : decode cX6_init 5 = .ok (.bipush 6, 2) := by decide +kernel
theorem dX6_init_7 : decode cX6_init 7 = .ok (.newarray .int, 2) := by decide +kernel
theorem dX6_init_9 : decode cX6_init 9 = .ok (.putfield 9, 3) := by decide +kernel
theorem dX6_init_12 : decode cX6_init 12 = .ok (.aload_n 0, 1) := by decide +kernel
theorem dX6_init_13 : decode cX6_init 13 = .ok (.iconst 5, 1) := by decide +kernel
theorem dX6_init_14 : decode cX6_init 14 = .ok (.anewarray 13, 3) := by decide +kernel
theorem dX6_init_17 : decode cX6_init 17 = .ok (.putfield 15, 3) := by decide +kernel
theorem dX6_init_20 : decode cX6_init 20 = .ok (.aload_n 0, 1) := by decide +kernel
theorem dX6_init_21 : decode cX6_init 21 = .ok (.new 19, 3) := by decide +kernel
theorem dX6_init_24 : decode cX6_init 24 = .ok (.dup, 1) := by decide +kernel
theorem dX6_init_25 : decode cX6_init 25 = .ok (.invokespecial 21, 3) := by decide +kernel
theorem dX6_init_28 : decode cX6_init 28 = .ok (.putfield 22, 3) := by decide +kernel
theorem dX6_init_31 : decode cX6_init 31 = .ok (.aload_n 0, 1) := by decide +kernel
theorem dX6_init_32 : decode cX6_init 32 = .ok (.iconst 5, 1) := by decide +kernel
theorem dX6_init_33 : decode cX6_init 33 = .ok (.anewarray 26, 3) := by decide +kernel
theorem dX6_init_36 : decode cX6_init 36 = .ok (.putfield 28, 3) := by decide +kernel
theorem dX6_init_39 : decode cX6_init 39 = .ok (.aload_n 0, 1) := by decide +kernel
theorem dX6_init_40 : decode cX6_init 40 = .ok (.bipush 6, 2) := by decide +kernel
theorem dX6_init_42 : decode cX6_init 42 = .ok (.anewarray 32, 3) := by decide +kernel
theorem dX6_init_45 : decode cX6_init 45 = .ok (.putfield 34, 3) := by decide +kernel
theorem dX6_init_48 : decode cX6_init 48 = .ok (.iconst 0, 1) := by decide +kernel
theorem dX6_init_49 : decode cX6_init 49 = .ok (.istore_n 1, 1) := by decide +kernel
theorem dX6_init_50 : decode cX6_init 50 = .ok (.iload_n 1, 1) := by decide +kernel
theorem dX6_init_51 : decode cX6_init 51 = .ok (.iconst 5, 1) := by decide +kernel
theorem dX6_init_52 : decode cX6_init 52 = .ok (.if_icmp .ge 22, 3) := by decide +kernel
theorem dX6_init_55 : decode cX6_init 55 = .ok (.aload_n 0, 1) := by decide +kernel
theorem dX6_init_56 : decode cX6_init 56 = .ok (.getfield 28, 3) := by decide +kernel
theorem dX6_init_59 : decode cX6_init 59 = .ok (.iload_n 1, 1) := by decide +kernel
theorem dX6_init_60 : decode cX6_init 60 = .ok (.new 26, 3) := by decide +kernel
theorem dX6_init_63 : decode cX6_init 63 = .ok (.dup, 1) := by decide +kernel
theorem dX6_init_64 : decode cX6_init 64 = .ok (.invokespecial 38, 3) := by decide +kernel
theorem dX6_init_67 : decode cX6_init 67 = .ok (.aastore, 1) := by decide +kernel
theorem dX6_init_68 : decode cX6_init 68 = .ok (.iinc 1 1, 3) := by decide +kernel
theorem dX6_init_71 : decode cX6_init 71 = .ok (.goto (-21), 3) := by decide +kernel
theorem dX6_init_74 : decode cX6_init 74 = .ok (.iconst 0, 1) := by decide +kernel
theorem dX6_init_75 : decode cX6_init 75 = .ok (.istore_n 1, 1) := by decide +kernel
theorem dX6_init_76 : decode cX6_init 76 = .ok (.iload_n 1, 1) := by decide +kernel
theorem dX6_init_77 : decode cX6_init 77 = .ok (.bipush 6, 2) := by decide +kernel
theorem dX6_init_79 : decode cX6_init 79 = .ok (.if_icmp .ge 22, 3) := by decide +kernel
theorem dX6_init_82 : decode cX6_init 82 = .ok (.aload_n 0, 1) := by decide +kernel
theorem dX6_init_83 : decode cX6_init 83 = .ok (.getfield 34, 3) := by decide +kernel
theorem dX6_init_86 : decode cX6_init 86 = .ok (.iload_n 1, 1) := by decide +kernel
theorem dX6_init_87 : decode cX6_init 87 = .ok (.new 32, 3) := by decide +kernel
theorem dX6_init_90 : decode cX6_init 90 = .ok (.dup, 1) := by decide +kernel
theorem dX6_init_91 : decode cX6_init 91 = .ok (.invokespecial 39, 3) := by decide +kernel
theorem dX6_init_94 : decode cX6_init 94 = .ok (.aastore, 1) := by decide +kernel
theorem dX6_init_95 : decode cX6_init 95 = .ok (.iinc 1 1, 3) := by decide +kernel
theorem dX6_init_98 : decode cX6_init 98 = .ok (.goto (-22), 3) := by decide +kernel
theorem dX6_init_101 : decode cX6_init 101 = .ok (.return_, 1) := by decide +kernel
theorem dX6_delay_0 : decode cX6_delay 0 = .ok (.iload_n 1, 1) := by decide +kernel
theorem dX6_delay_1 : decode cX6_delay 1 = .ok (.invokestatic 40, 3) := by decide +kernel
theorem dX6_delay_4 : decode cX6_delay 4 = .ok (.iload_n 2, 1) := by decide +kernel
theorem dX6_delay_5 : decode cX6_delay 5 = .ok (.ifCond .lt 9, 3) := by decide +kernel
theorem dX6_delay_8 : decode cX6_delay 8 = .ok (.iload_n 2, 1) := by decide +kernel
theorem dX6_delay_9 : decode cX6_delay 9 = .ok (.bipush 9, 2) := by decide +kernel
theorem dX6_delay_11 : decode cX6_delay 11 = .ok (.if_icmp .le 13, 3) := by decide +kernel
theorem dX6_delay_14 : decode cX6_delay 14 = .ok (.new 44, 3) := by decide +kernel
theorem dX6_delay_17 : decode cX6_delay 17 = .ok (.dup, 1) := by decide +kernel
theorem dX6_delay_18 : decode cX6_delay 18 = .ok (.ldc 46, 2) := by decide +kernel
theorem dX6_delay_20 : decode cX6_delay 20 = .ok (.invokespecial 48, 3) := by decide +kernel
theorem dX6_delay_23 : decode cX6_delay 23 = .ok (.athrow, 1) := by decide +kernel
theorem dX6_delay_24 : decode cX6_delay 24 = .ok (.aload_n 0, 1) := by decide +kernel
theorem dX6_delay_25 : decode cX6_delay 25 = .ok (.getfield 9, 3) := by decide +kernel
theorem dX6_delay_28 : decode cX6_delay 28 = .ok (.iload_n 1, 1) := by decide +kernel
theorem dX6_delay_29 : decode cX6_delay 29 = .ok (.iload_n 2, 1) := by decide +kernel
theorem dX6_delay_30 : decode cX6_delay 30 = .ok (.iastore, 1) := by decide +kernel
theorem dX6_delay_31 : decode cX6_delay 31 = .ok (.return_, 1) := by decide +kernel
theorem dX6_stream_0 : decode cX6_stream 0 = .ok (.iload 4, 2) := by decide +kernel
theorem dX6_stream_2 : decode cX6_stream 2 = .ok (.invokestatic 40, 3) := by decide +kernel
theorem dX6_stream_5 : decode cX6_stream 5 = .ok (.iload 5, 2) := by decide +kernel
theorem dX6_stream_7 : decode cX6_stream 7 = .ok (.invokestatic 51, 3) := by decide +kernel
theorem dX6_stream_10 : decode cX6_stream 10 = .ok (.iload 6, 2) := by decide +kernel
theorem dX6_stream_12 : decode cX6_stream 12 = .ok (.invokestatic 51, 3) := by decide +kernel
theorem dX6_stream_15 : decode cX6_stream 15 = .ok (.iload 4, 2) := by decide +kernel
theorem dX6_stream_17 : decode cX6_stream 17 = .ok (.iload 5, 2) := by decide +kernel
theorem dX6_stream_19 : decode cX6_stream 19 = .ok (.iload 6, 2) := by decide +kernel
theorem dX6_stream_21 : decode cX6_stream 21 = .ok (.invokestatic 54, 3) := by decide +kernel
theorem dX6_stream_24 : decode cX6_stream 24 = .ok (.ifCond .ne 13, 3) := by decide +kernel
theorem dX6_stream_27 : decode cX6_stream 27 = .ok (.new 44, 3) := by decide +kernel
theorem dX6_stream_30 : decode cX6_stream 30 = .ok (.dup, 1) := by decide +kernel
theorem dX6_stream_31 : decode cX6_stream 31 = .ok (.ldc 58, 2) := by decide +kernel
theorem dX6_stream_33 : decode cX6_stream 33 = .ok (.invokespecial 48, 3) := by decide +kernel
theorem dX6_stream_36 : decode cX6_stream 36 = .ok (.athrow, 1) := by decide +kernel
theorem dX6_stream_37 : decode cX6_stream 37 = .ok (.iload_n 1, 1) := by decide +kernel
theorem dX6_stream_38 : decode cX6_stream 38 = .ok (.invokestatic 60, 3) := by decide +kernel
theorem dX6_stream_41 : decode cX6_stream 41 = .ok (.ifCond .eq 24, 3) := by decide +kernel
theorem dX6_stream_44 : decode cX6_stream 44 = .ok (.iload_n 2, 1) := by decide +kernel
theorem dX6_stream_45 : decode cX6_stream 45 = .ok (.iconst 1, 1) := by decide +kernel
theorem dX6_stream_46 : decode cX6_stream 46 = .ok (.if_icmp .lt 19, 3) := by decide +kernel
theorem dX6_stream_49 : decode cX6_stream 49 = .ok (.iload_n 2, 1) := by decide +kernel
theorem dX6_stream_50 : decode cX6_stream 50 = .ok (.iconst 4, 1) := by decide +kernel
theorem dX6_stream_51 : decode cX6_stream 51 = .ok (.if_icmp .gt 14, 3) := by decide +kernel
theorem dX6_stream_54 : decode cX6_stream 54 = .ok (.iload_n 3, 1) := by decide +kernel
theorem dX6_stream_55 : decode cX6_stream 55 = .ok (.iconst 1, 1) := by decide +kernel
theorem dX6_stream_56 : decode cX6_stream 56 = .ok (.if_icmp .lt 9, 3) := by decide +kernel
theorem dX6_stream_59 : decode cX6_stream 59 = .ok (.iload_n 3, 1) := by decide +kernel
theorem dX6_stream_60 : decode cX6_stream 60 = .ok (.bipush 60, 2) := by decide +kernel
theorem dX6_stream_62 : decode cX6_stream 62 = .ok (.if_icmp .le 13, 3) := by decide +kernel
theorem dX6_stream_65 : decode cX6_stream 65 = .ok (.new 44, 3) := by decide +kernel
theorem dX6_stream_68 : decode cX6_stream 68 = .ok (.dup, 1) := by decide +kernel
theorem dX6_stream_69 : decode cX6_stream 69 = .ok (.ldc 64, 2) := by decide +kernel
theorem dX6_stream_71 : decode cX6_stream 71 = .ok (.invokespecial 48, 3) := by decide +kernel
theorem dX6_stream_74 : decode cX6_stream 74 = .ok (.athrow, 1) := by decide +kernel
theorem dX6_stream_75 : decode cX6_stream 75 = .ok (.aload_n 0, 1) := by decide +kernel
theorem dX6_stream_76 : decode cX6_stream 76 = .ok (.getfield 66, 3) := by decide +kernel
theorem dX6_stream_79 : decode cX6_stream 79 = .ok (.iconst 5, 1) := by decide +kernel
theorem dX6_stream_80 : decode cX6_stream 80 = .ok (.if_icmp .lt 13, 3) := by decide +kernel
theorem dX6_stream_83 : decode cX6_stream 83 = .ok (.new 70, 3) := by decide +kernel
theorem dX6_stream_86 : decode cX6_stream 86 = .ok (.dup, 1) := by decide +kernel
theorem dX6_stream_87 : decode cX6_stream 87 = .ok (.ldc 72, 2) := by decide +kernel
theorem dX6_stream_89 : decode cX6_stream 89 = .ok (.invokespecial 74, 3) := by decide +kernel
theorem dX6_stream_92 : decode cX6_stream 92 = .ok (.athrow, 1) := by decide +kernel
theorem dX6_stream_93 : decode cX6_stream 93 = .ok (.aload_n 0, 1) := by decide +kernel
theorem dX6_stream_94 : decode cX6_stream 94 = .ok (.getfield 15, 3) := by decide +kernel
theorem dX6_stream_97 : decode cX6_stream 97 = .ok (.aload_n 0, 1) := by decide +kernel
theorem dX6_stream_98 : decode cX6_stream 98 = .ok (.getfield 66, 3) := by decide +kernel
theorem dX6_stream_101 : decode cX6_stream 101 = .ok (.new 13, 3) := by decide +kernel
theorem dX6_stream_104 : decode cX6_stream 104 = .ok (.dup, 1) := by decide +kernel
theorem dX6_stream_105 : decode cX6_stream 105 = .ok (.iload_n 1, 1) := by decide +kernel
theorem dX6_stream_106 : decode cX6_stream 106 = .ok (.iload_n 2, 1) := by decide +kernel
theorem dX6_stream_107 : decode cX6_stream 107 = .ok (.iload_n 3, 1) := by decide +kernel
theorem dX6_stream_108 : decode cX6_stream 108 = .ok (.iload 4, 2) := by decide +kernel
theorem dX6_stream_110 : decode cX6_stream 110 = .ok (.iload 5, 2) := by decide +kernel
theorem dX6_stream_112 : decode cX6_stream 112 = .ok (.iload 6, 2) := by decide +kernel
theorem dX6_stream_114 : decode cX6_stream 114 = .ok (.invokestatic 75, 3) := by decide +kernel
theorem dX6_stream_117 : decode cX6_stream 117 = .ok (.invokespecial 79, 3) := by decide +kernel
theorem dX6_stream_120 : decode cX6_stream 120 = .ok (.aastore, 1) := by decide +kernel
theorem dX6_stream_121 : decode cX6_stream 121 = .ok (.aload_n 0, 1) := by decide +kernel
theorem dX6_stream_122 : decode cX6_stream 122 = .ok (.dup, 1) := by decide +kernel
theorem dX6_stream_123 : decode cX6_stream 123 = .ok (.getfield 66, 3) := by decide +kernel
theorem dX6_stream_126 : decode cX6_stream 126 = .ok (.iconst 1, 1) := by decide +kernel
theorem dX6_stream_127 : decode cX6_stream 127 = .ok (.iadd, 1) := by decide +kernel
theorem dX6_stream_128 : decode cX6_stream 128 = .ok (.putfield 66, 3) := by decide +kernel
theorem dX6_stream_131 : decode cX6_stream 131 = .ok (.aload_n 0, 1) := by decide +kernel
theorem dX6_stream_132 : decode cX6_stream 132 = .ok (.getfield 66, 3) := by decide +kernel
theorem dX6_stream_135 : decode cX6_stream 135 = .ok (.iconst 1, 1) := by decide +kernel
theorem dX6_stream_136 : decode cX6_stream 136 = .ok (.isub, 1) := by decide +kernel
theorem dX6_stream_137 : decode cX6_stream 137 = .ok (.ireturn, 1) := by decide +kernel
theorem dX6_clear_0 : decode cX6_clear 0 = .ok (.aload_n 0, 1) := by decide +kernel
theorem dX6_clear_1 : decode cX6_clear 1 = .ok (.iconst 0, 1) := by decide +kernel
theorem dX6_clear_2 : decode cX6_clear 2 = .ok (.putfield 66, 3) := by decide +kernel
theorem dX6_clear_5 : decode cX6_clear 5 = .ok (.return_, 1) := by decide +kernel
theorem dX6_build_0 : decode cX6_build 0 = .ok (.iload_n 1, 1) := by decide +kernel
theorem dX6_build_1 : decode cX6_build 1 = .ok (.ifCond .lt 10, 3) := by decide +kernel
theorem dX6_build_4 : decode cX6_build 4 = .ok (.iload_n 1, 1) := by decide +kernel
theorem dX6_build_5 : decode cX6_build 5 = .ok (.sipush 20000, 3) := by decide +kernel
theorem dX6_build_8 : decode cX6_build 8 = .ok (.if_icmp .le 13, 3) := by decide +kernel
theorem dX6_build_11 : decode cX6_build 11 = .ok (.new 44, 3) := by decide +kernel
theorem dX6_build_14 : decode cX6_build 14 = .ok (.dup, 1) := by decide +kernel
theorem dX6_build_15 : decode cX6_build 15 = .ok (.ldc 82, 2) := by decide +kernel
theorem dX6_build_17 : decode cX6_build 17 = .ok (.invokespecial 48, 3) := by decide +kernel
theorem dX6_build_20 : decode cX6_build 20 = .ok (.athrow, 1) := by decide +kernel
theorem dX6_build_21 : decode cX6_build 21 = .ok (.aload_n 0, 1) := by decide +kernel
theorem dX6_build_22 : decode cX6_build 22 = .ok (.getfield 66, 3) := by decide +kernel
theorem dX6_build_25 : decode cX6_build 25 = .ok (.anewarray 84, 3) := by decide +kernel
theorem dX6_build_28 : decode cX6_build 28 = .ok (.astore_n 2, 1) := by decide +kernel
theorem dX6_build_29 : decode cX6_build 29 = .ok (.iconst 0, 1) := by decide +kernel
theorem dX6_build_30 : decode cX6_build 30 = .ok (.istore_n 3, 1) := by decide +kernel
theorem dX6_build_31 : decode cX6_build 31 = .ok (.iload_n 3, 1) := by decide +kernel
theorem dX6_build_32 : decode cX6_build 32 = .ok (.aload_n 0, 1) := by decide +kernel
theorem dX6_build_33 : decode cX6_build 33 = .ok (.getfield 66, 3) := by decide +kernel
theorem dX6_build_36 : decode cX6_build 36 = .ok (.if_icmp .ge 29, 3) := by decide +kernel
theorem dX6_build_39 : decode cX6_build 39 = .ok (.aload_n 2, 1) := by decide +kernel
theorem dX6_build_40 : decode cX6_build 40 = .ok (.iload_n 3, 1) := by decide +kernel
theorem dX6_build_41 : decode cX6_build 41 = .ok (.new 84, 3) := by decide +kernel
theorem dX6_build_44 : decode cX6_build 44 = .ok (.dup, 1) := by decide +kernel
theorem dX6_build_45 : decode cX6_build 45 = .ok (.aload_n 0, 1) := by decide +kernel
theorem dX6_build_46 : decode cX6_build 46 = .ok (.getfield 15, 3) := by decide +kernel
theorem dX6_build_49 : decode cX6_build 49 = .ok (.iload_n 3, 1) := by decide +kernel
theorem dX6_build_50 : decode cX6_build 50 = .ok (.aaload, 1) := by decide +kernel
theorem dX6_build_51 : decode cX6_build 51 = .ok (.aload_n 0, 1) := by decide +kernel
theorem dX6_build_52 : decode cX6_build 52 = .ok (.getfield 9, 3) := by decide +kernel
theorem dX6_build_55 : decode cX6_build 55 = .ok (.invokespecial 86, 3) := by decide +kernel
theorem dX6_build_58 : decode cX6_build 58 = .ok (.aastore, 1) := by decide +kernel
theorem dX6_build_59 : decode cX6_build 59 = .ok (.iinc 3 1, 3) := by decide +kernel
theorem dX6_build_62 : decode cX6_build 62 = .ok (.goto (-31), 3) := by decide +kernel
theorem dX6_build_65 : decode cX6_build 65 = .ok (.aload_n 0, 1) := by decide +kernel
theorem dX6_build_66 : decode cX6_build 66 = .ok (.getfield 22, 3) := by decide +kernel
theorem dX6_build_69 : decode cX6_build 69 = .ok (.aload_n 2, 1) := by decide +kernel
theorem dX6_build_70 : decode cX6_build 70 = .ok (.iload_n 1, 1) := by decide +kernel
theorem dX6_build_71 : decode cX6_build 71 = .ok (.invokevirtual 89, 3) := by decide +kernel
theorem dX6_build_74 : decode cX6_build 74 = .ok (.istore_n 3, 1) := by decide +kernel
theorem dX6_build_75 : decode cX6_build 75 = .ok (.iload_n 3, 1) := by decide +kernel
theorem dX6_build_76 : decode cX6_build 76 = .ok (.iconst 1, 1) := by decide +kernel
theorem dX6_build_77 : decode cX6_build 77 = .ok (.if_icmp .ne 15, 3) := by decide +kernel
theorem dX6_build_80 : decode cX6_build 80 = .ok (.aload_n 0, 1) := by decide +kernel
theorem dX6_build_81 : decode cX6_build 81 = .ok (.new 93, 3) := by decide +kernel
theorem dX6_build_84 : decode cX6_build 84 = .ok (.dup, 1) := by decide +kernel
theorem dX6_build_85 : decode cX6_build 85 = .ok (.aload_n 2, 1) := by decide +kernel
theorem dX6_build_86 : decode cX6_build 86 = .ok (.invokespecial 95, 3) := by decide +kernel
theorem dX6_build_89 : decode cX6_build 89 = .ok (.putfield 98, 3) := by decide +kernel
theorem dX6_build_92 : decode cX6_build 92 = .ok (.iload_n 3, 1) := by decide +kernel
theorem dX6_build_93 : decode cX6_build 93 = .ok (.ireturn, 1) := by decide +kernel
theorem dX6_tries_0 : decode cX6_tries 0 = .ok (.aload_n 0, 1) := by decide +kernel
theorem dX6_tries_1 : decode cX6_tries 1 = .ok (.getfield 22, 3) := by decide +kernel
theorem dX6_tries_4 : decode cX6_tries 4 = .ok (.getfield 102, 3) := by decide +kernel
theorem dX6_tries_7 : decode cX6_tries 7 = .ok (.ireturn, 1) := by decide +kernel
theorem dX6_offset_0 : decode cX6_offset 0 = .ok (.aload_n 0, 1) := by decide +kernel
theorem dX6_offset_1 : decode cX6_offset 1 = .ok (.invokevirtual 105, 3) := by decide +kernel
theorem dX6_offset_4 : decode cX6_offset 4 = .ok (.iload_n 1, 1) := by decide +kernel
theorem dX6_offset_5 : decode cX6_offset 5 = .ok (.ifCond .lt 15, 3) := by decide +kernel
theorem dX6_offset_8 : decode cX6_offset 8 = .ok (.iload_n 1, 1) := by decide +kernel
theorem dX6_offset_9 : decode cX6_offset 9 = .ok (.aload_n 0, 1) := by decide +kernel
theorem dX6_offset_10 : decode cX6_offset 10 = .ok (.getfield 98, 3) := by decide +kernel
theorem dX6_offset_13 : decode cX6_offset 13 = .ok (.getfield 108, 3) := by decide +kernel
theorem dX6_offset_16 : decode cX6_offset 16 = .ok (.arraylength, 1) := by decide +kernel
theorem dX6_offset_17 : decode cX6_offset 17 = .ok (.if_icmp .lt 13, 3) := by decide +kernel
theorem dX6_offset_20 : decode cX6_offset 20 = .ok (.new 112, 3) := by decide +kernel
theorem dX6_offset_23 : decode cX6_offset 23 = .ok (.dup, 1) := by decide +kernel
theorem dX6_offset_24 : decode cX6_offset 24 = .ok (.ldc 114, 2) := by decide +kernel
theorem dX6_offset_26 : decode cX6_offset 26 = .ok (.invokespecial 116, 3) := by decide +kernel
theorem dX6_offset_29 : decode cX6_offset 29 = .ok (.athrow, 1) := by decide +kernel
theorem dX6_offset_30 : decode cX6_offset 30 = .ok (.aload_n 0, 1) := by decide +kernel
theorem dX6_offset_31 : decode cX6_offset 31 = .ok (.getfield 98, 3) := by decide +kernel
theorem dX6_offset_34 : decode cX6_offset 34 = .ok (.getfield 108, 3) := by decide +kernel
theorem dX6_offset_37 : decode cX6_offset 37 = .ok (.iload_n 1, 1) := by decide +kernel
theorem dX6_offset_38 : decode cX6_offset 38 = .ok (.aaload, 1) := by decide +kernel
theorem dX6_offset_39 : decode cX6_offset 39 = .ok (.getfield 117, 3) := by decide +kernel
theorem dX6_offset_42 : decode cX6_offset 42 = .ok (.ireturn, 1) := by decide +kernel
theorem dX6_gate_0 : decode cX6_gate 0 = .ok (.iload_n 1, 1) := by decide +kernel
theorem dX6_gate_1 : decode cX6_gate 1 = .ok (.invokestatic 40, 3) := by decide +kernel
theorem dX6_gate_4 : decode cX6_gate 4 = .ok (.iload_n 2, 1) := by decide +kernel
theorem dX6_gate_5 : decode cX6_gate 5 = .ok (.ifCond .lt 9, 3) := by decide +kernel
theorem dX6_gate_8 : decode cX6_gate 8 = .ok (.iload_n 2, 1) := by decide +kernel
theorem dX6_gate_9 : decode cX6_gate 9 = .ok (.bipush 32, 2) := by decide +kernel
theorem dX6_gate_11 : decode cX6_gate 11 = .ok (.if_icmp .lt 13, 3) := by decide +kernel
theorem dX6_gate_14 : decode cX6_gate 14 = .ok (.new 44, 3) := by decide +kernel
theorem dX6_gate_17 : decode cX6_gate 17 = .ok (.dup, 1) := by decide +kernel
theorem dX6_gate_18 : decode cX6_gate 18 = .ok (.ldc 120, 2) := by decide +kernel
theorem dX6_gate_20 : decode cX6_gate 20 = .ok (.invokespecial 48, 3) := by decide +kernel
theorem dX6_gate_23 : decode cX6_gate 23 = .ok (.athrow, 1) := by decide +kernel
theorem dX6_gate_24 : decode cX6_gate 24 = .ok (.aload_n 0, 1) := by decide +kernel
theorem dX6_gate_25 : decode cX6_gate 25 = .ok (.invokevirtual 105, 3) := by decide +kernel
theorem dX6_gate_28 : decode cX6_gate 28 = .ok (.aload_n 0, 1) := by decide +kernel
theorem dX6_gate_29 : decode cX6_gate 29 = .ok (.getfield 98, 3) := by decide +kernel
theorem dX6_gate_32 : decode cX6_gate 32 = .ok (.iload_n 1, 1) := by decide +kernel
theorem dX6_gate_33 : decode cX6_gate 33 = .ok (.iload_n 2, 1) := by decide +kernel
theorem dX6_gate_34 : decode cX6_gate 34 = .ok (.invokevirtual 122, 3) := by decide +kernel
theorem dX6_gate_37 : decode cX6_gate 37 = .ok (.ireturn, 1) := by decide +kernel
theorem dX6_activate_0 : decode cX6_activate 0 = .ok (.aload_n 0, 1) := by decide +kernel
theorem dX6_activate_1 : decode cX6_activate 1 = .ok (.invokevirtual 105, 3) := by decide +kernel
theorem dX6_activate_4 : decode cX6_activate 4 = .ok (.aload_n 0, 1) := by decide +kernel
theorem dX6_activate_5 : decode cX6_activate 5 = .ok (.aload_n 0, 1) := by decide +kernel
theorem dX6_activate_6 : decode cX6_activate 6 = .ok (.getfield 98, 3) := by decide +kernel
theorem dX6_activate_9 : decode cX6_activate 9 = .ok (.putfield 126, 3) := by decide +kernel
theorem dX6_activate_12 : decode cX6_activate 12 = .ok (.return_, 1) := by decide +kernel
theorem dX6_tick_0 : decode cX6_tick 0 = .ok (.iload_n 1, 1) := by decide +kernel
theorem dX6_tick_1 : decode cX6_tick 1 = .ok (.iconst 1, 1) := by decide +kernel
theorem dX6_tick_2 : decode cX6_tick 2 = .ok (.if_icmp .lt 10, 3) := by decide +kernel
theorem dX6_tick_5 : decode cX6_tick 5 = .ok (.iload_n 1, 1) := by decide +kernel
theorem dX6_tick_6 : decode cX6_tick 6 = .ok (.sipush 200, 3) := by decide +kernel
theorem dX6_tick_9 : decode cX6_tick 9 = .ok (.if_icmp .le 13, 3) := by decide +kernel
theorem dX6_tick_12 : decode cX6_tick 12 = .ok (.new 44, 3) := by decide +kernel
theorem dX6_tick_15 : decode cX6_tick 15 = .ok (.dup, 1) := by decide +kernel
theorem dX6_tick_16 : decode cX6_tick 16 = .ok (.ldc 129, 2) := by decide +kernel
theorem dX6_tick_18 : decode cX6_tick 18 = .ok (.invokespecial 48, 3) := by decide +kernel
theorem dX6_tick_21 : decode cX6_tick 21 = .ok (.athrow, 1) := by decide +kernel
theorem dX6_tick_22 : decode cX6_tick 22 = .ok (.iconst 0, 1) := by decide +kernel
theorem dX6_tick_23 : decode cX6_tick 23 = .ok (.istore_n 2, 1) := by decide +kernel
theorem dX6_tick_24 : decode cX6_tick 24 = .ok (.iload_n 2, 1) := by decide +kernel
theorem dX6_tick_25 : decode cX6_tick 25 = .ok (.iload_n 1, 1) := by decide +kernel
theorem dX6_tick_26 : decode cX6_tick 26 = .ok (.if_icmp .ge 13, 3) := by decide +kernel
theorem dX6_tick_29 : decode cX6_tick 29 = .ok (.aload_n 0, 1) := by decide +kernel
theorem dX6_tick_30 : decode cX6_tick 30 = .ok (.invokevirtual 131, 3) := by decide +kernel
theorem dX6_tick_33 : decode cX6_tick 33 = .ok (.iinc 2 1, 3) := by decide +kernel
theorem dX6_tick_36 : decode cX6_tick 36 = .ok (.goto (-12), 3) := by decide +kernel
theorem dX6_tick_39 : decode cX6_tick 39 = .ok (.aload_n 0, 1) := by decide +kernel
theorem dX6_tick_40 : decode cX6_tick 40 = .ok (.getfield 134, 3) := by decide +kernel
theorem dX6_tick_43 : decode cX6_tick 43 = .ok (.ireturn, 1) := by decide +kernel
theorem dX6_talk_0 : decode cX6_talk 0 = .ok (.aload_n 0, 1) := by decide +kernel
theorem dX6_talk_1 : decode cX6_talk 1 = .ok (.iload_n 1, 1) := by decide +kernel
theorem dX6_talk_2 : decode cX6_talk 2 = .ok (.invokevirtual 137, 3) := by decide +kernel
theorem dX6_talk_5 : decode cX6_talk 5 = .ok (.iload_n 3, 1) := by decide +kernel
theorem dX6_talk_6 : decode cX6_talk 6 = .ok (.ifCond .lt 9, 3) := by decide +kernel
theorem dX6_talk_9 : decode cX6_talk 9 = .ok (.iload_n 3, 1) := by decide +kernel
theorem dX6_talk_10 : decode cX6_talk 10 = .ok (.bipush 7, 2) := by decide +kernel
theorem dX6_talk_12 : decode cX6_talk 12 = .ok (.if_icmp .le 13, 3) := by decide +kernel
theorem dX6_talk_15 : decode cX6_talk 15 = .ok (.new 44, 3) := by decide +kernel
theorem dX6_talk_18 : decode cX6_talk 18 = .ok (.dup, 1) := by decide +kernel
theorem dX6_talk_19 : decode cX6_talk 19 = .ok (.ldc 140, 2) := by decide +kernel
theorem dX6_talk_21 : decode cX6_talk 21 = .ok (.invokespecial 48, 3) := by decide +kernel
theorem dX6_talk_24 : decode cX6_talk 24 = .ok (.athrow, 1) := by decide +kernel
theorem dX6_talk_25 : decode cX6_talk 25 = .ok (.aload_n 0, 1) := by decide +kernel
theorem dX6_talk_26 : decode cX6_talk 26 = .ok (.getfield 28, 3) := by decide +kernel
theorem dX6_talk_29 : decode cX6_talk 29 = .ok (.iload_n 1, 1) := by decide +kernel
theorem dX6_talk_30 : decode cX6_talk 30 = .ok (.aaload, 1) := by decide +kernel
theorem dX6_talk_31 : decode cX6_talk 31 = .ok (.iload_n 2, 1) := by decide +kernel
theorem dX6_talk_32 : decode cX6_talk 32 = .ok (.putfield 142, 3) := by decide +kernel
theorem dX6_talk_35 : decode cX6_talk 35 = .ok (.aload_n 0, 1) := by decide +kernel
theorem dX6_talk_36 : decode cX6_talk 36 = .ok (.getfield 28, 3) := by decide +kernel
theorem dX6_talk_39 : decode cX6_talk 39 = .ok (.iload_n 1, 1) := by decide +kernel
theorem dX6_talk_40 : decode cX6_talk 40 = .ok (.aaload, 1) := by decide +kernel
theorem dX6_talk_41 : decode cX6_talk 41 = .ok (.iload_n 3, 1) := by decide +kernel
theorem dX6_talk_42 : decode cX6_talk 42 = .ok (.putfield 146, 3) := by decide +kernel
theorem dX6_talk_45 : decode cX6_talk 45 = .ok (.return_, 1) := by decide +kernel
theorem dX6_unblock_0 : decode cX6_unblock 0 = .ok (.aload_n 0, 1) := by decide +kernel
theorem dX6_unblock_1 : decode cX6_unblock 1 = .ok (.iload_n 1, 1) := by decide +kernel
theorem dX6_unblock_2 : decode cX6_unblock 2 = .ok (.invokevirtual 137, 3) := by decide +kernel
theorem dX6_unblock_5 : decode cX6_unblock 5 = .ok (.aload_n 0, 1) := by decide +kernel
theorem dX6_unblock_6 : decode cX6_unblock 6 = .ok (.getfield 28, 3) := by decide +kernel
theorem dX6_unblock_9 : decode cX6_unblock 9 = .ok (.iload_n 1, 1) := by decide +kernel
theorem dX6_unblock_10 : decode cX6_unblock 10 = .ok (.aaload, 1) := by decide +kernel
theorem dX6_unblock_11 : decode cX6_unblock 11 = .ok (.getfield 149, 3) := by decide +kernel
theorem dX6_unblock_14 : decode cX6_unblock 14 = .ok (.istore_n 2, 1) := by decide +kernel
theorem dX6_unblock_15 : decode cX6_unblock 15 = .ok (.aload_n 0, 1) := by decide +kernel
theorem dX6_unblock_16 : decode cX6_unblock 16 = .ok (.getfield 28, 3) := by decide +kernel
theorem dX6_unblock_19 : decode cX6_unblock 19 = .ok (.iload_n 1, 1) := by decide +kernel
theorem dX6_unblock_20 : decode cX6_unblock 20 = .ok (.aaload, 1) := by decide +kernel
theorem dX6_unblock_21 : decode cX6_unblock 21 = .ok (.iconst 0, 1) := by decide +kernel
theorem dX6_unblock_22 : decode cX6_unblock 22 = .ok (.putfield 149, 3) := by decide +kernel
theorem dX6_unblock_25 : decode cX6_unblock 25 = .ok (.iload_n 2, 1) := by decide +kernel
theorem dX6_unblock_26 : decode cX6_unblock 26 = .ok (.ireturn, 1) := by decide +kernel
theorem dX6_cut_0 : decode cX6_cut 0 = .ok (.iload_n 1, 1) := by decide +kernel
theorem dX6_cut_1 : decode cX6_cut 1 = .ok (.invokestatic 40, 3) := by decide +kernel
theorem dX6_cut_4 : decode cX6_cut 4 = .ok (.aload_n 0, 1) := by decide +kernel
theorem dX6_cut_5 : decode cX6_cut 5 = .ok (.getfield 34, 3) := by decide +kernel
theorem dX6_cut_8 : decode cX6_cut 8 = .ok (.iload_n 1, 1) := by decide +kernel
theorem dX6_cut_9 : decode cX6_cut 9 = .ok (.aaload, 1) := by decide +kernel
theorem dX6_cut_10 : decode cX6_cut 10 = .ok (.getfield 152, 3) := by decide +kernel
theorem dX6_cut_13 : decode cX6_cut 13 = .ok (.iload_n 2, 1) := by decide +kernel
theorem dX6_cut_14 : decode cX6_cut 14 = .ok (.if_icmp .eq 7, 3) := by decide +kernel
theorem dX6_cut_17 : decode cX6_cut 17 = .ok (.iconst 1, 1) := by decide +kernel
theorem dX6_cut_18 : decode cX6_cut 18 = .ok (.goto 4, 3) := by decide +kernel
theorem dX6_cut_21 : decode cX6_cut 21 = .ok (.iconst 0, 1) := by decide +kernel
theorem dX6_cut_22 : decode cX6_cut 22 = .ok (.istore_n 3, 1) := by decide +kernel
theorem dX6_cut_23 : decode cX6_cut 23 = .ok (.aload_n 0, 1) := by decide +kernel
theorem dX6_cut_24 : decode cX6_cut 24 = .ok (.getfield 34, 3) := by decide +kernel
theorem dX6_cut_27 : decode cX6_cut 27 = .ok (.iload_n 1, 1) := by decide +kernel
theorem dX6_cut_28 : decode cX6_cut 28 = .ok (.aaload, 1) := by decide +kernel
theorem dX6_cut_29 : decode cX6_cut 29 = .ok (.iload_n 2, 1) := by decide +kernel
theorem dX6_cut_30 : decode cX6_cut 30 = .ok (.putfield 152, 3) := by decide +kernel
theorem dX6_cut_33 : decode cX6_cut 33 = .ok (.iload_n 2, 1) := by decide +kernel
theorem dX6_cut_34 : decode cX6_cut 34 = .ok (.ifCond .eq 8, 3) := by decide +kernel
theorem dX6_cut_37 : decode cX6_cut 37 = .ok (.aload_n 0, 1) := by decide +kernel
theorem dX6_cut_38 : decode cX6_cut 38 = .ok (.iload_n 1, 1) := by decide +kernel
theorem dX6_cut_39 : decode cX6_cut 39 = .ok (.invokevirtual 155, 3) := by decide +kernel
theorem dX6_cut_42 : decode cX6_cut 42 = .ok (.iload_n 3, 1) := by decide +kernel
theorem dX6_cut_43 : decode cX6_cut 43 = .ok (.ireturn, 1) := by decide +kernel
theorem dX6_babble_0 : decode cX6_babble 0 = .ok (.iload_n 1, 1) := by decide +kernel
theorem dX6_babble_1 : decode cX6_babble 1 = .ok (.invokestatic 40, 3) := by decide +kernel
theorem dX6_babble_4 : decode cX6_babble 4 = .ok (.iload_n 2, 1) := by decide +kernel
theorem dX6_babble_5 : decode cX6_babble 5 = .ok (.iconst 1, 1) := by decide +kernel
theorem dX6_babble_6 : decode cX6_babble 6 = .ok (.if_icmp .lt 9, 3) := by decide +kernel
theorem dX6_babble_9 : decode cX6_babble 9 = .ok (.iload_n 2, 1) := by decide +kernel
theorem dX6_babble_10 : decode cX6_babble 10 = .ok (.bipush 8, 2) := by decide +kernel
theorem dX6_babble_12 : decode cX6_babble 12 = .ok (.if_icmp .le 13, 3) := by decide +kernel
theorem dX6_babble_15 : decode cX6_babble 15 = .ok (.new 44, 3) := by decide +kernel
theorem dX6_babble_18 : decode cX6_babble 18 = .ok (.dup, 1) := by decide +kernel
theorem dX6_babble_19 : decode cX6_babble 19 = .ok (.ldc 158, 2) := by decide +kernel
theorem dX6_babble_21 : decode cX6_babble 21 = .ok (.invokespecial 48, 3) := by decide +kernel
theorem dX6_babble_24 : decode cX6_babble 24 = .ok (.athrow, 1) := by decide +kernel
theorem dX6_babble_25 : decode cX6_babble 25 = .ok (.aload_n 0, 1) := by decide +kernel
theorem dX6_babble_26 : decode cX6_babble 26 = .ok (.getfield 34, 3) := by decide +kernel
theorem dX6_babble_29 : decode cX6_babble 29 = .ok (.iload_n 1, 1) := by decide +kernel
theorem dX6_babble_30 : decode cX6_babble 30 = .ok (.aaload, 1) := by decide +kernel
theorem dX6_babble_31 : decode cX6_babble 31 = .ok (.astore_n 3, 1) := by decide +kernel
theorem dX6_babble_32 : decode cX6_babble 32 = .ok (.aload_n 3, 1) := by decide +kernel
theorem dX6_babble_33 : decode cX6_babble 33 = .ok (.getfield 160, 3) := by decide +kernel
theorem dX6_babble_36 : decode cX6_babble 36 = .ok (.iconst 4, 1) := by decide +kernel
theorem dX6_babble_37 : decode cX6_babble 37 = .ok (.if_icmp .lt 13, 3) := by decide +kernel
theorem dX6_babble_40 : decode cX6_babble 40 = .ok (.new 70, 3) := by decide +kernel
theorem dX6_babble_43 : decode cX6_babble 43 = .ok (.dup, 1) := by decide +kernel
theorem dX6_babble_44 : decode cX6_babble 44 = .ok (.ldc 163, 2) := by decide +kernel
theorem dX6_babble_46 : decode cX6_babble 46 = .ok (.invokespecial 74, 3) := by decide +kernel
theorem dX6_babble_49 : decode cX6_babble 49 = .ok (.athrow, 1) := by decide +kernel
theorem dX6_babble_50 : decode cX6_babble 50 = .ok (.aload_n 3, 1) := by decide +kernel
theorem dX6_babble_51 : decode cX6_babble 51 = .ok (.iload_n 2, 1) := by decide +kernel
theorem dX6_babble_52 : decode cX6_babble 52 = .ok (.invokevirtual 165, 3) := by decide +kernel
theorem dX6_babble_55 : decode cX6_babble 55 = .ok (.aload_n 3, 1) := by decide +kernel
theorem dX6_babble_56 : decode cX6_babble 56 = .ok (.getfield 160, 3) := by decide +kernel
theorem dX6_babble_59 : decode cX6_babble 59 = .ok (.ireturn, 1) := by decide +kernel
theorem dX6_told_0 : decode cX6_told 0 = .ok (.aload_n 0, 1) := by decide +kernel
theorem dX6_told_1 : decode cX6_told 1 = .ok (.iload_n 1, 1) := by decide +kernel
theorem dX6_told_2 : decode cX6_told 2 = .ok (.invokevirtual 137, 3) := by decide +kernel
theorem dX6_told_5 : decode cX6_told 5 = .ok (.aload_n 0, 1) := by decide +kernel
theorem dX6_told_6 : decode cX6_told 6 = .ok (.getfield 28, 3) := by decide +kernel
theorem dX6_told_9 : decode cX6_told 9 = .ok (.iload_n 1, 1) := by decide +kernel
theorem dX6_told_10 : decode cX6_told 10 = .ok (.aaload, 1) := by decide +kernel
theorem dX6_told_11 : decode cX6_told 11 = .ok (.astore_n 3, 1) := by decide +kernel
theorem dX6_told_12 : decode cX6_told 12 = .ok (.iload_n 2, 1) := by decide +kernel
theorem dX6_told_13 : decode cX6_told 13 = .ok (.tableswitch 77 0 5 #[39, 44, 49, 54, 59, 64], 39) := by decide +kernel
theorem dX6_told_52 : decode cX6_told 52 = .ok (.aload_n 3, 1) := by decide +kernel
theorem dX6_told_53 : decode cX6_told 53 = .ok (.getfield 168, 3) := by decide +kernel
theorem dX6_told_56 : decode cX6_told 56 = .ok (.ireturn, 1) := by decide +kernel
theorem dX6_told_57 : decode cX6_told 57 = .ok (.aload_n 3, 1) := by decide +kernel
theorem dX6_told_58 : decode cX6_told 58 = .ok (.getfield 171, 3) := by decide +kernel
theorem dX6_told_61 : decode cX6_told 61 = .ok (.ireturn, 1) := by decide +kernel
theorem dX6_told_62 : decode cX6_told 62 = .ok (.aload_n 3, 1) := by decide +kernel
theorem dX6_told_63 : decode cX6_told 63 = .ok (.getfield 174, 3) := by decide +kernel
theorem dX6_told_66 : decode cX6_told 66 = .ok (.ireturn, 1) := by decide +kernel
theorem dX6_told_67 : decode cX6_told 67 = .ok (.aload_n 3, 1) := by decide +kernel
theorem dX6_told_68 : decode cX6_told 68 = .ok (.getfield 177, 3) := by decide +kernel
theorem dX6_told_71 : decode cX6_told 71 = .ok (.ireturn, 1) := by decide +kernel
theorem dX6_told_72 : decode cX6_told 72 = .ok (.aload_n 3, 1) := by decide +kernel
theorem dX6_told_73 : decode cX6_told 73 = .ok (.getfield 180, 3) := by decide +kernel
theorem dX6_told_76 : decode cX6_told 76 = .ok (.ireturn, 1) := by decide +kernel
theorem dX6_told_77 : decode cX6_told 77 = .ok (.aload_n 3, 1) := by decide +kernel
theorem dX6_told_78 : decode cX6_told 78 = .ok (.getfield 149, 3) := by decide +kernel
theorem dX6_told_81 : decode cX6_told 81 = .ok (.ifCond .eq 7, 3) := by decide +kernel
theorem dX6_told_84 : decode cX6_told 84 = .ok (.iconst 1, 1) := by decide +kernel
theorem dX6_told_85 : decode cX6_told 85 = .ok (.goto 4, 3) := by decide +kernel
theorem dX6_told_88 : decode cX6_told 88 = .ok (.iconst 0, 1) := by decide +kernel
theorem dX6_told_89 : decode cX6_told 89 = .ok (.ireturn, 1) := by decide +kernel
theorem dX6_told_90 : decode cX6_told 90 = .ok (.new 112, 3) := by decide +kernel
theorem dX6_told_93 : decode cX6_told 93 = .ok (.dup, 1) := by decide +kernel
theorem dX6_told_94 : decode cX6_told 94 = .ok (.ldc 183, 2) := by decide +kernel
theorem dX6_told_96 : decode cX6_told 96 = .ok (.invokespecial 116, 3) := by decide +kernel
theorem dX6_told_99 : decode cX6_told 99 = .ok (.athrow, 1) := by decide +kernel
theorem dX6_link_0 : decode cX6_link 0 = .ok (.iload_n 1, 1) := by decide +kernel
theorem dX6_link_1 : decode cX6_link 1 = .ok (.invokestatic 40, 3) := by decide +kernel
theorem dX6_link_4 : decode cX6_link 4 = .ok (.aload_n 0, 1) := by decide +kernel
theorem dX6_link_5 : decode cX6_link 5 = .ok (.getfield 34, 3) := by decide +kernel
theorem dX6_link_8 : decode cX6_link 8 = .ok (.iload_n 1, 1) := by decide +kernel
theorem dX6_link_9 : decode cX6_link 9 = .ok (.aaload, 1) := by decide +kernel
theorem dX6_link_10 : decode cX6_link 10 = .ok (.astore_n 3, 1) := by decide +kernel
theorem dX6_link_11 : decode cX6_link 11 = .ok (.iload_n 2, 1) := by decide +kernel
theorem dX6_link_12 : decode cX6_link 12 = .ok (.tableswitch 61 0 3 #[32, 37, 42, 48], 32) := by decide +kernel
theorem dX6_link_44 : decode cX6_link 44 = .ok (.aload_n 3, 1) := by decide +kernel
theorem dX6_link_45 : decode cX6_link 45 = .ok (.getfield 160, 3) := by decide +kernel
theorem dX6_link_48 : decode cX6_link 48 = .ok (.ireturn, 1) := by decide +kernel
theorem dX6_link_49 : decode cX6_link 49 = .ok (.aload_n 3, 1) := by decide +kernel
theorem dX6_link_50 : decode cX6_link 50 = .ok (.getfield 185, 3) := by decide +kernel
theorem dX6_link_53 : decode cX6_link 53 = .ok (.ireturn, 1) := by decide +kernel
theorem dX6_link_54 : decode cX6_link 54 = .ok (.aload_n 0, 1) := by decide +kernel
theorem dX6_link_55 : decode cX6_link 55 = .ok (.iload_n 1, 1) := by decide +kernel
theorem dX6_link_56 : decode cX6_link 56 = .ok (.invokevirtual 188, 3) := by decide +kernel
theorem dX6_link_59 : decode cX6_link 59 = .ok (.ireturn, 1) := by decide +kernel
theorem dX6_link_60 : decode cX6_link 60 = .ok (.aload_n 3, 1) := by decide +kernel
theorem dX6_link_61 : decode cX6_link 61 = .ok (.getfield 152, 3) := by decide +kernel
theorem dX6_link_64 : decode cX6_link 64 = .ok (.ifCond .eq 7, 3) := by decide +kernel
theorem dX6_link_67 : decode cX6_link 67 = .ok (.iconst 1, 1) := by decide +kernel
theorem dX6_link_68 : decode cX6_link 68 = .ok (.goto 4, 3) := by decide +kernel
theorem dX6_link_71 : decode cX6_link 71 = .ok (.iconst 0, 1) := by decide +kernel
theorem dX6_link_72 : decode cX6_link 72 = .ok (.ireturn, 1) := by decide +kernel
theorem dX6_link_73 : decode cX6_link 73 = .ok (.new 112, 3) := by decide +kernel
theorem dX6_link_76 : decode cX6_link 76 = .ok (.dup, 1) := by decide +kernel
theorem dX6_link_77 : decode cX6_link 77 = .ok (.ldc 192, 2) := by decide +kernel
theorem dX6_link_79 : decode cX6_link 79 = .ok (.invokespecial 116, 3) := by decide +kernel
theorem dX6_link_82 : decode cX6_link 82 = .ok (.athrow, 1) := by decide +kernel
theorem dX6_streams_0 : decode cX6_streams 0 = .ok (.iload_n 1, 1) := by decide +kernel
theorem dX6_streams_1 : decode cX6_streams 1 = .ok (.tableswitch 60 0 3 #[31, 36, 44, 52], 31) := by decide +kernel
theorem dX6_streams_32 : decode cX6_streams 32 = .ok (.aload_n 0, 1) := by decide +kernel
theorem dX6_streams_33 : decode cX6_streams 33 = .ok (.getfield 66, 3) := by decide +kernel
theorem dX6_streams_36 : decode cX6_streams 36 = .ok (.ireturn, 1) := by decide +kernel
theorem dX6_streams_37 : decode cX6_streams 37 = .ok (.aload_n 0, 1) := by decide +kernel
theorem dX6_streams_38 : decode cX6_streams 38 = .ok (.getfield 98, 3) := by decide +kernel
theorem dX6_streams_41 : decode cX6_streams 41 = .ok (.invokestatic 194, 3) := by decide +kernel
theorem dX6_streams_44 : decode cX6_streams 44 = .ok (.ireturn, 1) := by decide +kernel
theorem dX6_streams_45 : decode cX6_streams 45 = .ok (.aload_n 0, 1) := by decide +kernel
theorem dX6_streams_46 : decode cX6_streams 46 = .ok (.getfield 198, 3) := by decide +kernel
theorem dX6_streams_49 : decode cX6_streams 49 = .ok (.invokestatic 194, 3) := by decide +kernel
theorem dX6_streams_52 : decode cX6_streams 52 = .ok (.ireturn, 1) := by decide +kernel
theorem dX6_streams_53 : decode cX6_streams 53 = .ok (.aload_n 0, 1) := by decide +kernel
theorem dX6_streams_54 : decode cX6_streams 54 = .ok (.getfield 126, 3) := by decide +kernel
theorem dX6_streams_57 : decode cX6_streams 57 = .ok (.invokestatic 194, 3) := by decide +kernel
theorem dX6_streams_60 : decode cX6_streams 60 = .ok (.ireturn, 1) := by decide +kernel
theorem dX6_streams_61 : decode cX6_streams 61 = .ok (.new 112, 3) := by decide +kernel
theorem dX6_streams_64 : decode cX6_streams 64 = .ok (.dup, 1) := by decide +kernel
theorem dX6_streams_65 : decode cX6_streams 65 = .ok (.ldc 201, 2) := by decide +kernel
theorem dX6_streams_67 : decode cX6_streams 67 = .ok (.invokespecial 116, 3) := by decide +kernel
theorem dX6_streams_70 : decode cX6_streams 70 = .ok (.athrow, 1) := by decide +kernel
theorem dX6_requireLink_0 : decode cX6_requireLink 0 = .ok (.iload_n 0, 1) := by decide +kernel
theorem dX6_requireLink_1 : decode cX6_requireLink 1 = .ok (.invokestatic 203, 3) := by decide +kernel
theorem dX6_requireLink_4 : decode cX6_requireLink 4 = .ok (.ifCond .ne 13, 3) := by decide +kernel
theorem dX6_requireLink_7 : decode cX6_requireLink 7 = .ok (.new 112, 3) := by decide +kernel
theorem dX6_requireLink_10 : decode cX6_requireLink 10 = .ok (.dup, 1) := by decide +kernel
theorem dX6_requireLink_11 : decode cX6_requireLink 11 = .ok (.ldc 206, 2) := by decide +kernel
theorem dX6_requireLink_13 : decode cX6_requireLink 13 = .ok (.invokespecial 116, 3) := by decide +kernel
theorem dX6_requireLink_16 : decode cX6_requireLink 16 = .ok (.athrow, 1) := by decide +kernel
theorem dX6_requireLink_17 : decode cX6_requireLink 17 = .ok (.return_, 1) := by decide +kernel
theorem dX6_requireLinkOrNone_0 : decode cX6_requireLinkOrNone 0 = .ok (.iload_n 0, 1) := by decide +kernel
theorem dX6_requireLinkOrNone_1 : decode cX6_requireLinkOrNone 1 = .ok (.iconst (-1), 1) := by decide +kernel
theorem dX6_requireLinkOrNone_2 : decode cX6_requireLinkOrNone 2 = .ok (.if_icmp .eq 7, 3) := by decide +kernel
theorem dX6_requireLinkOrNone_5 : decode cX6_requireLinkOrNone 5 = .ok (.iload_n 0, 1) := by decide +kernel
theorem dX6_requireLinkOrNone_6 : decode cX6_requireLinkOrNone 6 = .ok (.invokestatic 40, 3) := by decide +kernel
theorem dX6_requireLinkOrNone_9 : decode cX6_requireLinkOrNone 9 = .ok (.return_, 1) := by decide +kernel
theorem dX6_requireFound_0 : decode cX6_requireFound 0 = .ok (.aload_n 0, 1) := by decide +kernel
theorem dX6_requireFound_1 : decode cX6_requireFound 1 = .ok (.getfield 98, 3) := by decide +kernel
theorem dX6_requireFound_4 : decode cX6_requireFound 4 = .ok (.ifnonnull 13, 3) := by decide +kernel
theorem dX6_requireFound_7 : decode cX6_requireFound 7 = .ok (.new 208, 3) := by decide +kernel
theorem dX6_requireFound_10 : decode cX6_requireFound 10 = .ok (.dup, 1) := by decide +kernel
theorem dX6_requireFound_11 : decode cX6_requireFound 11 = .ok (.ldc 210, 2) := by decide +kernel
theorem dX6_requireFound_13 : decode cX6_requireFound 13 = .ok (.invokespecial 212, 3) := by decide +kernel
theorem dX6_requireFound_16 : decode cX6_requireFound 16 = .ok (.athrow, 1) := by decide +kernel
theorem dX6_requireFound_17 : decode cX6_requireFound 17 = .ok (.return_, 1) := by decide +kernel
theorem dX6_requireInForce_0 : decode cX6_requireInForce 0 = .ok (.iload_n 1, 1) := by decide +kernel
theorem dX6_requireInForce_1 : decode cX6_requireInForce 1 = .ok (.ifCond .lt 11, 3) := by decide +kernel
theorem dX6_requireInForce_4 : decode cX6_requireInForce 4 = .ok (.iload_n 1, 1) := by decide +kernel
theorem dX6_requireInForce_5 : decode cX6_requireInForce 5 = .ok (.aload_n 0, 1) := by decide +kernel
theorem dX6_requireInForce_6 : decode cX6_requireInForce 6 = .ok (.invokevirtual 213, 3) := by decide +kernel
theorem dX6_requireInForce_9 : decode cX6_requireInForce 9 = .ok (.if_icmp .lt 13, 3) := by decide +kernel
theorem dX6_requireInForce_12 : decode cX6_requireInForce 12 = .ok (.new 112, 3) := by decide +kernel
theorem dX6_requireInForce_15 : decode cX6_requireInForce 15 = .ok (.dup, 1) := by decide +kernel
theorem dX6_requireInForce_16 : decode cX6_requireInForce 16 = .ok (.ldc 217, 2) := by decide +kernel
theorem dX6_requireInForce_18 : decode cX6_requireInForce 18 = .ok (.invokespecial 116, 3) := by decide +kernel
theorem dX6_requireInForce_21 : decode cX6_requireInForce 21 = .ok (.athrow, 1) := by decide +kernel
theorem dX6_requireInForce_22 : decode cX6_requireInForce 22 = .ok (.return_, 1) := by decide +kernel
theorem dX6_isLink_0 : decode cX6_isLink 0 = .ok (.iload_n 0, 1) := by decide +kernel
theorem dX6_isLink_1 : decode cX6_isLink 1 = .ok (.ifCond .lt 13, 3) := by decide +kernel
theorem dX6_isLink_4 : decode cX6_isLink 4 = .ok (.iload_n 0, 1) := by decide +kernel
theorem dX6_isLink_5 : decode cX6_isLink 5 = .ok (.bipush 6, 2) := by decide +kernel
theorem dX6_isLink_7 : decode cX6_isLink 7 = .ok (.if_icmp .ge 7, 3) := by decide +kernel
theorem dX6_isLink_10 : decode cX6_isLink 10 = .ok (.iconst 1, 1) := by decide +kernel
theorem dX6_isLink_11 : decode cX6_isLink 11 = .ok (.goto 4, 3) := by decide +kernel
theorem dX6_isLink_14 : decode cX6_isLink 14 = .ok (.iconst 0, 1) := by decide +kernel
theorem dX6_isLink_15 : decode cX6_isLink 15 = .ok (.ireturn, 1) := by decide +kernel
theorem dX6_isPeriod_0 : decode cX6_isPeriod 0 = .ok (.iload_n 0, 1) := by decide +kernel
theorem dX6_isPeriod_1 : decode cX6_isPeriod 1 = .ok (.bipush 8, 2) := by decide +kernel
theorem dX6_isPeriod_3 : decode cX6_isPeriod 3 = .ok (.if_icmp .eq 15, 3) := by decide +kernel
theorem dX6_isPeriod_6 : decode cX6_isPeriod 6 = .ok (.iload_n 0, 1) := by decide +kernel
theorem dX6_isPeriod_7 : decode cX6_isPeriod 7 = .ok (.bipush 16, 2) := by decide +kernel
theorem dX6_isPeriod_9 : decode cX6_isPeriod 9 = .ok (.if_icmp .eq 9, 3) := by decide +kernel
theorem dX6_isPeriod_12 : decode cX6_isPeriod 12 = .ok (.iload_n 0, 1) := by decide +kernel
theorem dX6_isPeriod_13 : decode cX6_isPeriod 13 = .ok (.bipush 32, 2) := by decide +kernel
theorem dX6_isPeriod_15 : decode cX6_isPeriod 15 = .ok (.if_icmp .ne 7, 3) := by decide +kernel
theorem dX6_isPeriod_18 : decode cX6_isPeriod 18 = .ok (.iconst 1, 1) := by decide +kernel
theorem dX6_isPeriod_19 : decode cX6_isPeriod 19 = .ok (.goto 4, 3) := by decide +kernel
theorem dX6_isPeriod_22 : decode cX6_isPeriod 22 = .ok (.iconst 0, 1) := by decide +kernel
theorem dX6_isPeriod_23 : decode cX6_isPeriod 23 = .ok (.ireturn, 1) := by decide +kernel
theorem dX6_isPath_0 : decode cX6_isPath 0 = .ok (.iload_n 1, 1) := by decide +kernel
theorem dX6_isPath_1 : decode cX6_isPath 1 = .ok (.iconst (-1), 1) := by decide +kernel
theorem dX6_isPath_2 : decode cX6_isPath 2 = .ok (.if_icmp .ne 14, 3) := by decide +kernel
theorem dX6_isPath_5 : decode cX6_isPath 5 = .ok (.iload_n 2, 1) := by decide +kernel
theorem dX6_isPath_6 : decode cX6_isPath 6 = .ok (.iconst (-1), 1) := by decide +kernel
theorem dX6_isPath_7 : decode cX6_isPath 7 = .ok (.if_icmp .ne 7, 3) := by decide +kernel
theorem dX6_isPath_10 : decode cX6_isPath 10 = .ok (.iconst 1, 1) := by decide +kernel
theorem dX6_isPath_11 : decode cX6_isPath 11 = .ok (.goto 4, 3) := by decide +kernel
theorem dX6_isPath_14 : decode cX6_isPath 14 = .ok (.iconst 0, 1) := by decide +kernel
theorem dX6_isPath_15 : decode cX6_isPath 15 = .ok (.ireturn, 1) := by decide +kernel
theorem dX6_isPath_16 : decode cX6_isPath 16 = .ok (.iload_n 0, 1) := by decide +kernel
theorem dX6_isPath_17 : decode cX6_isPath 17 = .ok (.iload_n 1, 1) := by decide +kernel
theorem dX6_isPath_18 : decode cX6_isPath 18 = .ok (.if_icmp .eq 17, 3) := by decide +kernel
theorem dX6_isPath_21 : decode cX6_isPath 21 = .ok (.iload_n 0, 1) := by decide +kernel
theorem dX6_isPath_22 : decode cX6_isPath 22 = .ok (.iload_n 2, 1) := by decide +kernel
theorem dX6_isPath_23 : decode cX6_isPath 23 = .ok (.if_icmp .eq 12, 3) := by decide +kernel
theorem dX6_isPath_26 : decode cX6_isPath 26 = .ok (.iload_n 1, 1) := by decide +kernel
theorem dX6_isPath_27 : decode cX6_isPath 27 = .ok (.iload_n 2, 1) := by decide +kernel
theorem dX6_isPath_28 : decode cX6_isPath 28 = .ok (.if_icmp .eq 7, 3) := by decide +kernel
theorem dX6_isPath_31 : decode cX6_isPath 31 = .ok (.iconst 1, 1) := by decide +kernel
theorem dX6_isPath_32 : decode cX6_isPath 32 = .ok (.goto 4, 3) := by decide +kernel
theorem dX6_isPath_35 : decode cX6_isPath 35 = .ok (.iconst 0, 1) := by decide +kernel
theorem dX6_isPath_36 : decode cX6_isPath 36 = .ok (.ireturn, 1) := by decide +kernel
theorem dX6_pathOf_0 : decode cX6_pathOf 0 = .ok (.iload_n 1, 1) := by decide +kernel
theorem dX6_pathOf_1 : decode cX6_pathOf 1 = .ok (.iconst (-1), 1) := by decide +kernel
theorem dX6_pathOf_2 : decode cX6_pathOf 2 = .ok (.if_icmp .ne 7, 3) := by decide +kernel
theorem dX6_pathOf_5 : decode cX6_pathOf 5 = .ok (.iconst 1, 1) := by decide +kernel
theorem dX6_pathOf_6 : decode cX6_pathOf 6 = .ok (.goto 13, 3) := by decide +kernel
theorem dX6_pathOf_9 : decode cX6_pathOf 9 = .ok (.iload_n 2, 1) := by decide +kernel
theorem dX6_pathOf_10 : decode cX6_pathOf 10 = .ok (.iconst (-1), 1) := by decide +kernel
theorem dX6_pathOf_11 : decode cX6_pathOf 11 = .ok (.if_icmp .ne 7, 3) := by decide +kernel
theorem dX6_pathOf_14 : decode cX6_pathOf 14 = .ok (.iconst 2, 1) := by decide +kernel
theorem dX6_pathOf_15 : decode cX6_pathOf 15 = .ok (.goto 4, 3) := by decide +kernel
theorem dX6_pathOf_18 : decode cX6_pathOf 18 = .ok (.iconst 3, 1) := by decide +kernel
theorem dX6_pathOf_19 : decode cX6_pathOf 19 = .ok (.istore_n 3, 1) := by decide +kernel
theorem dX6_pathOf_20 : decode cX6_pathOf 20 = .ok (.iload_n 3, 1) := by decide +kernel
theorem dX6_pathOf_21 : decode cX6_pathOf 21 = .ok (.newarray .int, 2) := by decide +kernel
theorem dX6_pathOf_23 : decode cX6_pathOf 23 = .ok (.astore 4, 2) := by decide +kernel
theorem dX6_pathOf_25 : decode cX6_pathOf 25 = .ok (.aload 4, 2) := by decide +kernel
theorem dX6_pathOf_27 : decode cX6_pathOf 27 = .ok (.iconst 0, 1) := by decide +kernel
theorem dX6_pathOf_28 : decode cX6_pathOf 28 = .ok (.iload_n 0, 1) := by decide +kernel
theorem dX6_pathOf_29 : decode cX6_pathOf 29 = .ok (.iastore, 1) := by decide +kernel
theorem dX6_pathOf_30 : decode cX6_pathOf 30 = .ok (.iload_n 3, 1) := by decide +kernel
theorem dX6_pathOf_31 : decode cX6_pathOf 31 = .ok (.iconst 1, 1) := by decide +kernel
theorem dX6_pathOf_32 : decode cX6_pathOf 32 = .ok (.if_icmp .le 8, 3) := by decide +kernel
theorem dX6_pathOf_35 : decode cX6_pathOf 35 = .ok (.aload 4, 2) := by decide +kernel
theorem dX6_pathOf_37 : decode cX6_pathOf 37 = .ok (.iconst 1, 1) := by decide +kernel
theorem dX6_pathOf_38 : decode cX6_pathOf 38 = .ok (.iload_n 1, 1) := by decide +kernel
theorem dX6_pathOf_39 : decode cX6_pathOf 39 = .ok (.iastore, 1) := by decide +kernel
theorem dX6_pathOf_40 : decode cX6_pathOf 40 = .ok (.iload_n 3, 1) := by decide +kernel
theorem dX6_pathOf_41 : decode cX6_pathOf 41 = .ok (.iconst 2, 1) := by decide +kernel
theorem dX6_pathOf_42 : decode cX6_pathOf 42 = .ok (.if_icmp .le 8, 3) := by decide +kernel
theorem dX6_pathOf_45 : decode cX6_pathOf 45 = .ok (.aload 4, 2) := by decide +kernel
theorem dX6_pathOf_47 : decode cX6_pathOf 47 = .ok (.iconst 2, 1) := by decide +kernel
theorem dX6_pathOf_48 : decode cX6_pathOf 48 = .ok (.iload_n 2, 1) := by decide +kernel
theorem dX6_pathOf_49 : decode cX6_pathOf 49 = .ok (.iastore, 1) := by decide +kernel
theorem dX6_pathOf_50 : decode cX6_pathOf 50 = .ok (.aload 4, 2) := by decide +kernel
theorem dX6_pathOf_52 : decode cX6_pathOf 52 = .ok (.areturn, 1) := by decide +kernel
theorem dX6_streamsOf_0 : decode cX6_streamsOf 0 = .ok (.aload_n 0, 1) := by decide +kernel
theorem dX6_streamsOf_1 : decode cX6_streamsOf 1 = .ok (.ifnonnull 7, 3) := by decide +kernel
theorem dX6_streamsOf_4 : decode cX6_streamsOf 4 = .ok (.iconst (-1), 1) := by decide +kernel
theorem dX6_streamsOf_5 : decode cX6_streamsOf 5 = .ok (.goto 8, 3) := by decide +kernel
theorem dX6_streamsOf_8 : decode cX6_streamsOf 8 = .ok (.aload_n 0, 1) := by decide +kernel
theorem dX6_streamsOf_9 : decode cX6_streamsOf 9 = .ok (.getfield 108, 3) := by decide +kernel
theorem dX6_streamsOf_12 : decode cX6_streamsOf 12 = .ok (.arraylength, 1) := by decide +kernel
theorem dX6_streamsOf_13 : decode cX6_streamsOf 13 = .ok (.ireturn, 1) := by decide +kernel
theorem dX6_talking_0 : decode cX6_talking 0 = .ok (.aload_n 0, 1) := by decide +kernel
theorem dX6_talking_1 : decode cX6_talking 1 = .ok (.getfield 198, 3) := by decide +kernel
theorem dX6_talking_4 : decode cX6_talking 4 = .ok (.ifnonnull 7, 3) := by decide +kernel
theorem dX6_talking_7 : decode cX6_talking 7 = .ok (.iconst 0, 1) := by decide +kernel
theorem dX6_talking_8 : decode cX6_talking 8 = .ok (.goto 11, 3) := by decide +kernel
theorem dX6_talking_11 : decode cX6_talking 11 = .ok (.aload_n 0, 1) := by decide +kernel
theorem dX6_talking_12 : decode cX6_talking 12 = .ok (.getfield 198, 3) := by decide +kernel
theorem dX6_talking_15 : decode cX6_talking 15 = .ok (.getfield 108, 3) := by decide +kernel
theorem dX6_talking_18 : decode cX6_talking 18 = .ok (.arraylength, 1) := by decide +kernel
theorem dX6_talking_19 : decode cX6_talking 19 = .ok (.ireturn, 1) := by decide +kernel
theorem dX6_passOneTick_0 : decode cX6_passOneTick 0 = .ok (.aload_n 0, 1) := by decide +kernel
theorem dX6_passOneTick_1 : decode cX6_passOneTick 1 = .ok (.getfield 126, 3) := by decide +kernel
theorem dX6_passOneTick_4 : decode cX6_passOneTick 4 = .ok (.ifnull 14, 3) := by decide +kernel
theorem dX6_passOneTick_7 : decode cX6_passOneTick 7 = .ok (.aload_n 0, 1) := by decide +kernel
theorem dX6_passOneTick_8 : decode cX6_passOneTick 8 = .ok (.invokevirtual 219, 3) := by decide +kernel
theorem dX6_passOneTick_11 : decode cX6_passOneTick 11 = .ok (.ifCond .eq 7, 3) := by decide +kernel
theorem dX6_passOneTick_14 : decode cX6_passOneTick 14 = .ok (.aload_n 0, 1) := by decide +kernel
theorem dX6_passOneTick_15 : decode cX6_passOneTick 15 = .ok (.invokevirtual 223, 3) := by decide +kernel
theorem dX6_passOneTick_18 : decode cX6_passOneTick 18 = .ok (.aload_n 0, 1) := by decide +kernel
theorem dX6_passOneTick_19 : decode cX6_passOneTick 19 = .ok (.getfield 126, 3) := by decide +kernel
theorem dX6_passOneTick_22 : decode cX6_passOneTick 22 = .ok (.ifnonnull 32, 3) := by decide +kernel
theorem dX6_passOneTick_25 : decode cX6_passOneTick 25 = .ok (.iconst 0, 1) := by decide +kernel
theorem dX6_passOneTick_26 : decode cX6_passOneTick 26 = .ok (.istore_n 1, 1) := by decide +kernel
theorem dX6_passOneTick_27 : decode cX6_passOneTick 27 = .ok (.iload_n 1, 1) := by decide +kernel
theorem dX6_passOneTick_28 : decode cX6_passOneTick 28 = .ok (.aload_n 0, 1) := by decide +kernel
theorem dX6_passOneTick_29 : decode cX6_passOneTick 29 = .ok (.invokevirtual 213, 3) := by decide +kernel
theorem dX6_passOneTick_32 : decode cX6_passOneTick 32 = .ok (.if_icmp .ge 22, 3) := by decide +kernel
theorem dX6_passOneTick_35 : decode cX6_passOneTick 35 = .ok (.aload_n 0, 1) := by decide +kernel
theorem dX6_passOneTick_36 : decode cX6_passOneTick 36 = .ok (.getfield 28, 3) := by decide +kernel
theorem dX6_passOneTick_39 : decode cX6_passOneTick 39 = .ok (.iload_n 1, 1) := by decide +kernel
theorem dX6_passOneTick_40 : decode cX6_passOneTick 40 = .ok (.aaload, 1) := by decide +kernel
theorem dX6_passOneTick_41 : decode cX6_passOneTick 41 = .ok (.aload_n 0, 1) := by decide +kernel
theorem dX6_passOneTick_42 : decode cX6_passOneTick 42 = .ok (.getfield 134, 3) := by decide +kernel
theorem dX6_passOneTick_45 : decode cX6_passOneTick 45 = .ok (.invokevirtual 226, 3) := by decide +kernel
theorem dX6_passOneTick_48 : decode cX6_passOneTick 48 = .ok (.iinc 1 1, 3) := by decide +kernel
theorem dX6_passOneTick_51 : decode cX6_passOneTick 51 = .ok (.goto (-24), 3) := by decide +kernel
theorem dX6_passOneTick_54 : decode cX6_passOneTick 54 = .ok (.iconst 0, 1) := by decide +kernel
theorem dX6_passOneTick_55 : decode cX6_passOneTick 55 = .ok (.istore_n 1, 1) := by decide +kernel
theorem dX6_passOneTick_56 : decode cX6_passOneTick 56 = .ok (.iload_n 1, 1) := by decide +kernel
theorem dX6_passOneTick_57 : decode cX6_passOneTick 57 = .ok (.aload_n 0, 1) := by decide +kernel
theorem dX6_passOneTick_58 : decode cX6_passOneTick 58 = .ok (.invokevirtual 213, 3) := by decide +kernel
theorem dX6_passOneTick_61 : decode cX6_passOneTick 61 = .ok (.if_icmp .ge 26, 3) := by decide +kernel
theorem dX6_passOneTick_64 : decode cX6_passOneTick 64 = .ok (.aload_n 0, 1) := by decide +kernel
theorem dX6_passOneTick_65 : decode cX6_passOneTick 65 = .ok (.getfield 28, 3) := by decide +kernel
theorem dX6_passOneTick_68 : decode cX6_passOneTick 68 = .ok (.iload_n 1, 1) := by decide +kernel
theorem dX6_passOneTick_69 : decode cX6_passOneTick 69 = .ok (.aaload, 1) := by decide +kernel
theorem dX6_passOneTick_70 : decode cX6_passOneTick 70 = .ok (.aload_n 0, 1) := by decide +kernel
theorem dX6_passOneTick_71 : decode cX6_passOneTick 71 = .ok (.getfield 134, 3) := by decide +kernel
theorem dX6_passOneTick_74 : decode cX6_passOneTick 74 = .ok (.aload_n 0, 1) := by decide +kernel
theorem dX6_passOneTick_75 : decode cX6_passOneTick 75 = .ok (.getfield 34, 3) := by decide +kernel
theorem dX6_passOneTick_78 : decode cX6_passOneTick 78 = .ok (.invokevirtual 229, 3) := by decide +kernel
theorem dX6_passOneTick_81 : decode cX6_passOneTick 81 = .ok (.iinc 1 1, 3) := by decide +kernel
theorem dX6_passOneTick_84 : decode cX6_passOneTick 84 = .ok (.goto (-28), 3) := by decide +kernel
theorem dX6_passOneTick_87 : decode cX6_passOneTick 87 = .ok (.iconst 0, 1) := by decide +kernel
theorem dX6_passOneTick_88 : decode cX6_passOneTick 88 = .ok (.istore_n 1, 1) := by decide +kernel
theorem dX6_passOneTick_89 : decode cX6_passOneTick 89 = .ok (.iload_n 1, 1) := by decide +kernel
theorem dX6_passOneTick_90 : decode cX6_passOneTick 90 = .ok (.bipush 6, 2) := by decide +kernel
theorem dX6_passOneTick_92 : decode cX6_passOneTick 92 = .ok (.if_icmp .ge 14, 3) := by decide +kernel
theorem dX6_passOneTick_95 : decode cX6_passOneTick 95 = .ok (.aload_n 0, 1) := by decide +kernel
theorem dX6_passOneTick_96 : decode cX6_passOneTick 96 = .ok (.iload_n 1, 1) := by decide +kernel
theorem dX6_passOneTick_97 : decode cX6_passOneTick 97 = .ok (.invokevirtual 233, 3) := by decide +kernel
theorem dX6_passOneTick_100 : decode cX6_passOneTick 100 = .ok (.iinc 1 1, 3) := by decide +kernel
theorem dX6_passOneTick_103 : decode cX6_passOneTick 103 = .ok (.goto (-14), 3) := by decide +kernel
theorem dX6_passOneTick_106 : decode cX6_passOneTick 106 = .ok (.aload_n 0, 1) := by decide +kernel
theorem dX6_passOneTick_107 : decode cX6_passOneTick 107 = .ok (.dup, 1) := by decide +kernel
theorem dX6_passOneTick_108 : decode cX6_passOneTick 108 = .ok (.getfield 134, 3) := by decide +kernel
theorem dX6_passOneTick_111 : decode cX6_passOneTick 111 = .ok (.iconst 1, 1) := by decide +kernel
theorem dX6_passOneTick_112 : decode cX6_passOneTick 112 = .ok (.iadd, 1) := by decide +kernel
theorem dX6_passOneTick_113 : decode cX6_passOneTick 113 = .ok (.putfield 134, 3) := by decide +kernel
theorem dX6_passOneTick_116 : decode cX6_passOneTick 116 = .ok (.iconst 0, 1) := by decide +kernel
theorem dX6_passOneTick_117 : decode cX6_passOneTick 117 = .ok (.istore_n 1, 1) := by decide +kernel
theorem dX6_passOneTick_118 : decode cX6_passOneTick 118 = .ok (.iload_n 1, 1) := by decide +kernel
theorem dX6_passOneTick_119 : decode cX6_passOneTick 119 = .ok (.bipush 6, 2) := by decide +kernel
theorem dX6_passOneTick_121 : decode cX6_passOneTick 121 = .ok (.if_icmp .ge 18, 3) := by decide +kernel
theorem dX6_passOneTick_124 : decode cX6_passOneTick 124 = .ok (.aload_n 0, 1) := by decide +kernel
theorem dX6_passOneTick_125 : decode cX6_passOneTick 125 = .ok (.getfield 34, 3) := by decide +kernel
theorem dX6_passOneTick_128 : decode cX6_passOneTick 128 = .ok (.iload_n 1, 1) := by decide +kernel
theorem dX6_passOneTick_129 : decode cX6_passOneTick 129 = .ok (.aaload, 1) := by decide +kernel
theorem dX6_passOneTick_130 : decode cX6_passOneTick 130 = .ok (.invokevirtual 236, 3) := by decide +kernel
theorem dX6_passOneTick_133 : decode cX6_passOneTick 133 = .ok (.iinc 1 1, 3) := by decide +kernel
theorem dX6_passOneTick_136 : decode cX6_passOneTick 136 = .ok (.goto (-18), 3) := by decide +kernel
theorem dX6_passOneTick_139 : decode cX6_passOneTick 139 = .ok (.return_, 1) := by decide +kernel
theorem dX6_isTimeToChange_0 : decode cX6_isTimeToChange 0 = .ok (.aload_n 0, 1) := by decide +kernel
theorem dX6_isTimeToChange_1 : decode cX6_isTimeToChange 1 = .ok (.getfield 134, 3) := by decide +kernel
theorem dX6_isTimeToChange_4 : decode cX6_isTimeToChange 4 = .ok (.bipush 31, 2) := by decide +kernel
theorem dX6_isTimeToChange_6 : decode cX6_isTimeToChange 6 = .ok (.iand, 1) := by decide +kernel
theorem dX6_isTimeToChange_7 : decode cX6_isTimeToChange 7 = .ok (.ifCond .ne 7, 3) := by decide +kernel
theorem dX6_isTimeToChange_10 : decode cX6_isTimeToChange 10 = .ok (.iconst 1, 1) := by decide +kernel
theorem dX6_isTimeToChange_11 : decode cX6_isTimeToChange 11 = .ok (.goto 4, 3) := by decide +kernel
theorem dX6_isTimeToChange_14 : decode cX6_isTimeToChange 14 = .ok (.iconst 0, 1) := by decide +kernel
theorem dX6_isTimeToChange_15 : decode cX6_isTimeToChange 15 = .ok (.istore_n 1, 1) := by decide +kernel
theorem dX6_isTimeToChange_16 : decode cX6_isTimeToChange 16 = .ok (.iconst 0, 1) := by decide +kernel
theorem dX6_isTimeToChange_17 : decode cX6_isTimeToChange 17 = .ok (.istore_n 2, 1) := by decide +kernel
theorem dX6_isTimeToChange_18 : decode cX6_isTimeToChange 18 = .ok (.iload_n 2, 1) := by decide +kernel
theorem dX6_isTimeToChange_19 : decode cX6_isTimeToChange 19 = .ok (.aload_n 0, 1) := by decide +kernel
theorem dX6_isTimeToChange_20 : decode cX6_isTimeToChange 20 = .ok (.invokevirtual 213, 3) := by decide +kernel
theorem dX6_isTimeToChange_23 : decode cX6_isTimeToChange 23 = .ok (.if_icmp .ge 31, 3) := by decide +kernel
theorem dX6_isTimeToChange_26 : decode cX6_isTimeToChange 26 = .ok (.iload_n 1, 1) := by decide +kernel
theorem dX6_isTimeToChange_27 : decode cX6_isTimeToChange 27 = .ok (.ifCond .eq 19, 3) := by decide +kernel
theorem dX6_isTimeToChange_30 : decode cX6_isTimeToChange 30 = .ok (.aload_n 0, 1) := by decide +kernel
theorem dX6_isTimeToChange_31 : decode cX6_isTimeToChange 31 = .ok (.getfield 28, 3) := by decide +kernel
theorem dX6_isTimeToChange_34 : decode cX6_isTimeToChange 34 = .ok (.iload_n 2, 1) := by decide +kernel
theorem dX6_isTimeToChange_35 : decode cX6_isTimeToChange 35 = .ok (.aaload, 1) := by decide +kernel
theorem dX6_isTimeToChange_36 : decode cX6_isTimeToChange 36 = .ok (.getfield 168, 3) := by decide +kernel
theorem dX6_isTimeToChange_39 : decode cX6_isTimeToChange 39 = .ok (.ifCond .ne 7, 3) := by decide +kernel
theorem dX6_isTimeToChange_42 : decode cX6_isTimeToChange 42 = .ok (.iconst 1, 1) := by decide +kernel
theorem dX6_isTimeToChange_43 : decode cX6_isTimeToChange 43 = .ok (.goto 4, 3) := by decide +kernel
theorem dX6_isTimeToChange_46 : decode cX6_isTimeToChange 46 = .ok (.iconst 0, 1) := by decide +kernel
theorem dX6_isTimeToChange_47 : decode cX6_isTimeToChange 47 = .ok (.istore_n 1, 1) := by decide +kernel
theorem dX6_isTimeToChange_48 : decode cX6_isTimeToChange 48 = .ok (.iinc 2 1, 3) := by decide +kernel
theorem dX6_isTimeToChange_51 : decode cX6_isTimeToChange 51 = .ok (.goto (-33), 3) := by decide +kernel
theorem dX6_isTimeToChange_54 : decode cX6_isTimeToChange 54 = .ok (.iconst 0, 1) := by decide +kernel
theorem dX6_isTimeToChange_55 : decode cX6_isTimeToChange 55 = .ok (.istore_n 2, 1) := by decide +kernel
theorem dX6_isTimeToChange_56 : decode cX6_isTimeToChange 56 = .ok (.iload_n 2, 1) := by decide +kernel
theorem dX6_isTimeToChange_57 : decode cX6_isTimeToChange 57 = .ok (.bipush 6, 2) := by decide +kernel
theorem dX6_isTimeToChange_59 : decode cX6_isTimeToChange 59 = .ok (.if_icmp .ge 31, 3) := by decide +kernel
theorem dX6_isTimeToChange_62 : decode cX6_isTimeToChange 62 = .ok (.iload_n 1, 1) := by decide +kernel
theorem dX6_isTimeToChange_63 : decode cX6_isTimeToChange 63 = .ok (.ifCond .eq 19, 3) := by decide +kernel
theorem dX6_isTimeToChange_66 : decode cX6_isTimeToChange 66 = .ok (.aload_n 0, 1) := by decide +kernel
theorem dX6_isTimeToChange_67 : decode cX6_isTimeToChange 67 = .ok (.getfield 34, 3) := by decide +kernel
theorem dX6_isTimeToChange_70 : decode cX6_isTimeToChange 70 = .ok (.iload_n 2, 1) := by decide +kernel
theorem dX6_isTimeToChange_71 : decode cX6_isTimeToChange 71 = .ok (.aaload, 1) := by decide +kernel
theorem dX6_isTimeToChange_72 : decode cX6_isTimeToChange 72 = .ok (.getfield 239, 3) := by decide +kernel
theorem dX6_isTimeToChange_75 : decode cX6_isTimeToChange 75 = .ok (.ifCond .ne 7, 3) := by decide +kernel
theorem dX6_isTimeToChange_78 : decode cX6_isTimeToChange 78 = .ok (.iconst 1, 1) := by decide +kernel
theorem dX6_isTimeToChange_79 : decode cX6_isTimeToChange 79 = .ok (.goto 4, 3) := by decide +kernel
theorem dX6_isTimeToChange_82 : decode cX6_isTimeToChange 82 = .ok (.iconst 0, 1) := by decide +kernel
theorem dX6_isTimeToChange_83 : decode cX6_isTimeToChange 83 = .ok (.istore_n 1, 1) := by decide +kernel
theorem dX6_isTimeToChange_84 : decode cX6_isTimeToChange 84 = .ok (.iinc 2 1, 3) := by decide +kernel
theorem dX6_isTimeToChange_87 : decode cX6_isTimeToChange 87 = .ok (.goto (-31), 3) := by decide +kernel
theorem dX6_isTimeToChange_90 : decode cX6_isTimeToChange 90 = .ok (.iload_n 1, 1) := by decide +kernel
theorem dX6_isTimeToChange_91 : decode cX6_isTimeToChange 91 = .ok (.ireturn, 1) := by decide +kernel
theorem dX6_comeIntoForce_0 : decode cX6_comeIntoForce 0 = .ok (.aload_n 0, 1) := by decide +kernel
theorem dX6_comeIntoForce_1 : decode cX6_comeIntoForce 1 = .ok (.aload_n 0, 1) := by decide +kernel
theorem dX6_comeIntoForce_2 : decode cX6_comeIntoForce 2 = .ok (.getfield 126, 3) := by decide +kernel
theorem dX6_comeIntoForce_5 : decode cX6_comeIntoForce 5 = .ok (.putfield 198, 3) := by decide +kernel
theorem dX6_comeIntoForce_8 : decode cX6_comeIntoForce 8 = .ok (.aload_n 0, 1) := by decide +kernel
theorem dX6_comeIntoForce_9 : decode cX6_comeIntoForce 9 = .ok (.aconst_null, 1) := by decide +kernel
theorem dX6_comeIntoForce_10 : decode cX6_comeIntoForce 10 = .ok (.putfield 126, 3) := by decide +kernel
theorem dX6_comeIntoForce_13 : decode cX6_comeIntoForce 13 = .ok (.iconst 0, 1) := by decide +kernel
theorem dX6_comeIntoForce_14 : decode cX6_comeIntoForce 14 = .ok (.istore_n 1, 1) := by decide +kernel
theorem dX6_comeIntoForce_15 : decode cX6_comeIntoForce 15 = .ok (.iload_n 1, 1) := by decide +kernel
theorem dX6_comeIntoForce_16 : decode cX6_comeIntoForce 16 = .ok (.aload_n 0, 1) := by decide +kernel
theorem dX6_comeIntoForce_17 : decode cX6_comeIntoForce 17 = .ok (.invokevirtual 213, 3) := by decide +kernel
theorem dX6_comeIntoForce_20 : decode cX6_comeIntoForce 20 = .ok (.if_icmp .ge 27, 3) := by decide +kernel
theorem dX6_comeIntoForce_23 : decode cX6_comeIntoForce 23 = .ok (.aload_n 0, 1) := by decide +kernel
theorem dX6_comeIntoForce_24 : decode cX6_comeIntoForce 24 = .ok (.getfield 28, 3) := by decide +kernel
theorem dX6_comeIntoForce_27 : decode cX6_comeIntoForce 27 = .ok (.iload_n 1, 1) := by decide +kernel
theorem dX6_comeIntoForce_28 : decode cX6_comeIntoForce 28 = .ok (.aaload, 1) := by decide +kernel
theorem dX6_comeIntoForce_29 : decode cX6_comeIntoForce 29 = .ok (.aload_n 0, 1) := by decide +kernel
theorem dX6_comeIntoForce_30 : decode cX6_comeIntoForce 30 = .ok (.getfield 198, 3) := by decide +kernel
theorem dX6_comeIntoForce_33 : decode cX6_comeIntoForce 33 = .ok (.getfield 108, 3) := by decide +kernel
theorem dX6_comeIntoForce_36 : decode cX6_comeIntoForce 36 = .ok (.iload_n 1, 1) := by decide +kernel
theorem dX6_comeIntoForce_37 : decode cX6_comeIntoForce 37 = .ok (.aaload, 1) := by decide +kernel
theorem dX6_comeIntoForce_38 : decode cX6_comeIntoForce 38 = .ok (.invokevirtual 242, 3) := by decide +kernel
theorem dX6_comeIntoForce_41 : decode cX6_comeIntoForce 41 = .ok (.iinc 1 1, 3) := by decide +kernel
theorem dX6_comeIntoForce_44 : decode cX6_comeIntoForce 44 = .ok (.goto (-29), 3) := by decide +kernel
theorem dX6_comeIntoForce_47 : decode cX6_comeIntoForce 47 = .ok (.return_, 1) := by decide +kernel
theorem dX6_beginWaiting_0 : decode cX6_beginWaiting 0 = .ok (.aload_n 0, 1) := by decide +kernel
theorem dX6_beginWaiting_1 : decode cX6_beginWaiting 1 = .ok (.getfield 34, 3) := by decide +kernel
theorem dX6_beginWaiting_4 : decode cX6_beginWaiting 4 = .ok (.iload_n 1, 1) := by decide +kernel
theorem dX6_beginWaiting_5 : decode cX6_beginWaiting 5 = .ok (.aaload, 1) := by decide +kernel
theorem dX6_beginWaiting_6 : decode cX6_beginWaiting 6 = .ok (.astore_n 2, 1) := by decide +kernel
theorem dX6_beginWaiting_7 : decode cX6_beginWaiting 7 = .ok (.aload_n 2, 1) := by decide +kernel
theorem dX6_beginWaiting_8 : decode cX6_beginWaiting 8 = .ok (.invokevirtual 246, 3) := by decide +kernel
theorem dX6_beginWaiting_11 : decode cX6_beginWaiting 11 = .ok (.ifCond .eq 35, 3) := by decide +kernel
theorem dX6_beginWaiting_14 : decode cX6_beginWaiting 14 = .ok (.aload_n 0, 1) := by decide +kernel
theorem dX6_beginWaiting_15 : decode cX6_beginWaiting 15 = .ok (.getfield 198, 3) := by decide +kernel
theorem dX6_beginWaiting_18 : decode cX6_beginWaiting 18 = .ok (.ifnull 24, 3) := by decide +kernel
theorem dX6_beginWaiting_21 : decode cX6_beginWaiting 21 = .ok (.aload_n 0, 1) := by decide +kernel
theorem dX6_beginWaiting_22 : decode cX6_beginWaiting 22 = .ok (.getfield 198, 3) := by decide +kernel
theorem dX6_beginWaiting_25 : decode cX6_beginWaiting 25 = .ok (.iload_n 1, 1) := by decide +kernel
theorem dX6_beginWaiting_26 : decode cX6_beginWaiting 26 = .ok (.aload_n 0, 1) := by decide +kernel
theorem dX6_beginWaiting_27 : decode cX6_beginWaiting 27 = .ok (.getfield 134, 3) := by decide +kernel
theorem dX6_beginWaiting_30 : decode cX6_beginWaiting 30 = .ok (.aload_n 2, 1) := by decide +kernel
theorem dX6_beginWaiting_31 : decode cX6_beginWaiting 31 = .ok (.getfield 249, 3) := by decide +kernel
theorem dX6_beginWaiting_34 : decode cX6_beginWaiting 34 = .ok (.iconst 0, 1) := by decide +kernel
theorem dX6_beginWaiting_35 : decode cX6_beginWaiting 35 = .ok (.iaload, 1) := by decide +kernel
theorem dX6_beginWaiting_36 : decode cX6_beginWaiting 36 = .ok (.invokevirtual 252, 3) := by decide +kernel
theorem dX6_beginWaiting_39 : decode cX6_beginWaiting 39 = .ok (.ifCond .eq 7, 3) := by decide +kernel
theorem dX6_beginWaiting_42 : decode cX6_beginWaiting 42 = .ok (.aload_n 2, 1) := by decide +kernel
theorem dX6_beginWaiting_43 : decode cX6_beginWaiting 43 = .ok (.invokevirtual 255, 3) := by decide +kernel
theorem dX6_beginWaiting_46 : decode cX6_beginWaiting 46 = .ok (.return_, 1) := by decide +kernel
theorem dX6_loseAllOn_0 : decode cX6_loseAllOn 0 = .ok (.iconst 0, 1) := by decide +kernel
theorem dX6_loseAllOn_1 : decode cX6_loseAllOn 1 = .ok (.istore_n 2, 1) := by decide +kernel
theorem dX6_loseAllOn_2 : decode cX6_loseAllOn 2 = .ok (.iload_n 2, 1) := by decide +kernel
theorem dX6_loseAllOn_3 : decode cX6_loseAllOn 3 = .ok (.aload_n 0, 1) := by decide +kernel
theorem dX6_loseAllOn_4 : decode cX6_loseAllOn 4 = .ok (.invokevirtual 213, 3) := by decide +kernel
theorem dX6_loseAllOn_7 : decode cX6_loseAllOn 7 = .ok (.if_icmp .ge 23, 3) := by decide +kernel
theorem dX6_loseAllOn_10 : decode cX6_loseAllOn 10 = .ok (.aload_n 0, 1) := by decide +kernel
theorem dX6_loseAllOn_11 : decode cX6_loseAllOn 11 = .ok (.getfield 28, 3) := by decide +kernel
theorem dX6_loseAllOn_14 : decode cX6_loseAllOn 14 = .ok (.iload_n 2, 1) := by decide +kernel
theorem dX6_loseAllOn_15 : decode cX6_loseAllOn 15 = .ok (.aaload, 1) := by decide +kernel
theorem dX6_loseAllOn_16 : decode cX6_loseAllOn 16 = .ok (.iload_n 1, 1) := by decide +kernel
theorem dX6_loseAllOn_17 : decode cX6_loseAllOn 17 = .ok (.aload_n 0, 1) := by decide +kernel
theorem dX6_loseAllOn_18 : decode cX6_loseAllOn 18 = .ok (.getfield 134, 3) := by decide +kernel
theorem dX6_loseAllOn_21 : decode cX6_loseAllOn 21 = .ok (.invokevirtual 258, 3) := by decide +kernel
theorem dX6_loseAllOn_24 : decode cX6_loseAllOn 24 = .ok (.iinc 2 1, 3) := by decide +kernel
theorem dX6_loseAllOn_27 : decode cX6_loseAllOn 27 = .ok (.goto (-25), 3) := by decide +kernel
theorem dX6_loseAllOn_30 : decode cX6_loseAllOn 30 = .ok (.aload_n 0, 1) := by decide +kernel
theorem dX6_loseAllOn_31 : decode cX6_loseAllOn 31 = .ok (.getfield 34, 3) := by decide +kernel
theorem dX6_loseAllOn_34 : decode cX6_loseAllOn 34 = .ok (.iload_n 1, 1) := by decide +kernel
theorem dX6_loseAllOn_35 : decode cX6_loseAllOn 35 = .ok (.aaload, 1) := by decide +kernel
theorem dX6_loseAllOn_36 : decode cX6_loseAllOn 36 = .ok (.iconst 0, 1) := by decide +kernel
theorem dX6_loseAllOn_37 : decode cX6_loseAllOn 37 = .ok (.putfield 239, 3) := by decide +kernel
theorem dX6_loseAllOn_40 : decode cX6_loseAllOn 40 = .ok (.return_, 1) := by decide +kernel
theorem dX6_whatIsOn_0 : decode cX6_whatIsOn 0 = .ok (.iconst 0, 1) := by decide +kernel
theorem dX6_whatIsOn_1 : decode cX6_whatIsOn 1 = .ok (.istore_n 2, 1) := by decide +kernel
theorem dX6_whatIsOn_2 : decode cX6_whatIsOn 2 = .ok (.iload_n 2, 1) := by decide +kernel
theorem dX6_whatIsOn_3 : decode cX6_whatIsOn 3 = .ok (.aload_n 0, 1) := by decide +kernel
theorem dX6_whatIsOn_4 : decode cX6_whatIsOn 4 = .ok (.invokevirtual 213, 3) := by decide +kernel
theorem dX6_whatIsOn_7 : decode cX6_whatIsOn 7 = .ok (.if_icmp .ge 28, 3) := by decide +kernel
theorem dX6_whatIsOn_10 : decode cX6_whatIsOn 10 = .ok (.aload_n 0, 1) := by decide +kernel
theorem dX6_whatIsOn_11 : decode cX6_whatIsOn 11 = .ok (.getfield 28, 3) := by decide +kernel
theorem dX6_whatIsOn_14 : decode cX6_whatIsOn 14 = .ok (.iload_n 2, 1) := by decide +kernel
theorem dX6_whatIsOn_15 : decode cX6_whatIsOn 15 = .ok (.aaload, 1) := by decide +kernel
theorem dX6_whatIsOn_16 : decode cX6_whatIsOn 16 = .ok (.iload_n 1, 1) := by decide +kernel
theorem dX6_whatIsOn_17 : decode cX6_whatIsOn 17 = .ok (.aload_n 0, 1) := by decide +kernel
theorem dX6_whatIsOn_18 : decode cX6_whatIsOn 18 = .ok (.getfield 134, 3) := by decide +kernel
theorem dX6_whatIsOn_21 : decode cX6_whatIsOn 21 = .ok (.invokevirtual 262, 3) := by decide +kernel
theorem dX6_whatIsOn_24 : decode cX6_whatIsOn 24 = .ok (.ifCond .eq 5, 3) := by decide +kernel
theorem dX6_whatIsOn_27 : decode cX6_whatIsOn 27 = .ok (.iload_n 2, 1) := by decide +kernel
theorem dX6_whatIsOn_28 : decode cX6_whatIsOn 28 = .ok (.ireturn, 1) := by decide +kernel
theorem dX6_whatIsOn_29 : decode cX6_whatIsOn 29 = .ok (.iinc 2 1, 3) := by decide +kernel
theorem dX6_whatIsOn_32 : decode cX6_whatIsOn 32 = .ok (.goto (-30), 3) := by decide +kernel
theorem dX6_whatIsOn_35 : decode cX6_whatIsOn 35 = .ok (.aload_n 0, 1) := by decide +kernel
theorem dX6_whatIsOn_36 : decode cX6_whatIsOn 36 = .ok (.getfield 34, 3) := by decide +kernel
theorem dX6_whatIsOn_39 : decode cX6_whatIsOn 39 = .ok (.iload_n 1, 1) := by decide +kernel
theorem dX6_whatIsOn_40 : decode cX6_whatIsOn 40 = .ok (.aaload, 1) := by decide +kernel
theorem dX6_whatIsOn_41 : decode cX6_whatIsOn 41 = .ok (.getfield 239, 3) := by decide +kernel
theorem dX6_whatIsOn_44 : decode cX6_whatIsOn 44 = .ok (.ifCond .le 7, 3) := by decide +kernel
theorem dX6_whatIsOn_47 : decode cX6_whatIsOn 47 = .ok (.iconst 5, 1) := by decide +kernel
theorem dX6_whatIsOn_48 : decode cX6_whatIsOn 48 = .ok (.goto 4, 3) := by decide +kernel
theorem dX6_whatIsOn_51 : decode cX6_whatIsOn 51 = .ok (.iconst (-1), 1) := by decide +kernel
theorem dX6_whatIsOn_52 : decode cX6_whatIsOn 52 = .ok (.ireturn, 1) := by decide +kernel
