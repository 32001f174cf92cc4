theorem dX7_init_0 : decode cX7_init 0 = .ok (.aload_n 0, 1) := by decide +kernel
theorem dX7_init_1 : decode cX7_init 1 = .ok (.invokespecial 1, 3) := by decide +kernel
theorem dX7_init_4 : decode cX7_init 4 = .ok (.aload_n 0, 1) := by decide +kernel
theorem dX7_init_5 : decode cX7_init 5 = .ok (.bipush 6, 2) := by decide +kernel
theorem dX7_init_7 : decode cX7_init 7 = .ok (.newarray .int, 2) := by decide +kernel
theorem dX7_init_9 : decode cX7_init 9 = .ok (.putfield 7, 3) := by decide +kernel
theorem dX7_init_12 : decode cX7_init 12 = .ok (.aload_n 0, 1) := by decide +kernel
theorem dX7_init_13 : decode cX7_init 13 = .ok (.iconst 5, 1) := by decide +kernel
theorem dX7_init_14 : decode cX7_init 14 = .ok (.newarray .int, 2) := by decide +kernel
theorem dX7_init_16 : decode cX7_init 16 = .ok (.putfield 13, 3) := by decide +kernel
theorem dX7_init_19 : decode cX7_init 19 = .ok (.aload_n 0, 1) := by decide +kernel
theorem dX7_init_20 : decode cX7_init 20 = .ok (.iconst 5, 1) := by decide +kernel
theorem dX7_init_21 : decode cX7_init 21 = .ok (.newarray .int, 2) := by decide +kernel
theorem dX7_init_23 : decode cX7_init 23 = .ok (.putfield 16, 3) := by decide +kernel
theorem dX7_init_26 : decode cX7_init 26 = .ok (.aload_n 0, 1) := by decide +kernel
theorem dX7_init_27 : decode cX7_init 27 = .ok (.iconst 5, 1) := by decide +kernel
theorem dX7_init_28 : decode cX7_init 28 = .ok (.newarray .int, 2) := by decide +kernel
theorem dX7_init_30 : decode cX7_init 30 = .ok (.putfield 19, 3) := by decide +kernel
theorem dX7_init_33 : decode cX7_init 33 = .ok (.aload_n 0, 1) := by decide +kernel
theorem dX7_init_34 : decode cX7_init 34 = .ok (.bipush 15, 2) := by decide +kernel
theorem dX7_init_36 : decode cX7_init 36 = .ok (.newarray .int, 2) := by decide +kernel
theorem dX7_init_38 : decode cX7_init 38 = .ok (.putfield 22, 3) := by decide +kernel
theorem dX7_init_41 : decode cX7_init 41 = .ok (.aload_n 0, 1) := by decide +kernel
theorem dX7_init_42 : decode cX7_init 42 = .ok (.iconst 3, 1) := by decide +kernel
theorem dX7_init_43 : decode cX7_init 43 = .ok (.newarray .int, 2) := by decide +kernel
theorem dX7_init_45 : decode cX7_init 45 = .ok (.dup, 1) := by decide +kernel
theorem dX7_init_46 : decode cX7_init 46 = .ok (.iconst 0, 1) := by decide +kernel
theorem dX7_init_47 : decode cX7_init 47 = .ok (.iconst (-1), 1) := by decide +kernel
theorem dX7_init_48 : decode cX7_init 48 = .ok (.iastore, 1) := by decide +kernel
theorem dX7_init_49 : decode cX7_init 49 = .ok (.dup, 1) := by decide +kernel
theorem dX7_init_50 : decode cX7_init 50 = .ok (.iconst 1, 1) := by decide +kernel
theorem dX7_init_51 : decode cX7_init 51 = .ok (.iconst (-1), 1) := by decide +kernel
theorem dX7_init_52 : decode cX7_init 52 = .ok (.iastore, 1) := by decide +kernel
theorem dX7_init_53 : decode cX7_init 53 = .ok (.dup, 1) := by decide +kernel
theorem dX7_init_54 : decode cX7_init 54 = .ok (.iconst 2, 1) := by decide +kernel
theorem dX7_init_55 : decode cX7_init 55 = .ok (.iconst (-1), 1) := by decide +kernel
theorem dX7_init_56 : decode cX7_init 56 = .ok (.iastore, 1) := by decide +kernel
theorem dX7_init_57 : decode cX7_init 57 = .ok (.putfield 25, 3) := by decide +kernel
theorem dX7_init_60 : decode cX7_init 60 = .ok (.aload_n 0, 1) := by decide +kernel
theorem dX7_init_61 : decode cX7_init 61 = .ok (.bipush 15, 2) := by decide +kernel
theorem dX7_init_63 : decode cX7_init 63 = .ok (.newarray .int, 2) := by decide +kernel
theorem dX7_init_65 : decode cX7_init 65 = .ok (.putfield 28, 3) := by decide +kernel
theorem dX7_init_68 : decode cX7_init 68 = .ok (.aload_n 0, 1) := by decide +kernel
theorem dX7_init_69 : decode cX7_init 69 = .ok (.bipush 15, 2) := by decide +kernel
theorem dX7_init_71 : decode cX7_init 71 = .ok (.newarray .int, 2) := by decide +kernel
theorem dX7_init_73 : decode cX7_init 73 = .ok (.putfield 31, 3) := by decide +kernel
theorem dX7_init_76 : decode cX7_init 76 = .ok (.aload_n 0, 1) := by decide +kernel
theorem dX7_init_77 : decode cX7_init 77 = .ok (.bipush 15, 2) := by decide +kernel
theorem dX7_init_79 : decode cX7_init 79 = .ok (.newarray .int, 2) := by decide +kernel
theorem dX7_init_81 : decode cX7_init 81 = .ok (.putfield 34, 3) := by decide +kernel
theorem dX7_init_84 : decode cX7_init 84 = .ok (.aload_n 0, 1) := by decide +kernel
theorem dX7_init_85 : decode cX7_init 85 = .ok (.bipush 45, 2) := by decide +kernel
theorem dX7_init_87 : decode cX7_init 87 = .ok (.newarray .int, 2) := by decide +kernel
theorem dX7_init_89 : decode cX7_init 89 = .ok (.putfield 37, 3) := by decide +kernel
theorem dX7_init_92 : decode cX7_init 92 = .ok (.aload_n 0, 1) := by decide +kernel
theorem dX7_init_93 : decode cX7_init 93 = .ok (.bipush 45, 2) := by decide +kernel
theorem dX7_init_95 : decode cX7_init 95 = .ok (.newarray .int, 2) := by decide +kernel
theorem dX7_init_97 : decode cX7_init 97 = .ok (.putfield 40, 3) := by decide +kernel
theorem dX7_init_100 : decode cX7_init 100 = .ok (.aload_n 0, 1) := by decide +kernel
theorem dX7_init_101 : decode cX7_init 101 = .ok (.iconst 5, 1) := by decide +kernel
theorem dX7_init_102 : decode cX7_init 102 = .ok (.newarray .int, 2) := by decide +kernel
theorem dX7_init_104 : decode cX7_init 104 = .ok (.putfield 43, 3) := by decide +kernel
theorem dX7_init_107 : decode cX7_init 107 = .ok (.aload_n 0, 1) := by decide +kernel
theorem dX7_init_108 : decode cX7_init 108 = .ok (.iconst 5, 1) := by decide +kernel
theorem dX7_init_109 : decode cX7_init 109 = .ok (.newarray .boolean, 2) := by decide +kernel
theorem dX7_init_111 : decode cX7_init 111 = .ok (.putfield 46, 3) := by decide +kernel
theorem dX7_init_114 : decode cX7_init 114 = .ok (.aload_n 0, 1) := by decide +kernel
theorem dX7_init_115 : decode cX7_init 115 = .ok (.iconst 5, 1) := by decide +kernel
theorem dX7_init_116 : decode cX7_init 116 = .ok (.newarray .int, 2) := by decide +kernel
theorem dX7_init_118 : decode cX7_init 118 = .ok (.putfield 50, 3) := by decide +kernel
theorem dX7_init_121 : decode cX7_init 121 = .ok (.aload_n 0, 1) := by decide +kernel
theorem dX7_init_122 : decode cX7_init 122 = .ok (.iconst 5, 1) := by decide +kernel
theorem dX7_init_123 : decode cX7_init 123 = .ok (.newarray .boolean, 2) := by decide +kernel
theorem dX7_init_125 : decode cX7_init 125 = .ok (.putfield 53, 3) := by decide +kernel
theorem dX7_init_128 : decode cX7_init 128 = .ok (.aload_n 0, 1) := by decide +kernel
theorem dX7_init_129 : decode cX7_init 129 = .ok (.iconst 5, 1) := by decide +kernel
theorem dX7_init_130 : decode cX7_init 130 = .ok (.newarray .int, 2) := by decide +kernel
theorem dX7_init_132 : decode cX7_init 132 = .ok (.putfield 56, 3) := by decide +kernel
theorem dX7_init_135 : decode cX7_init 135 = .ok (.aload_n 0, 1) := by decide +kernel
theorem dX7_init_136 : decode cX7_init 136 = .ok (.iconst 5, 1) := by decide +kernel
theorem dX7_init_137 : decode cX7_init 137 = .ok (.newarray .int, 2) := by decide +kernel
theorem dX7_init_139 : decode cX7_init 139 = .ok (.putfield 59, 3) := by decide +kernel
theorem dX7_init_142 : decode cX7_init 142 = .ok (.aload_n 0, 1) := by decide +kernel
theorem dX7_init_143 : decode cX7_init 143 = .ok (.iconst 5, 1) := by decide +kernel
theorem dX7_init_144 : decode cX7_init 144 = .ok (.newarray .int, 2) := by decide +kernel
theorem dX7_init_146 : decode cX7_init 146 = .ok (.putfield 62, 3) := by decide +kernel
theorem dX7_init_149 : decode cX7_init 149 = .ok (.aload_n 0, 1) := by decide +kernel
theorem dX7_init_150 : decode cX7_init 150 = .ok (.iconst 5, 1) := by decide +kernel
theorem dX7_init_151 : decode cX7_init 151 = .ok (.newarray .int, 2) := by decide +kernel
theorem dX7_init_153 : decode cX7_init 153 = .ok (.putfield 65, 3) := by decide +kernel
theorem dX7_init_156 : decode cX7_init 156 = .ok (.aload_n 0, 1) := by decide +kernel
theorem dX7_init_157 : decode cX7_init 157 = .ok (.bipush 64, 2) := by decide +kernel
theorem dX7_init_159 : decode cX7_init 159 = .ok (.newarray .int, 2) := by decide +kernel
theorem dX7_init_161 : decode cX7_init 161 = .ok (.putfield 68, 3) := by decide +kernel
theorem dX7_init_164 : decode cX7_init 164 = .ok (.aload_n 0, 1) := by decide +kernel
theorem dX7_init_165 : decode cX7_init 165 = .ok (.bipush 64, 2) := by decide +kernel
theorem dX7_init_167 : decode cX7_init 167 = .ok (.newarray .int, 2) := by decide +kernel
theorem dX7_init_169 : decode cX7_init 169 = .ok (.putfield 71, 3) := by decide +kernel
theorem dX7_init_172 : decode cX7_init 172 = .ok (.aload_n 0, 1) := by decide +kernel
theorem dX7_init_173 : decode cX7_init 173 = .ok (.bipush 6, 2) := by decide +kernel
theorem dX7_init_175 : decode cX7_init 175 = .ok (.newarray .boolean, 2) := by decide +kernel
theorem dX7_init_177 : decode cX7_init 177 = .ok (.putfield 74, 3) := by decide +kernel
theorem dX7_init_180 : decode cX7_init 180 = .ok (.aload_n 0, 1) := by decide +kernel
theorem dX7_init_181 : decode cX7_init 181 = .ok (.bipush 6, 2) := by decide +kernel
theorem dX7_init_183 : decode cX7_init 183 = .ok (.newarray .int, 2) := by decide +kernel
theorem dX7_init_185 : decode cX7_init 185 = .ok (.putfield 77, 3) := by decide +kernel
theorem dX7_init_188 : decode cX7_init 188 = .ok (.aload_n 0, 1) := by decide +kernel
theorem dX7_init_189 : decode cX7_init 189 = .ok (.bipush 24, 2) := by decide +kernel
theorem dX7_init_191 : decode cX7_init 191 = .ok (.newarray .int, 2) := by decide +kernel
theorem dX7_init_193 : decode cX7_init 193 = .ok (.putfield 80, 3) := by decide +kernel
theorem dX7_init_196 : decode cX7_init 196 = .ok (.aload_n 0, 1) := by decide +kernel
theorem dX7_init_197 : decode cX7_init 197 = .ok (.bipush 6, 2) := by decide +kernel
theorem dX7_init_199 : decode cX7_init 199 = .ok (.newarray .int, 2) := by decide +kernel
theorem dX7_init_201 : decode cX7_init 201 = .ok (.putfield 83, 3) := by decide +kernel
theorem dX7_init_204 : decode cX7_init 204 = .ok (.aload_n 0, 1) := by decide +kernel
theorem dX7_init_205 : decode cX7_init 205 = .ok (.bipush 6, 2) := by decide +kernel
theorem dX7_init_207 : decode cX7_init 207 = .ok (.newarray .int, 2) := by decide +kernel
theorem dX7_init_209 : decode cX7_init 209 = .ok (.putfield 86, 3) := by decide +kernel
theorem dX7_init_212 : decode cX7_init 212 = .ok (.return_, 1) := by decide +kernel
theorem dX7_thrown_0 : decode cX7_thrown 0 = .ok (.aload_n 0, 1) := by decide +kernel
theorem dX7_thrown_1 : decode cX7_thrown 1 = .ok (.getfield 89, 3) := by decide +kernel
theorem dX7_thrown_4 : decode cX7_thrown 4 = .ok (.ireturn, 1) := by decide +kernel
theorem dX7_isLink_0 : decode cX7_isLink 0 = .ok (.iload_n 0, 1) := by decide +kernel
theorem dX7_isLink_1 : decode cX7_isLink 1 = .ok (.ifCond .lt 13, 3) := by decide +kernel
theorem dX7_isLink_4 : decode cX7_isLink 4 = .ok (.iload_n 0, 1) := by decide +kernel
theorem dX7_isLink_5 : decode cX7_isLink 5 = .ok (.bipush 6, 2) := by decide +kernel
theorem dX7_isLink_7 : decode cX7_isLink 7 = .ok (.if_icmp .ge 7, 3) := by decide +kernel
theorem dX7_isLink_10 : decode cX7_isLink 10 = .ok (.iconst 1, 1) := by decide +kernel
theorem dX7_isLink_11 : decode cX7_isLink 11 = .ok (.goto 4, 3) := by decide +kernel
theorem dX7_isLink_14 : decode cX7_isLink 14 = .ok (.iconst 0, 1) := by decide +kernel
theorem dX7_isLink_15 : decode cX7_isLink 15 = .ok (.ireturn, 1) := by decide +kernel
theorem dX7_delay_0 : decode cX7_delay 0 = .ok (.aload_n 0, 1) := by decide +kernel
theorem dX7_delay_1 : decode cX7_delay 1 = .ok (.iload_n 1, 1) := by decide +kernel
theorem dX7_delay_2 : decode cX7_delay 2 = .ok (.invokestatic 93, 3) := by decide +kernel
theorem dX7_delay_5 : decode cX7_delay 5 = .ok (.ifCond .ne 7, 3) := by decide +kernel
theorem dX7_delay_8 : decode cX7_delay 8 = .ok (.iconst 1, 1) := by decide +kernel
theorem dX7_delay_9 : decode cX7_delay 9 = .ok (.goto 18, 3) := by decide +kernel
theorem dX7_delay_12 : decode cX7_delay 12 = .ok (.iload_n 2, 1) := by decide +kernel
theorem dX7_delay_13 : decode cX7_delay 13 = .ok (.ifCond .lt 9, 3) := by decide +kernel
theorem dX7_delay_16 : decode cX7_delay 16 = .ok (.iload_n 2, 1) := by decide +kernel
theorem dX7_delay_17 : decode cX7_delay 17 = .ok (.bipush 9, 2) := by decide +kernel
theorem dX7_delay_19 : decode cX7_delay 19 = .ok (.if_icmp .le 7, 3) := by decide +kernel
theorem dX7_delay_22 : decode cX7_delay 22 = .ok (.iconst 2, 1) := by decide +kernel
theorem dX7_delay_23 : decode cX7_delay 23 = .ok (.goto 4, 3) := by decide +kernel
theorem dX7_delay_26 : decode cX7_delay 26 = .ok (.iconst 0, 1) := by decide +kernel
theorem dX7_delay_27 : decode cX7_delay 27 = .ok (.putfield 89, 3) := by decide +kernel
theorem dX7_delay_30 : decode cX7_delay 30 = .ok (.aload_n 0, 1) := by decide +kernel
theorem dX7_delay_31 : decode cX7_delay 31 = .ok (.getfield 89, 3) := by decide +kernel
theorem dX7_delay_34 : decode cX7_delay 34 = .ok (.ifCond .ne 10, 3) := by decide +kernel
theorem dX7_delay_37 : decode cX7_delay 37 = .ok (.aload_n 0, 1) := by decide +kernel
theorem dX7_delay_38 : decode cX7_delay 38 = .ok (.getfield 7, 3) := by decide +kernel
theorem dX7_delay_41 : decode cX7_delay 41 = .ok (.iload_n 1, 1) := by decide +kernel
theorem dX7_delay_42 : decode cX7_delay 42 = .ok (.iload_n 2, 1) := by decide +kernel
theorem dX7_delay_43 : decode cX7_delay 43 = .ok (.iastore, 1) := by decide +kernel
theorem dX7_delay_44 : decode cX7_delay 44 = .ok (.return_, 1) := by decide +kernel
theorem dX7_stream_0 : decode cX7_stream 0 = .ok (.iload 4, 2) := by decide +kernel
theorem dX7_stream_2 : decode cX7_stream 2 = .ok (.invokestatic 93, 3) := by decide +kernel
theorem dX7_stream_5 : decode cX7_stream 5 = .ok (.ifCond .eq 35, 3) := by decide +kernel
theorem dX7_stream_8 : decode cX7_stream 8 = .ok (.iload 5, 2) := by decide +kernel
theorem dX7_stream_10 : decode cX7_stream 10 = .ok (.iconst (-1), 1) := by decide +kernel
theorem dX7_stream_11 : decode cX7_stream 11 = .ok (.if_icmp .eq 11, 3) := by decide +kernel
theorem dX7_stream_14 : decode cX7_stream 14 = .ok (.iload 5, 2) := by decide +kernel
theorem dX7_stream_16 : decode cX7_stream 16 = .ok (.invokestatic 93, 3) := by decide +kernel
theorem dX7_stream_19 : decode cX7_stream 19 = .ok (.ifCond .eq 21, 3) := by decide +kernel
theorem dX7_stream_22 : decode cX7_stream 22 = .ok (.iload 6, 2) := by decide +kernel
theorem dX7_stream_24 : decode cX7_stream 24 = .ok (.iconst (-1), 1) := by decide +kernel
theorem dX7_stream_25 : decode cX7_stream 25 = .ok (.if_icmp .eq 11, 3) := by decide +kernel
theorem dX7_stream_28 : decode cX7_stream 28 = .ok (.iload 6, 2) := by decide +kernel
theorem dX7_stream_30 : decode cX7_stream 30 = .ok (.invokestatic 93, 3) := by decide +kernel
theorem dX7_stream_33 : decode cX7_stream 33 = .ok (.ifCond .eq 7, 3) := by decide +kernel
theorem dX7_stream_36 : decode cX7_stream 36 = .ok (.iconst 1, 1) := by decide +kernel
theorem dX7_stream_37 : decode cX7_stream 37 = .ok (.goto 4, 3) := by decide +kernel
theorem dX7_stream_40 : decode cX7_stream 40 = .ok (.iconst 0, 1) := by decide +kernel
theorem dX7_stream_41 : decode cX7_stream 41 = .ok (.istore 7, 2) := by decide +kernel
theorem dX7_stream_43 : decode cX7_stream 43 = .ok (.iload 4, 2) := by decide +kernel
theorem dX7_stream_45 : decode cX7_stream 45 = .ok (.iload 5, 2) := by decide +kernel
theorem dX7_stream_47 : decode cX7_stream 47 = .ok (.if_icmp .eq 27, 3) := by decide +kernel
theorem dX7_stream_50 : decode cX7_stream 50 = .ok (.iload 4, 2) := by decide +kernel
theorem dX7_stream_52 : decode cX7_stream 52 = .ok (.iload 6, 2) := by decide +kernel
theorem dX7_stream_54 : decode cX7_stream 54 = .ok (.if_icmp .eq 20, 3) := by decide +kernel
theorem dX7_stream_57 : decode cX7_stream 57 = .ok (.iload 5, 2) := by decide +kernel
theorem dX7_stream_59 : decode cX7_stream 59 = .ok (.iload 6, 2) := by decide +kernel
theorem dX7_stream_61 : decode cX7_stream 61 = .ok (.if_icmp .ne 9, 3) := by decide +kernel
theorem dX7_stream_64 : decode cX7_stream 64 = .ok (.iload 5, 2) := by decide +kernel
theorem dX7_stream_66 : decode cX7_stream 66 = .ok (.iconst (-1), 1) := by decide +kernel
theorem dX7_stream_67 : decode cX7_stream 67 = .ok (.if_icmp .ne 7, 3) := by decide +kernel
theorem dX7_stream_70 : decode cX7_stream 70 = .ok (.iconst 1, 1) := by decide +kernel
theorem dX7_stream_71 : decode cX7_stream 71 = .ok (.goto 4, 3) := by decide +kernel
theorem dX7_stream_74 : decode cX7_stream 74 = .ok (.iconst 0, 1) := by decide +kernel
theorem dX7_stream_75 : decode cX7_stream 75 = .ok (.istore 8, 2) := by decide +kernel
theorem dX7_stream_77 : decode cX7_stream 77 = .ok (.iload 8, 2) := by decide +kernel
theorem dX7_stream_79 : decode cX7_stream 79 = .ok (.ifCond .eq 56, 3) := by decide +kernel
theorem dX7_stream_82 : decode cX7_stream 82 = .ok (.iload 5, 2) := by decide +kernel
theorem dX7_stream_84 : decode cX7_stream 84 = .ok (.iconst (-1), 1) := by decide +kernel
theorem dX7_stream_85 : decode cX7_stream 85 = .ok (.if_icmp .ne 9, 3) := by decide +kernel
theorem dX7_stream_88 : decode cX7_stream 88 = .ok (.iload 6, 2) := by decide +kernel
theorem dX7_stream_90 : decode cX7_stream 90 = .ok (.iconst (-1), 1) := by decide +kernel
theorem dX7_stream_91 : decode cX7_stream 91 = .ok (.if_icmp .ne 44, 3) := by decide +kernel
theorem dX7_stream_94 : decode cX7_stream 94 = .ok (.iload_n 1, 1) := by decide +kernel
theorem dX7_stream_95 : decode cX7_stream 95 = .ok (.bipush 8, 2) := by decide +kernel
theorem dX7_stream_97 : decode cX7_stream 97 = .ok (.if_icmp .eq 15, 3) := by decide +kernel
theorem dX7_stream_100 : decode cX7_stream 100 = .ok (.iload_n 1, 1) := by decide +kernel
theorem dX7_stream_101 : decode cX7_stream 101 = .ok (.bipush 16, 2) := by decide +kernel
theorem dX7_stream_103 : decode cX7_stream 103 = .ok (.if_icmp .eq 9, 3) := by decide +kernel
theorem dX7_stream_106 : decode cX7_stream 106 = .ok (.iload_n 1, 1) := by decide +kernel
theorem dX7_stream_107 : decode cX7_stream 107 = .ok (.bipush 32, 2) := by decide +kernel
theorem dX7_stream_109 : decode cX7_stream 109 = .ok (.if_icmp .ne 26, 3) := by decide +kernel
theorem dX7_stream_112 : decode cX7_stream 112 = .ok (.iload_n 2, 1) := by decide +kernel
theorem dX7_stream_113 : decode cX7_stream 113 = .ok (.ifCond .le 22, 3) := by decide +kernel
theorem dX7_stream_116 : decode cX7_stream 116 = .ok (.iload_n 2, 1) := by decide +kernel
theorem dX7_stream_117 : decode cX7_stream 117 = .ok (.iconst 5, 1) := by decide +kernel
theorem dX7_stream_118 : decode cX7_stream 118 = .ok (.if_icmp .ge 17, 3) := by decide +kernel
theorem dX7_stream_121 : decode cX7_stream 121 = .ok (.iload_n 3, 1) := by decide +kernel
theorem dX7_stream_122 : decode cX7_stream 122 = .ok (.ifCond .le 13, 3) := by decide +kernel
theorem dX7_stream_125 : decode cX7_stream 125 = .ok (.iload_n 3, 1) := by decide +kernel
theorem dX7_stream_126 : decode cX7_stream 126 = .ok (.bipush 61, 2) := by decide +kernel
theorem dX7_stream_128 : decode cX7_stream 128 = .ok (.if_icmp .ge 7, 3) := by decide +kernel
theorem dX7_stream_131 : decode cX7_stream 131 = .ok (.iconst 1, 1) := by decide +kernel
theorem dX7_stream_132 : decode cX7_stream 132 = .ok (.goto 4, 3) := by decide +kernel
theorem dX7_stream_135 : decode cX7_stream 135 = .ok (.iconst 0, 1) := by decide +kernel
theorem dX7_stream_136 : decode cX7_stream 136 = .ok (.istore 9, 2) := by decide +kernel
theorem dX7_stream_138 : decode cX7_stream 138 = .ok (.aload_n 0, 1) := by decide +kernel
theorem dX7_stream_139 : decode cX7_stream 139 = .ok (.iload 7, 2) := by decide +kernel
theorem dX7_stream_141 : decode cX7_stream 141 = .ok (.ifCond .ne 7, 3) := by decide +kernel
theorem dX7_stream_144 : decode cX7_stream 144 = .ok (.iconst 1, 1) := by decide +kernel
theorem dX7_stream_145 : decode cX7_stream 145 = .ok (.goto 25, 3) := by decide +kernel
theorem dX7_stream_148 : decode cX7_stream 148 = .ok (.iload 9, 2) := by decide +kernel
theorem dX7_stream_150 : decode cX7_stream 150 = .ok (.ifCond .ne 7, 3) := by decide +kernel
theorem dX7_stream_153 : decode cX7_stream 153 = .ok (.iconst 2, 1) := by decide +kernel
theorem dX7_stream_154 : decode cX7_stream 154 = .ok (.goto 16, 3) := by decide +kernel
theorem dX7_stream_157 : decode cX7_stream 157 = .ok (.aload_n 0, 1) := by decide +kernel
theorem dX7_stream_158 : decode cX7_stream 158 = .ok (.getfield 97, 3) := by decide +kernel
theorem dX7_stream_161 : decode cX7_stream 161 = .ok (.iconst 5, 1) := by decide +kernel
theorem dX7_stream_162 : decode cX7_stream 162 = .ok (.if_icmp .ne 7, 3) := by decide +kernel
theorem dX7_stream_165 : decode cX7_stream 165 = .ok (.iconst 3, 1) := by decide +kernel
theorem dX7_stream_166 : decode cX7_stream 166 = .ok (.goto 4, 3) := by decide +kernel
theorem dX7_stream_169 : decode cX7_stream 169 = .ok (.iconst 0, 1) := by decide +kernel
theorem dX7_stream_170 : decode cX7_stream 170 = .ok (.putfield 89, 3) := by decide +kernel
theorem dX7_stream_173 : decode cX7_stream 173 = .ok (.aload_n 0, 1) := by decide +kernel
theorem dX7_stream_174 : decode cX7_stream 174 = .ok (.getfield 89, 3) := by decide +kernel
theorem dX7_stream_177 : decode cX7_stream 177 = .ok (.ifCond .le 5, 3) := by decide +kernel
theorem dX7_stream_180 : decode cX7_stream 180 = .ok (.iconst 0, 1) := by decide +kernel
theorem dX7_stream_181 : decode cX7_stream 181 = .ok (.ireturn, 1) := by decide +kernel
theorem dX7_stream_182 : decode cX7_stream 182 = .ok (.aload_n 0, 1) := by decide +kernel
theorem dX7_stream_183 : decode cX7_stream 183 = .ok (.getfield 13, 3) := by decide +kernel
theorem dX7_stream_186 : decode cX7_stream 186 = .ok (.aload_n 0, 1) := by decide +kernel
theorem dX7_stream_187 : decode cX7_stream 187 = .ok (.getfield 97, 3) := by decide +kernel
theorem dX7_stream_190 : decode cX7_stream 190 = .ok (.iload_n 1, 1) := by decide +kernel
theorem dX7_stream_191 : decode cX7_stream 191 = .ok (.iastore, 1) := by decide +kernel
theorem dX7_stream_192 : decode cX7_stream 192 = .ok (.aload_n 0, 1) := by decide +kernel
theorem dX7_stream_193 : decode cX7_stream 193 = .ok (.getfield 16, 3) := by decide +kernel
theorem dX7_stream_196 : decode cX7_stream 196 = .ok (.aload_n 0, 1) := by decide +kernel
theorem dX7_stream_197 : decode cX7_stream 197 = .ok (.getfield 97, 3) := by decide +kernel
theorem dX7_stream_200 : decode cX7_stream 200 = .ok (.iload_n 2, 1) := by decide +kernel
theorem dX7_stream_201 : decode cX7_stream 201 = .ok (.iastore, 1) := by decide +kernel
theorem dX7_stream_202 : decode cX7_stream 202 = .ok (.aload_n 0, 1) := by decide +kernel
theorem dX7_stream_203 : decode cX7_stream 203 = .ok (.getfield 19, 3) := by decide +kernel
theorem dX7_stream_206 : decode cX7_stream 206 = .ok (.aload_n 0, 1) := by decide +kernel
theorem dX7_stream_207 : decode cX7_stream 207 = .ok (.getfield 97, 3) := by decide +kernel
theorem dX7_stream_210 : decode cX7_stream 210 = .ok (.iload_n 3, 1) := by decide +kernel
theorem dX7_stream_211 : decode cX7_stream 211 = .ok (.iastore, 1) := by decide +kernel
theorem dX7_stream_212 : decode cX7_stream 212 = .ok (.aload_n 0, 1) := by decide +kernel
theorem dX7_stream_213 : decode cX7_stream 213 = .ok (.getfield 22, 3) := by decide +kernel
theorem dX7_stream_216 : decode cX7_stream 216 = .ok (.iconst 3, 1) := by decide +kernel
theorem dX7_stream_217 : decode cX7_stream 217 = .ok (.aload_n 0, 1) := by decide +kernel
theorem dX7_stream_218 : decode cX7_stream 218 = .ok (.getfield 97, 3) := by decide +kernel
theorem dX7_stream_221 : decode cX7_stream 221 = .ok (.imul, 1) := by decide +kernel
theorem dX7_stream_222 : decode cX7_stream 222 = .ok (.iload 4, 2) := by decide +kernel
theorem dX7_stream_224 : decode cX7_stream 224 = .ok (.iastore, 1) := by decide +kernel
theorem dX7_stream_225 : decode cX7_stream 225 = .ok (.aload_n 0, 1) := by decide +kernel
theorem dX7_stream_226 : decode cX7_stream 226 = .ok (.getfield 22, 3) := by decide +kernel
theorem dX7_stream_229 : decode cX7_stream 229 = .ok (.iconst 3, 1) := by decide +kernel
theorem dX7_stream_230 : decode cX7_stream 230 = .ok (.aload_n 0, 1) := by decide +kernel
theorem dX7_stream_231 : decode cX7_stream 231 = .ok (.getfield 97, 3) := by decide +kernel
theorem dX7_stream_234 : decode cX7_stream 234 = .ok (.imul, 1) := by decide +kernel
theorem dX7_stream_235 : decode cX7_stream 235 = .ok (.iconst 1, 1) := by decide +kernel
theorem dX7_stream_236 : decode cX7_stream 236 = .ok (.iadd, 1) := by decide +kernel
theorem dX7_stream_237 : decode cX7_stream 237 = .ok (.iload 5, 2) := by decide +kernel
theorem dX7_stream_239 : decode cX7_stream 239 = .ok (.iastore, 1) := by decide +kernel
theorem dX7_stream_240 : decode cX7_stream 240 = .ok (.aload_n 0, 1) := by decide +kernel
theorem dX7_stream_241 : decode cX7_stream 241 = .ok (.getfield 22, 3) := by decide +kernel
theorem dX7_stream_244 : decode cX7_stream 244 = .ok (.iconst 3, 1) := by decide +kernel
theorem dX7_stream_245 : decode cX7_stream 245 = .ok (.aload_n 0, 1) := by decide +kernel
theorem dX7_stream_246 : decode cX7_stream 246 = .ok (.getfield 97, 3) := by decide +kernel
theorem dX7_stream_249 : decode cX7_stream 249 = .ok (.imul, 1) := by decide +kernel
theorem dX7_stream_250 : decode cX7_stream 250 = .ok (.iconst 2, 1) := by decide +kernel
theorem dX7_stream_251 : decode cX7_stream 251 = .ok (.iadd, 1) := by decide +kernel
theorem dX7_stream_252 : decode cX7_stream 252 = .ok (.iload 6, 2) := by decide +kernel
theorem dX7_stream_254 : decode cX7_stream 254 = .ok (.iastore, 1) := by decide +kernel
theorem dX7_stream_255 : decode cX7_stream 255 = .ok (.aload_n 0, 1) := by decide +kernel
theorem dX7_stream_256 : decode cX7_stream 256 = .ok (.dup, 1) := by decide +kernel
theorem dX7_stream_257 : decode cX7_stream 257 = .ok (.getfield 97, 3) := by decide +kernel
theorem dX7_stream_260 : decode cX7_stream 260 = .ok (.iconst 1, 1) := by decide +kernel
theorem dX7_stream_261 : decode cX7_stream 261 = .ok (.iadd, 1) := by decide +kernel
theorem dX7_stream_262 : decode cX7_stream 262 = .ok (.putfield 97, 3) := by decide +kernel
theorem dX7_stream_265 : decode cX7_stream 265 = .ok (.aload_n 0, 1) := by decide +kernel
theorem dX7_stream_266 : decode cX7_stream 266 = .ok (.getfield 97, 3) := by decide +kernel
theorem dX7_stream_269 : decode cX7_stream 269 = .ok (.iconst 1, 1) := by decide +kernel
theorem dX7_stream_270 : decode cX7_stream 270 = .ok (.isub, 1) := by decide +kernel
theorem dX7_stream_271 : decode cX7_stream 271 = .ok (.ireturn, 1) := by decide +kernel
theorem dX7_clear_0 : decode cX7_clear 0 = .ok (.aload_n 0, 1) := by decide +kernel
theorem dX7_clear_1 : decode cX7_clear 1 = .ok (.iconst 0, 1) := by decide +kernel
theorem dX7_clear_2 : decode cX7_clear 2 = .ok (.putfield 89, 3) := by decide +kernel
theorem dX7_clear_5 : decode cX7_clear 5 = .ok (.aload_n 0, 1) := by decide +kernel
theorem dX7_clear_6 : decode cX7_clear 6 = .ok (.iconst 0, 1) := by decide +kernel
theorem dX7_clear_7 : decode cX7_clear 7 = .ok (.putfield 97, 3) := by decide +kernel
theorem dX7_clear_10 : decode cX7_clear 10 = .ok (.return_, 1) := by decide +kernel
theorem dX7_begins_0 : decode cX7_begins 0 = .ok (.iconst 0, 1) := by decide +kernel
theorem dX7_begins_1 : decode cX7_begins 1 = .ok (.istore_n 3, 1) := by decide +kernel
theorem dX7_begins_2 : decode cX7_begins 2 = .ok (.iconst 0, 1) := by decide +kernel
theorem dX7_begins_3 : decode cX7_begins 3 = .ok (.istore 4, 2) := by decide +kernel
theorem dX7_begins_5 : decode cX7_begins 5 = .ok (.iload 4, 2) := by decide +kernel
theorem dX7_begins_7 : decode cX7_begins 7 = .ok (.iload_n 2, 1) := by decide +kernel
theorem dX7_begins_8 : decode cX7_begins 8 = .ok (.if_icmp .ge 37, 3) := by decide +kernel
theorem dX7_begins_11 : decode cX7_begins 11 = .ok (.iload_n 3, 1) := by decide +kernel
theorem dX7_begins_12 : decode cX7_begins 12 = .ok (.aload_n 0, 1) := by decide +kernel
theorem dX7_begins_13 : decode cX7_begins 13 = .ok (.getfield 16, 3) := by decide +kernel
theorem dX7_begins_16 : decode cX7_begins 16 = .ok (.iload_n 1, 1) := by decide +kernel
theorem dX7_begins_17 : decode cX7_begins 17 = .ok (.iaload, 1) := by decide +kernel
theorem dX7_begins_18 : decode cX7_begins 18 = .ok (.iadd, 1) := by decide +kernel
theorem dX7_begins_19 : decode cX7_begins 19 = .ok (.aload_n 0, 1) := by decide +kernel
theorem dX7_begins_20 : decode cX7_begins 20 = .ok (.getfield 7, 3) := by decide +kernel
theorem dX7_begins_23 : decode cX7_begins 23 = .ok (.aload_n 0, 1) := by decide +kernel
theorem dX7_begins_24 : decode cX7_begins 24 = .ok (.getfield 22, 3) := by decide +kernel
theorem dX7_begins_27 : decode cX7_begins 27 = .ok (.iconst 3, 1) := by decide +kernel
theorem dX7_begins_28 : decode cX7_begins 28 = .ok (.iload_n 1, 1) := by decide +kernel
theorem dX7_begins_29 : decode cX7_begins 29 = .ok (.imul, 1) := by decide +kernel
theorem dX7_begins_30 : decode cX7_begins 30 = .ok (.iload 4, 2) := by decide +kernel
theorem dX7_begins_32 : decode cX7_begins 32 = .ok (.iadd, 1) := by decide +kernel
theorem dX7_begins_33 : decode cX7_begins 33 = .ok (.iaload, 1) := by decide +kernel
theorem dX7_begins_34 : decode cX7_begins 34 = .ok (.iaload, 1) := by decide +kernel
theorem dX7_begins_35 : decode cX7_begins 35 = .ok (.iadd, 1) := by decide +kernel
theorem dX7_begins_36 : decode cX7_begins 36 = .ok (.iconst 2, 1) := by decide +kernel
theorem dX7_begins_37 : decode cX7_begins 37 = .ok (.iadd, 1) := by decide +kernel
theorem dX7_begins_38 : decode cX7_begins 38 = .ok (.istore_n 3, 1) := by decide +kernel
theorem dX7_begins_39 : decode cX7_begins 39 = .ok (.iinc 4 1, 3) := by decide +kernel
theorem dX7_begins_42 : decode cX7_begins 42 = .ok (.goto (-37), 3) := by decide +kernel
theorem dX7_begins_45 : decode cX7_begins 45 = .ok (.iload_n 3, 1) := by decide +kernel
theorem dX7_begins_46 : decode cX7_begins 46 = .ok (.ireturn, 1) := by decide +kernel
theorem dX7_isOnTime_0 : decode cX7_isOnTime 0 = .ok (.aload_n 0, 1) := by decide +kernel
theorem dX7_isOnTime_1 : decode cX7_isOnTime 1 = .ok (.getfield 22, 3) := by decide +kernel
theorem dX7_isOnTime_4 : decode cX7_isOnTime 4 = .ok (.iconst 3, 1) := by decide +kernel
theorem dX7_isOnTime_5 : decode cX7_isOnTime 5 = .ok (.iload_n 1, 1) := by decide +kernel
theorem dX7_isOnTime_6 : decode cX7_isOnTime 6 = .ok (.imul, 1) := by decide +kernel
theorem dX7_isOnTime_7 : decode cX7_isOnTime 7 = .ok (.iconst 2, 1) := by decide +kernel
theorem dX7_isOnTime_8 : decode cX7_isOnTime 8 = .ok (.iadd, 1) := by decide +kernel
theorem dX7_isOnTime_9 : decode cX7_isOnTime 9 = .ok (.iaload, 1) := by decide +kernel
theorem dX7_isOnTime_10 : decode cX7_isOnTime 10 = .ok (.ifCond .lt 7, 3) := by decide +kernel
theorem dX7_isOnTime_13 : decode cX7_isOnTime 13 = .ok (.iconst 2, 1) := by decide +kernel
theorem dX7_isOnTime_14 : decode cX7_isOnTime 14 = .ok (.goto 21, 3) := by decide +kernel
theorem dX7_isOnTime_17 : decode cX7_isOnTime 17 = .ok (.aload_n 0, 1) := by decide +kernel
theorem dX7_isOnTime_18 : decode cX7_isOnTime 18 = .ok (.getfield 22, 3) := by decide +kernel
theorem dX7_isOnTime_21 : decode cX7_isOnTime 21 = .ok (.iconst 3, 1) := by decide +kernel
theorem dX7_isOnTime_22 : decode cX7_isOnTime 22 = .ok (.iload_n 1, 1) := by decide +kernel
theorem dX7_isOnTime_23 : decode cX7_isOnTime 23 = .ok (.imul, 1) := by decide +kernel
theorem dX7_isOnTime_24 : decode cX7_isOnTime 24 = .ok (.iconst 1, 1) := by decide +kernel
theorem dX7_isOnTime_25 : decode cX7_isOnTime 25 = .ok (.iadd, 1) := by decide +kernel
theorem dX7_isOnTime_26 : decode cX7_isOnTime 26 = .ok (.iaload, 1) := by decide +kernel
theorem dX7_isOnTime_27 : decode cX7_isOnTime 27 = .ok (.ifCond .lt 7, 3) := by decide +kernel
theorem dX7_isOnTime_30 : decode cX7_isOnTime 30 = .ok (.iconst 1, 1) := by decide +kernel
theorem dX7_isOnTime_31 : decode cX7_isOnTime 31 = .ok (.goto 4, 3) := by decide +kernel
theorem dX7_isOnTime_34 : decode cX7_isOnTime 34 = .ok (.iconst 0, 1) := by decide +kernel
theorem dX7_isOnTime_35 : decode cX7_isOnTime 35 = .ok (.istore_n 2, 1) := by decide +kernel
theorem dX7_isOnTime_36 : decode cX7_isOnTime 36 = .ok (.aload_n 0, 1) := by decide +kernel
theorem dX7_isOnTime_37 : decode cX7_isOnTime 37 = .ok (.iload_n 1, 1) := by decide +kernel
theorem dX7_isOnTime_38 : decode cX7_isOnTime 38 = .ok (.iload_n 2, 1) := by decide +kernel
theorem dX7_isOnTime_39 : decode cX7_isOnTime 39 = .ok (.invokevirtual 100, 3) := by decide +kernel
theorem dX7_isOnTime_42 : decode cX7_isOnTime 42 = .ok (.aload_n 0, 1) := by decide +kernel
theorem dX7_isOnTime_43 : decode cX7_isOnTime 43 = .ok (.getfield 16, 3) := by decide +kernel
theorem dX7_isOnTime_46 : decode cX7_isOnTime 46 = .ok (.iload_n 1, 1) := by decide +kernel
theorem dX7_isOnTime_47 : decode cX7_isOnTime 47 = .ok (.iaload, 1) := by decide +kernel
theorem dX7_isOnTime_48 : decode cX7_isOnTime 48 = .ok (.iadd, 1) := by decide +kernel
theorem dX7_isOnTime_49 : decode cX7_isOnTime 49 = .ok (.aload_n 0, 1) := by decide +kernel
theorem dX7_isOnTime_50 : decode cX7_isOnTime 50 = .ok (.getfield 7, 3) := by decide +kernel
theorem dX7_isOnTime_53 : decode cX7_isOnTime 53 = .ok (.aload_n 0, 1) := by decide +kernel
theorem dX7_isOnTime_54 : decode cX7_isOnTime 54 = .ok (.getfield 22, 3) := by decide +kernel
theorem dX7_isOnTime_57 : decode cX7_isOnTime 57 = .ok (.iconst 3, 1) := by decide +kernel
theorem dX7_isOnTime_58 : decode cX7_isOnTime 58 = .ok (.iload_n 1, 1) := by decide +kernel
theorem dX7_isOnTime_59 : decode cX7_isOnTime 59 = .ok (.imul, 1) := by decide +kernel
theorem dX7_isOnTime_60 : decode cX7_isOnTime 60 = .ok (.iload_n 2, 1) := by decide +kernel
theorem dX7_isOnTime_61 : decode cX7_isOnTime 61 = .ok (.iadd, 1) := by decide +kernel
theorem dX7_isOnTime_62 : decode cX7_isOnTime 62 = .ok (.iaload, 1) := by decide +kernel
theorem dX7_isOnTime_63 : decode cX7_isOnTime 63 = .ok (.iaload, 1) := by decide +kernel
theorem dX7_isOnTime_64 : decode cX7_isOnTime 64 = .ok (.iadd, 1) := by decide +kernel
theorem dX7_isOnTime_65 : decode cX7_isOnTime 65 = .ok (.aload_n 0, 1) := by decide +kernel
theorem dX7_isOnTime_66 : decode cX7_isOnTime 66 = .ok (.getfield 19, 3) := by decide +kernel
theorem dX7_isOnTime_69 : decode cX7_isOnTime 69 = .ok (.iload_n 1, 1) := by decide +kernel
theorem dX7_isOnTime_70 : decode cX7_isOnTime 70 = .ok (.iaload, 1) := by decide +kernel
theorem dX7_isOnTime_71 : decode cX7_isOnTime 71 = .ok (.if_icmp .gt 7, 3) := by decide +kernel
theorem dX7_isOnTime_74 : decode cX7_isOnTime 74 = .ok (.iconst 1, 1) := by decide +kernel
theorem dX7_isOnTime_75 : decode cX7_isOnTime 75 = .ok (.goto 4, 3) := by decide +kernel
theorem dX7_isOnTime_78 : decode cX7_isOnTime 78 = .ok (.iconst 0, 1) := by decide +kernel
theorem dX7_isOnTime_79 : decode cX7_isOnTime 79 = .ok (.ireturn, 1) := by decide +kernel
theorem dX7_modulo_0 : decode cX7_modulo 0 = .ok (.iload_n 0, 1) := by decide +kernel
theorem dX7_modulo_1 : decode cX7_modulo 1 = .ok (.iload_n 1, 1) := by decide +kernel
theorem dX7_modulo_2 : decode cX7_modulo 2 = .ok (.irem, 1) := by decide +kernel
theorem dX7_modulo_3 : decode cX7_modulo 3 = .ok (.iload_n 1, 1) := by decide +kernel
theorem dX7_modulo_4 : decode cX7_modulo 4 = .ok (.iadd, 1) := by decide +kernel
theorem dX7_modulo_5 : decode cX7_modulo 5 = .ok (.iload_n 1, 1) := by decide +kernel
theorem dX7_modulo_6 : decode cX7_modulo 6 = .ok (.irem, 1) := by decide +kernel
theorem dX7_modulo_7 : decode cX7_modulo 7 = .ok (.ireturn, 1) := by decide +kernel
theorem dX7_meet_0 : decode cX7_meet 0 = .ok (.iload_n 2, 1) := by decide +kernel
theorem dX7_meet_1 : decode cX7_meet 1 = .ok (.iload 5, 2) := by decide +kernel
theorem dX7_meet_3 : decode cX7_meet 3 = .ok (.if_icmp .ge 7, 3) := by decide +kernel
theorem dX7_meet_6 : decode cX7_meet 6 = .ok (.iload_n 2, 1) := by decide +kernel
theorem dX7_meet_7 : decode cX7_meet 7 = .ok (.goto 5, 3) := by decide +kernel
theorem dX7_meet_10 : decode cX7_meet 10 = .ok (.iload 5, 2) := by decide +kernel
theorem dX7_meet_12 : decode cX7_meet 12 = .ok (.istore 6, 2) := by decide +kernel
theorem dX7_meet_14 : decode cX7_meet 14 = .ok (.iload_n 3, 1) := by decide +kernel
theorem dX7_meet_15 : decode cX7_meet 15 = .ok (.iload_n 0, 1) := by decide +kernel
theorem dX7_meet_16 : decode cX7_meet 16 = .ok (.isub, 1) := by decide +kernel
theorem dX7_meet_17 : decode cX7_meet 17 = .ok (.iload 6, 2) := by decide +kernel
theorem dX7_meet_19 : decode cX7_meet 19 = .ok (.invokestatic 104, 3) := by decide +kernel
theorem dX7_meet_22 : decode cX7_meet 22 = .ok (.istore 7, 2) := by decide +kernel
theorem dX7_meet_24 : decode cX7_meet 24 = .ok (.iload 7, 2) := by decide +kernel
theorem dX7_meet_26 : decode cX7_meet 26 = .ok (.iload_n 1, 1) := by decide +kernel
theorem dX7_meet_27 : decode cX7_meet 27 = .ok (.if_icmp .lt 16, 3) := by decide +kernel
theorem dX7_meet_30 : decode cX7_meet 30 = .ok (.iload_n 0, 1) := by decide +kernel
theorem dX7_meet_31 : decode cX7_meet 31 = .ok (.iload_n 3, 1) := by decide +kernel
theorem dX7_meet_32 : decode cX7_meet 32 = .ok (.isub, 1) := by decide +kernel
theorem dX7_meet_33 : decode cX7_meet 33 = .ok (.iload 6, 2) := by decide +kernel
theorem dX7_meet_35 : decode cX7_meet 35 = .ok (.invokestatic 104, 3) := by decide +kernel
theorem dX7_meet_38 : decode cX7_meet 38 = .ok (.iload 4, 2) := by decide +kernel
theorem dX7_meet_40 : decode cX7_meet 40 = .ok (.if_icmp .ge 7, 3) := by decide +kernel
theorem dX7_meet_43 : decode cX7_meet 43 = .ok (.iconst 1, 1) := by decide +kernel
theorem dX7_meet_44 : decode cX7_meet 44 = .ok (.goto 4, 3) := by decide +kernel
theorem dX7_meet_47 : decode cX7_meet 47 = .ok (.iconst 0, 1) := by decide +kernel
theorem dX7_meet_48 : decode cX7_meet 48 = .ok (.ireturn, 1) := by decide +kernel
theorem dX7_streamsMeet_0 : decode cX7_streamsMeet 0 = .ok (.iconst 0, 1) := by decide +kernel
theorem dX7_streamsMeet_1 : decode cX7_streamsMeet 1 = .ok (.istore_n 3, 1) := by decide +kernel
theorem dX7_streamsMeet_2 : decode cX7_streamsMeet 2 = .ok (.iconst 0, 1) := by decide +kernel
theorem dX7_streamsMeet_3 : decode cX7_streamsMeet 3 = .ok (.istore 4, 2) := by decide +kernel
theorem dX7_streamsMeet_5 : decode cX7_streamsMeet 5 = .ok (.iload 4, 2) := by decide +kernel
theorem dX7_streamsMeet_7 : decode cX7_streamsMeet 7 = .ok (.iconst 3, 1) := by decide +kernel
theorem dX7_streamsMeet_8 : decode cX7_streamsMeet 8 = .ok (.if_icmp .ge 130, 3) := by decide +kernel
theorem dX7_streamsMeet_11 : decode cX7_streamsMeet 11 = .ok (.iconst 0, 1) := by decide +kernel
theorem dX7_streamsMeet_12 : decode cX7_streamsMeet 12 = .ok (.istore 5, 2) := by decide +kernel
theorem dX7_streamsMeet_14 : decode cX7_streamsMeet 14 = .ok (.iload 5, 2) := by decide +kernel
theorem dX7_streamsMeet_16 : decode cX7_streamsMeet 16 = .ok (.iconst 3, 1) := by decide +kernel
theorem dX7_streamsMeet_17 : decode cX7_streamsMeet 17 = .ok (.if_icmp .ge 115, 3) := by decide +kernel
theorem dX7_streamsMeet_20 : decode cX7_streamsMeet 20 = .ok (.aload_n 0, 1) := by decide +kernel
theorem dX7_streamsMeet_21 : decode cX7_streamsMeet 21 = .ok (.getfield 22, 3) := by decide +kernel
theorem dX7_streamsMeet_24 : decode cX7_streamsMeet 24 = .ok (.iconst 3, 1) := by decide +kernel
theorem dX7_streamsMeet_25 : decode cX7_streamsMeet 25 = .ok (.iload_n 1, 1) := by decide +kernel
theorem dX7_streamsMeet_26 : decode cX7_streamsMeet 26 = .ok (.imul, 1) := by decide +kernel
theorem dX7_streamsMeet_27 : decode cX7_streamsMeet 27 = .ok (.iload 4, 2) := by decide +kernel
theorem dX7_streamsMeet_29 : decode cX7_streamsMeet 29 = .ok (.iadd, 1) := by decide +kernel
theorem dX7_streamsMeet_30 : decode cX7_streamsMeet 30 = .ok (.iaload, 1) := by decide +kernel
theorem dX7_streamsMeet_31 : decode cX7_streamsMeet 31 = .ok (.istore 6, 2) := by decide +kernel
theorem dX7_streamsMeet_33 : decode cX7_streamsMeet 33 = .ok (.iload 6, 2) := by decide +kernel
theorem dX7_streamsMeet_35 : decode cX7_streamsMeet 35 = .ok (.ifCond .lt 91, 3) := by decide +kernel
theorem dX7_streamsMeet_38 : decode cX7_streamsMeet 38 = .ok (.iload 6, 2) := by decide +kernel
theorem dX7_streamsMeet_40 : decode cX7_streamsMeet 40 = .ok (.aload_n 0, 1) := by decide +kernel
theorem dX7_streamsMeet_41 : decode cX7_streamsMeet 41 = .ok (.getfield 22, 3) := by decide +kernel
theorem dX7_streamsMeet_44 : decode cX7_streamsMeet 44 = .ok (.iconst 3, 1) := by decide +kernel
theorem dX7_streamsMeet_45 : decode cX7_streamsMeet 45 = .ok (.iload_n 2, 1) := by decide +kernel
theorem dX7_streamsMeet_46 : decode cX7_streamsMeet 46 = .ok (.imul, 1) := by decide +kernel
theorem dX7_streamsMeet_47 : decode cX7_streamsMeet 47 = .ok (.iload 5, 2) := by decide +kernel
theorem dX7_streamsMeet_49 : decode cX7_streamsMeet 49 = .ok (.iadd, 1) := by decide +kernel
theorem dX7_streamsMeet_50 : decode cX7_streamsMeet 50 = .ok (.iaload, 1) := by decide +kernel
theorem dX7_streamsMeet_51 : decode cX7_streamsMeet 51 = .ok (.if_icmp .ne 75, 3) := by decide +kernel
theorem dX7_streamsMeet_54 : decode cX7_streamsMeet 54 = .ok (.iload_n 3, 1) := by decide +kernel
theorem dX7_streamsMeet_55 : decode cX7_streamsMeet 55 = .ok (.ifCond .ne 65, 3) := by decide +kernel
theorem dX7_streamsMeet_58 : decode cX7_streamsMeet 58 = .ok (.aload_n 0, 1) := by decide +kernel
theorem dX7_streamsMeet_59 : decode cX7_streamsMeet 59 = .ok (.getfield 43, 3) := by decide +kernel
theorem dX7_streamsMeet_62 : decode cX7_streamsMeet 62 = .ok (.iload_n 1, 1) := by decide +kernel
theorem dX7_streamsMeet_63 : decode cX7_streamsMeet 63 = .ok (.iaload, 1) := by decide +kernel
theorem dX7_streamsMeet_64 : decode cX7_streamsMeet 64 = .ok (.aload_n 0, 1) := by decide +kernel
theorem dX7_streamsMeet_65 : decode cX7_streamsMeet 65 = .ok (.iload_n 1, 1) := by decide +kernel
theorem dX7_streamsMeet_66 : decode cX7_streamsMeet 66 = .ok (.iload 4, 2) := by decide +kernel
theorem dX7_streamsMeet_68 : decode cX7_streamsMeet 68 = .ok (.invokevirtual 100, 3) := by decide +kernel
theorem dX7_streamsMeet_71 : decode cX7_streamsMeet 71 = .ok (.iadd, 1) := by decide +kernel
theorem dX7_streamsMeet_72 : decode cX7_streamsMeet 72 = .ok (.aload_n 0, 1) := by decide +kernel
theorem dX7_streamsMeet_73 : decode cX7_streamsMeet 73 = .ok (.getfield 16, 3) := by decide +kernel
theorem dX7_streamsMeet_76 : decode cX7_streamsMeet 76 = .ok (.iload_n 1, 1) := by decide +kernel
theorem dX7_streamsMeet_77 : decode cX7_streamsMeet 77 = .ok (.iaload, 1) := by decide +kernel
theorem dX7_streamsMeet_78 : decode cX7_streamsMeet 78 = .ok (.iconst 1, 1) := by decide +kernel
theorem dX7_streamsMeet_79 : decode cX7_streamsMeet 79 = .ok (.iadd, 1) := by decide +kernel
theorem dX7_streamsMeet_80 : decode cX7_streamsMeet 80 = .ok (.aload_n 0, 1) := by decide +kernel
theorem dX7_streamsMeet_81 : decode cX7_streamsMeet 81 = .ok (.getfield 13, 3) := by decide +kernel
theorem dX7_streamsMeet_84 : decode cX7_streamsMeet 84 = .ok (.iload_n 1, 1) := by decide +kernel
theorem dX7_streamsMeet_85 : decode cX7_streamsMeet 85 = .ok (.iaload, 1) := by decide +kernel
theorem dX7_streamsMeet_86 : decode cX7_streamsMeet 86 = .ok (.aload_n 0, 1) := by decide +kernel
theorem dX7_streamsMeet_87 : decode cX7_streamsMeet 87 = .ok (.getfield 43, 3) := by decide +kernel
theorem dX7_streamsMeet_90 : decode cX7_streamsMeet 90 = .ok (.iload_n 2, 1) := by decide +kernel
theorem dX7_streamsMeet_91 : decode cX7_streamsMeet 91 = .ok (.iaload, 1) := by decide +kernel
theorem dX7_streamsMeet_92 : decode cX7_streamsMeet 92 = .ok (.aload_n 0, 1) := by decide +kernel
theorem dX7_streamsMeet_93 : decode cX7_streamsMeet 93 = .ok (.iload_n 2, 1) := by decide +kernel
theorem dX7_streamsMeet_94 : decode cX7_streamsMeet 94 = .ok (.iload 5, 2) := by decide +kernel
theorem dX7_streamsMeet_96 : decode cX7_streamsMeet 96 = .ok (.invokevirtual 100, 3) := by decide +kernel
theorem dX7_streamsMeet_99 : decode cX7_streamsMeet 99 = .ok (.iadd, 1) := by decide +kernel
theorem dX7_streamsMeet_100 : decode cX7_streamsMeet 100 = .ok (.aload_n 0, 1) := by decide +kernel
theorem dX7_streamsMeet_101 : decode cX7_streamsMeet 101 = .ok (.getfield 16, 3) := by decide +kernel
theorem dX7_streamsMeet_104 : decode cX7_streamsMeet 104 = .ok (.iload_n 2, 1) := by decide +kernel
theorem dX7_streamsMeet_105 : decode cX7_streamsMeet 105 = .ok (.iaload, 1) := by decide +kernel
theorem dX7_streamsMeet_106 : decode cX7_streamsMeet 106 = .ok (.iconst 1, 1) := by decide +kernel
theorem dX7_streamsMeet_107 : decode cX7_streamsMeet 107 = .ok (.iadd, 1) := by decide +kernel
theorem dX7_streamsMeet_108 : decode cX7_streamsMeet 108 = .ok (.aload_n 0, 1) := by decide +kernel
theorem dX7_streamsMeet_109 : decode cX7_streamsMeet 109 = .ok (.getfield 13, 3) := by decide +kernel
theorem dX7_streamsMeet_112 : decode cX7_streamsMeet 112 = .ok (.iload_n 2, 1) := by decide +kernel
theorem dX7_streamsMeet_113 : decode cX7_streamsMeet 113 = .ok (.iaload, 1) := by decide +kernel
theorem dX7_streamsMeet_114 : decode cX7_streamsMeet 114 = .ok (.invokestatic 107, 3) := by decide +kernel
theorem dX7_streamsMeet_117 : decode cX7_streamsMeet 117 = .ok (.ifCond .eq 7, 3) := by decide +kernel
theorem dX7_streamsMeet_120 : decode cX7_streamsMeet 120 = .ok (.iconst 1, 1) := by decide +kernel
theorem dX7_streamsMeet_121 : decode cX7_streamsMeet 121 = .ok (.goto 4, 3) := by decide +kernel
theorem dX7_streamsMeet_124 : decode cX7_streamsMeet 124 = .ok (.iconst 0, 1) := by decide +kernel
theorem dX7_streamsMeet_125 : decode cX7_streamsMeet 125 = .ok (.istore_n 3, 1) := by decide +kernel
theorem dX7_streamsMeet_126 : decode cX7_streamsMeet 126 = .ok (.iinc 5 1, 3) := by decide +kernel
theorem dX7_streamsMeet_129 : decode cX7_streamsMeet 129 = .ok (.goto (-115), 3) := by decide +kernel
theorem dX7_streamsMeet_132 : decode cX7_streamsMeet 132 = .ok (.iinc 4 1, 3) := by decide +kernel
theorem dX7_streamsMeet_135 : decode cX7_streamsMeet 135 = .ok (.goto (-130), 3) := by decide +kernel
theorem dX7_streamsMeet_138 : decode cX7_streamsMeet 138 = .ok (.iload_n 3, 1) := by decide +kernel
theorem dX7_streamsMeet_139 : decode cX7_streamsMeet 139 = .ok (.ireturn, 1) := by decide +kernel
theorem dX7_isGood_0 : decode cX7_isGood 0 = .ok (.aload_n 0, 1) := by decide +kernel
theorem dX7_isGood_1 : decode cX7_isGood 1 = .ok (.iload_n 1, 1) := by decide +kernel
theorem dX7_isGood_2 : decode cX7_isGood 2 = .ok (.invokevirtual 111, 3) := by decide +kernel
theorem dX7_isGood_5 : decode cX7_isGood 5 = .ok (.istore_n 2, 1) := by decide +kernel
theorem dX7_isGood_6 : decode cX7_isGood 6 = .ok (.iconst 0, 1) := by decide +kernel
theorem dX7_isGood_7 : decode cX7_isGood 7 = .ok (.istore_n 3, 1) := by decide +kernel
theorem dX7_isGood_8 : decode cX7_isGood 8 = .ok (.iload_n 3, 1) := by decide +kernel
theorem dX7_isGood_9 : decode cX7_isGood 9 = .ok (.iload_n 1, 1) := by decide +kernel
theorem dX7_isGood_10 : decode cX7_isGood 10 = .ok (.if_icmp .ge 28, 3) := by decide +kernel
theorem dX7_isGood_13 : decode cX7_isGood 13 = .ok (.iload_n 2, 1) := by decide +kernel
theorem dX7_isGood_14 : decode cX7_isGood 14 = .ok (.ifCond .eq 16, 3) := by decide +kernel
theorem dX7_isGood_17 : decode cX7_isGood 17 = .ok (.aload_n 0, 1) := by decide +kernel
theorem dX7_isGood_18 : decode cX7_isGood 18 = .ok (.iload_n 1, 1) := by decide +kernel
theorem dX7_isGood_19 : decode cX7_isGood 19 = .ok (.iload_n 3, 1) := by decide +kernel
theorem dX7_isGood_20 : decode cX7_isGood 20 = .ok (.invokevirtual 114, 3) := by decide +kernel
theorem dX7_isGood_23 : decode cX7_isGood 23 = .ok (.ifCond .ne 7, 3) := by decide +kernel
theorem dX7_isGood_26 : decode cX7_isGood 26 = .ok (.iconst 1, 1) := by decide +kernel
theorem dX7_isGood_27 : decode cX7_isGood 27 = .ok (.goto 4, 3) := by decide +kernel
theorem dX7_isGood_30 : decode cX7_isGood 30 = .ok (.iconst 0, 1) := by decide +kernel
theorem dX7_isGood_31 : decode cX7_isGood 31 = .ok (.istore_n 2, 1) := by decide +kernel
theorem dX7_isGood_32 : decode cX7_isGood 32 = .ok (.iinc 3 1, 3) := by decide +kernel
theorem dX7_isGood_35 : decode cX7_isGood 35 = .ok (.goto (-27), 3) := by decide +kernel
theorem dX7_isGood_38 : decode cX7_isGood 38 = .ok (.iload_n 2, 1) := by decide +kernel
theorem dX7_isGood_39 : decode cX7_isGood 39 = .ok (.ireturn, 1) := by decide +kernel
theorem dX7_keep_0 : decode cX7_keep 0 = .ok (.aload_n 0, 1) := by decide +kernel
theorem dX7_keep_1 : decode cX7_keep 1 = .ok (.getfield 25, 3) := by decide +kernel
theorem dX7_keep_4 : decode cX7_keep 4 = .ok (.iconst 0, 1) := by decide +kernel
theorem dX7_keep_5 : decode cX7_keep 5 = .ok (.aload_n 0, 1) := by decide +kernel
theorem dX7_keep_6 : decode cX7_keep 6 = .ok (.getfield 97, 3) := by decide +kernel
theorem dX7_keep_9 : decode cX7_keep 9 = .ok (.iastore, 1) := by decide +kernel
theorem dX7_keep_10 : decode cX7_keep 10 = .ok (.iconst 0, 1) := by decide +kernel
theorem dX7_keep_11 : decode cX7_keep 11 = .ok (.istore_n 1, 1) := by decide +kernel
theorem dX7_keep_12 : decode cX7_keep 12 = .ok (.iload_n 1, 1) := by decide +kernel
theorem dX7_keep_13 : decode cX7_keep 13 = .ok (.aload_n 0, 1) := by decide +kernel
theorem dX7_keep_14 : decode cX7_keep 14 = .ok (.getfield 97, 3) := by decide +kernel
theorem dX7_keep_17 : decode cX7_keep 17 = .ok (.if_icmp .ge 104, 3) := by decide +kernel
theorem dX7_keep_20 : decode cX7_keep 20 = .ok (.aload_n 0, 1) := by decide +kernel
theorem dX7_keep_21 : decode cX7_keep 21 = .ok (.getfield 28, 3) := by decide +kernel
theorem dX7_keep_24 : decode cX7_keep 24 = .ok (.iload_n 1, 1) := by decide +kernel
theorem dX7_keep_25 : decode cX7_keep 25 = .ok (.aload_n 0, 1) := by decide +kernel
theorem dX7_keep_26 : decode cX7_keep 26 = .ok (.getfield 13, 3) := by decide +kernel
theorem dX7_keep_29 : decode cX7_keep 29 = .ok (.iload_n 1, 1) := by decide +kernel
theorem dX7_keep_30 : decode cX7_keep 30 = .ok (.iaload, 1) := by decide +kernel
theorem dX7_keep_31 : decode cX7_keep 31 = .ok (.iastore, 1) := by decide +kernel
theorem dX7_keep_32 : decode cX7_keep 32 = .ok (.aload_n 0, 1) := by decide +kernel
theorem dX7_keep_33 : decode cX7_keep 33 = .ok (.getfield 31, 3) := by decide +kernel
theorem dX7_keep_36 : decode cX7_keep 36 = .ok (.iload_n 1, 1) := by decide +kernel
theorem dX7_keep_37 : decode cX7_keep 37 = .ok (.aload_n 0, 1) := by decide +kernel
theorem dX7_keep_38 : decode cX7_keep 38 = .ok (.getfield 16, 3) := by decide +kernel
theorem dX7_keep_41 : decode cX7_keep 41 = .ok (.iload_n 1, 1) := by decide +kernel
theorem dX7_keep_42 : decode cX7_keep 42 = .ok (.iaload, 1) := by decide +kernel
theorem dX7_keep_43 : decode cX7_keep 43 = .ok (.iastore, 1) := by decide +kernel
theorem dX7_keep_44 : decode cX7_keep 44 = .ok (.aload_n 0, 1) := by decide +kernel
theorem dX7_keep_45 : decode cX7_keep 45 = .ok (.getfield 34, 3) := by decide +kernel
theorem dX7_keep_48 : decode cX7_keep 48 = .ok (.iload_n 1, 1) := by decide +kernel
theorem dX7_keep_49 : decode cX7_keep 49 = .ok (.aload_n 0, 1) := by decide +kernel
theorem dX7_keep_50 : decode cX7_keep 50 = .ok (.getfield 43, 3) := by decide +kernel
theorem dX7_keep_53 : decode cX7_keep 53 = .ok (.iload_n 1, 1) := by decide +kernel
theorem dX7_keep_54 : decode cX7_keep 54 = .ok (.iaload, 1) := by decide +kernel
theorem dX7_keep_55 : decode cX7_keep 55 = .ok (.iastore, 1) := by decide +kernel
theorem dX7_keep_56 : decode cX7_keep 56 = .ok (.iconst 0, 1) := by decide +kernel
theorem dX7_keep_57 : decode cX7_keep 57 = .ok (.istore_n 2, 1) := by decide +kernel
theorem dX7_keep_58 : decode cX7_keep 58 = .ok (.iload_n 2, 1) := by decide +kernel
theorem dX7_keep_59 : decode cX7_keep 59 = .ok (.iconst 3, 1) := by decide +kernel
theorem dX7_keep_60 : decode cX7_keep 60 = .ok (.if_icmp .ge 55, 3) := by decide +kernel
theorem dX7_keep_63 : decode cX7_keep 63 = .ok (.aload_n 0, 1) := by decide +kernel
theorem dX7_keep_64 : decode cX7_keep 64 = .ok (.getfield 22, 3) := by decide +kernel
theorem dX7_keep_67 : decode cX7_keep 67 = .ok (.iconst 3, 1) := by decide +kernel
theorem dX7_keep_68 : decode cX7_keep 68 = .ok (.iload_n 1, 1) := by decide +kernel
theorem dX7_keep_69 : decode cX7_keep 69 = .ok (.imul, 1) := by decide +kernel
theorem dX7_keep_70 : decode cX7_keep 70 = .ok (.iload_n 2, 1) := by decide +kernel
theorem dX7_keep_71 : decode cX7_keep 71 = .ok (.iadd, 1) := by decide +kernel
theorem dX7_keep_72 : decode cX7_keep 72 = .ok (.iaload, 1) := by decide +kernel
theorem dX7_keep_73 : decode cX7_keep 73 = .ok (.istore_n 3, 1) := by decide +kernel
theorem dX7_keep_74 : decode cX7_keep 74 = .ok (.aload_n 0, 1) := by decide +kernel
theorem dX7_keep_75 : decode cX7_keep 75 = .ok (.getfield 37, 3) := by decide +kernel
theorem dX7_keep_78 : decode cX7_keep 78 = .ok (.iconst 3, 1) := by decide +kernel
theorem dX7_keep_79 : decode cX7_keep 79 = .ok (.iload_n 1, 1) := by decide +kernel
theorem dX7_keep_80 : decode cX7_keep 80 = .ok (.imul, 1) := by decide +kernel
theorem dX7_keep_81 : decode cX7_keep 81 = .ok (.iload_n 2, 1) := by decide +kernel
theorem dX7_keep_82 : decode cX7_keep 82 = .ok (.iadd, 1) := by decide +kernel
theorem dX7_keep_83 : decode cX7_keep 83 = .ok (.iload_n 3, 1) := by decide +kernel
theorem dX7_keep_84 : decode cX7_keep 84 = .ok (.iastore, 1) := by decide +kernel
theorem dX7_keep_85 : decode cX7_keep 85 = .ok (.aload_n 0, 1) := by decide +kernel
theorem dX7_keep_86 : decode cX7_keep 86 = .ok (.getfield 40, 3) := by decide +kernel
theorem dX7_keep_89 : decode cX7_keep 89 = .ok (.iconst 3, 1) := by decide +kernel
theorem dX7_keep_90 : decode cX7_keep 90 = .ok (.iload_n 1, 1) := by decide +kernel
theorem dX7_keep_91 : decode cX7_keep 91 = .ok (.imul, 1) := by decide +kernel
theorem dX7_keep_92 : decode cX7_keep 92 = .ok (.iload_n 2, 1) := by decide +kernel
theorem dX7_keep_93 : decode cX7_keep 93 = .ok (.iadd, 1) := by decide +kernel
theorem dX7_keep_94 : decode cX7_keep 94 = .ok (.iload_n 3, 1) := by decide +kernel
theorem dX7_keep_95 : decode cX7_keep 95 = .ok (.ifCond .ge 7, 3) := by decide +kernel
theorem dX7_keep_98 : decode cX7_keep 98 = .ok (.iconst 0, 1) := by decide +kernel
theorem dX7_keep_99 : decode cX7_keep 99 = .ok (.goto 9, 3) := by decide +kernel
theorem dX7_keep_102 : decode cX7_keep 102 = .ok (.aload_n 0, 1) := by decide +kernel
theorem dX7_keep_103 : decode cX7_keep 103 = .ok (.getfield 7, 3) := by decide +kernel
theorem dX7_keep_106 : decode cX7_keep 106 = .ok (.iload_n 3, 1) := by decide +kernel
theorem dX7_keep_107 : decode cX7_keep 107 = .ok (.iaload, 1) := by decide +kernel
theorem dX7_keep_108 : decode cX7_keep 108 = .ok (.iastore, 1) := by decide +kernel
theorem dX7_keep_109 : decode cX7_keep 109 = .ok (.iinc 2 1, 3) := by decide +kernel
theorem dX7_keep_112 : decode cX7_keep 112 = .ok (.goto (-54), 3) := by decide +kernel
theorem dX7_keep_115 : decode cX7_keep 115 = .ok (.iinc 1 1, 3) := by decide +kernel
theorem dX7_keep_118 : decode cX7_keep 118 = .ok (.goto (-106), 3) := by decide +kernel
theorem dX7_keep_121 : decode cX7_keep 121 = .ok (.return_, 1) := by decide +kernel
theorem dX7_build_0 : decode cX7_build 0 = .ok (.aload_n 0, 1) := by decide +kernel
theorem dX7_build_1 : decode cX7_build 1 = .ok (.iload_n 1, 1) := by decide +kernel
theorem dX7_build_2 : decode cX7_build 2 = .ok (.ifCond .lt 10, 3) := by decide +kernel
theorem dX7_build_5 : decode cX7_build 5 = .ok (.iload_n 1, 1) := by decide +kernel
theorem dX7_build_6 : decode cX7_build 6 = .ok (.sipush 20000, 3) := by decide +kernel
theorem dX7_build_9 : decode cX7_build 9 = .ok (.if_icmp .le 7, 3) := by decide +kernel
theorem dX7_build_12 : decode cX7_build 12 = .ok (.iconst 1, 1) := by decide +kernel
theorem dX7_build_13 : decode cX7_build 13 = .ok (.goto 4, 3) := by decide +kernel
theorem dX7_build_16 : decode cX7_build 16 = .ok (.iconst 0, 1) := by decide +kernel
theorem dX7_build_17 : decode cX7_build 17 = .ok (.putfield 89, 3) := by decide +kernel
theorem dX7_build_20 : decode cX7_build 20 = .ok (.aload_n 0, 1) := by decide +kernel
theorem dX7_build_21 : decode cX7_build 21 = .ok (.getfield 89, 3) := by decide +kernel
theorem dX7_build_24 : decode cX7_build 24 = .ok (.ifCond .le 5, 3) := by decide +kernel
theorem dX7_build_27 : decode cX7_build 27 = .ok (.iconst 0, 1) := by decide +kernel
theorem dX7_build_28 : decode cX7_build 28 = .ok (.ireturn, 1) := by decide +kernel
theorem dX7_build_29 : decode cX7_build 29 = .ok (.aload_n 0, 1) := by decide +kernel
theorem dX7_build_30 : decode cX7_build 30 = .ok (.iconst 0, 1) := by decide +kernel
theorem dX7_build_31 : decode cX7_build 31 = .ok (.putfield 118, 3) := by decide +kernel
theorem dX7_build_34 : decode cX7_build 34 = .ok (.iconst 0, 1) := by decide +kernel
theorem dX7_build_35 : decode cX7_build 35 = .ok (.istore_n 2, 1) := by decide +kernel
theorem dX7_build_36 : decode cX7_build 36 = .ok (.iconst 0, 1) := by decide +kernel
theorem dX7_build_37 : decode cX7_build 37 = .ok (.istore_n 3, 1) := by decide +kernel
theorem dX7_build_38 : decode cX7_build 38 = .ok (.iload_n 3, 1) := by decide +kernel
theorem dX7_build_39 : decode cX7_build 39 = .ok (.iconst 5, 1) := by decide +kernel
theorem dX7_build_40 : decode cX7_build 40 = .ok (.if_icmp .ge 16, 3) := by decide +kernel
theorem dX7_build_43 : decode cX7_build 43 = .ok (.aload_n 0, 1) := by decide +kernel
theorem dX7_build_44 : decode cX7_build 44 = .ok (.getfield 43, 3) := by decide +kernel
theorem dX7_build_47 : decode cX7_build 47 = .ok (.iload_n 3, 1) := by decide +kernel
theorem dX7_build_48 : decode cX7_build 48 = .ok (.iconst (-1), 1) := by decide +kernel
theorem dX7_build_49 : decode cX7_build 49 = .ok (.iastore, 1) := by decide +kernel
theorem dX7_build_50 : decode cX7_build 50 = .ok (.iinc 3 1, 3) := by decide +kernel
theorem dX7_build_53 : decode cX7_build 53 = .ok (.goto (-15), 3) := by decide +kernel
theorem dX7_build_56 : decode cX7_build 56 = .ok (.iload_n 2, 1) := by decide +kernel
theorem dX7_build_57 : decode cX7_build 57 = .ok (.ifCond .lt 88, 3) := by decide +kernel
theorem dX7_build_60 : decode cX7_build 60 = .ok (.iload_n 2, 1) := by decide +kernel
theorem dX7_build_61 : decode cX7_build 61 = .ok (.aload_n 0, 1) := by decide +kernel
theorem dX7_build_62 : decode cX7_build 62 = .ok (.getfield 97, 3) := by decide +kernel
theorem dX7_build_65 : decode cX7_build 65 = .ok (.if_icmp .ge 80, 3) := by decide +kernel
theorem dX7_build_68 : decode cX7_build 68 = .ok (.aload_n 0, 1) := by decide +kernel
theorem dX7_build_69 : decode cX7_build 69 = .ok (.getfield 43, 3) := by decide +kernel
theorem dX7_build_72 : decode cX7_build 72 = .ok (.iload_n 2, 1) := by decide +kernel
theorem dX7_build_73 : decode cX7_build 73 = .ok (.dup2, 1) := by decide +kernel
theorem dX7_build_74 : decode cX7_build 74 = .ok (.iaload, 1) := by decide +kernel
theorem dX7_build_75 : decode cX7_build 75 = .ok (.iconst 1, 1) := by decide +kernel
theorem dX7_build_76 : decode cX7_build 76 = .ok (.iadd, 1) := by decide +kernel
theorem dX7_build_77 : decode cX7_build 77 = .ok (.iastore, 1) := by decide +kernel
theorem dX7_build_78 : decode cX7_build 78 = .ok (.aload_n 0, 1) := by decide +kernel
theorem dX7_build_79 : decode cX7_build 79 = .ok (.getfield 43, 3) := by decide +kernel
theorem dX7_build_82 : decode cX7_build 82 = .ok (.iload_n 2, 1) := by decide +kernel
theorem dX7_build_83 : decode cX7_build 83 = .ok (.iaload, 1) := by decide +kernel
theorem dX7_build_84 : decode cX7_build 84 = .ok (.aload_n 0, 1) := by decide +kernel
theorem dX7_build_85 : decode cX7_build 85 = .ok (.getfield 13, 3) := by decide +kernel
theorem dX7_build_88 : decode cX7_build 88 = .ok (.iload_n 2, 1) := by decide +kernel
theorem dX7_build_89 : decode cX7_build 89 = .ok (.iaload, 1) := by decide +kernel
theorem dX7_build_90 : decode cX7_build 90 = .ok (.if_icmp .ne 16, 3) := by decide +kernel
theorem dX7_build_93 : decode cX7_build 93 = .ok (.aload_n 0, 1) := by decide +kernel
theorem dX7_build_94 : decode cX7_build 94 = .ok (.getfield 43, 3) := by decide +kernel
theorem dX7_build_97 : decode cX7_build 97 = .ok (.iload_n 2, 1) := by decide +kernel
theorem dX7_build_98 : decode cX7_build 98 = .ok (.iconst (-1), 1) := by decide +kernel
theorem dX7_build_99 : decode cX7_build 99 = .ok (.iastore, 1) := by decide +kernel
theorem dX7_build_100 : decode cX7_build 100 = .ok (.iinc 2 (-1), 3) := by decide +kernel
theorem dX7_build_103 : decode cX7_build 103 = .ok (.goto (-47), 3) := by decide +kernel
theorem dX7_build_106 : decode cX7_build 106 = .ok (.aload_n 0, 1) := by decide +kernel
theorem dX7_build_107 : decode cX7_build 107 = .ok (.getfield 118, 3) := by decide +kernel
theorem dX7_build_110 : decode cX7_build 110 = .ok (.iload_n 1, 1) := by decide +kernel
theorem dX7_build_111 : decode cX7_build 111 = .ok (.if_icmp .ne 5, 3) := by decide +kernel
theorem dX7_build_114 : decode cX7_build 114 = .ok (.iconst (-1), 1) := by decide +kernel
theorem dX7_build_115 : decode cX7_build 115 = .ok (.ireturn, 1) := by decide +kernel
theorem dX7_build_116 : decode cX7_build 116 = .ok (.aload_n 0, 1) := by decide +kernel
theorem dX7_build_117 : decode cX7_build 117 = .ok (.dup, 1) := by decide +kernel
theorem dX7_build_118 : decode cX7_build 118 = .ok (.getfield 118, 3) := by decide +kernel
theorem dX7_build_121 : decode cX7_build 121 = .ok (.iconst 1, 1) := by decide +kernel
theorem dX7_build_122 : decode cX7_build 122 = .ok (.iadd, 1) := by decide +kernel
theorem dX7_build_123 : decode cX7_build 123 = .ok (.putfield 118, 3) := by decide +kernel
theorem dX7_build_126 : decode cX7_build 126 = .ok (.aload_n 0, 1) := by decide +kernel
theorem dX7_build_127 : decode cX7_build 127 = .ok (.iload_n 2, 1) := by decide +kernel
theorem dX7_build_128 : decode cX7_build 128 = .ok (.invokevirtual 121, 3) := by decide +kernel
theorem dX7_build_131 : decode cX7_build 131 = .ok (.ifCond .eq 9, 3) := by decide +kernel
theorem dX7_build_134 : decode cX7_build 134 = .ok (.iload_n 2, 1) := by decide +kernel
theorem dX7_build_135 : decode cX7_build 135 = .ok (.iconst 1, 1) := by decide +kernel
theorem dX7_build_136 : decode cX7_build 136 = .ok (.iadd, 1) := by decide +kernel
theorem dX7_build_137 : decode cX7_build 137 = .ok (.goto 4, 3) := by decide +kernel
theorem dX7_build_140 : decode cX7_build 140 = .ok (.iload_n 2, 1) := by decide +kernel
theorem dX7_build_141 : decode cX7_build 141 = .ok (.istore_n 2, 1) := by decide +kernel
theorem dX7_build_142 : decode cX7_build 142 = .ok (.goto (-86), 3) := by decide +kernel
theorem dX7_build_145 : decode cX7_build 145 = .ok (.iload_n 2, 1) := by decide +kernel
theorem dX7_build_146 : decode cX7_build 146 = .ok (.ifCond .ge 5, 3) := by decide +kernel
theorem dX7_build_149 : decode cX7_build 149 = .ok (.iconst 0, 1) := by decide +kernel
theorem dX7_build_150 : decode cX7_build 150 = .ok (.ireturn, 1) := by decide +kernel
theorem dX7_build_151 : decode cX7_build 151 = .ok (.aload_n 0, 1) := by decide +kernel
theorem dX7_build_152 : decode cX7_build 152 = .ok (.invokevirtual 124, 3) := by decide +kernel
theorem dX7_build_155 : decode cX7_build 155 = .ok (.iconst 1, 1) := by decide +kernel
theorem dX7_build_156 : decode cX7_build 156 = .ok (.ireturn, 1) := by decide +kernel
theorem dX7_tries_0 : decode cX7_tries 0 = .ok (.aload_n 0, 1) := by decide +kernel
theorem dX7_tries_1 : decode cX7_tries 1 = .ok (.iconst 0, 1) := by decide +kernel
theorem dX7_tries_2 : decode cX7_tries 2 = .ok (.putfield 89, 3) := by decide +kernel
theorem dX7_tries_5 : decode cX7_tries 5 = .ok (.aload_n 0, 1) := by decide +kernel
theorem dX7_tries_6 : decode cX7_tries 6 = .ok (.getfield 118, 3) := by decide +kernel
theorem dX7_tries_9 : decode cX7_tries 9 = .ok (.ireturn, 1) := by decide +kernel
theorem dX7_offset_0 : decode cX7_offset 0 = .ok (.aload_n 0, 1) := by decide +kernel
theorem dX7_offset_1 : decode cX7_offset 1 = .ok (.aload_n 0, 1) := by decide +kernel
theorem dX7_offset_2 : decode cX7_offset 2 = .ok (.getfield 25, 3) := by decide +kernel
theorem dX7_offset_5 : decode cX7_offset 5 = .ok (.iconst 0, 1) := by decide +kernel
theorem dX7_offset_6 : decode cX7_offset 6 = .ok (.iaload, 1) := by decide +kernel
theorem dX7_offset_7 : decode cX7_offset 7 = .ok (.ifCond .ge 7, 3) := by decide +kernel
theorem dX7_offset_10 : decode cX7_offset 10 = .ok (.iconst 1, 1) := by decide +kernel
theorem dX7_offset_11 : decode cX7_offset 11 = .ok (.goto 22, 3) := by decide +kernel
theorem dX7_offset_14 : decode cX7_offset 14 = .ok (.iload_n 1, 1) := by decide +kernel
theorem dX7_offset_15 : decode cX7_offset 15 = .ok (.ifCond .lt 13, 3) := by decide +kernel
theorem dX7_offset_18 : decode cX7_offset 18 = .ok (.iload_n 1, 1) := by decide +kernel
theorem dX7_offset_19 : decode cX7_offset 19 = .ok (.aload_n 0, 1) := by decide +kernel
theorem dX7_offset_20 : decode cX7_offset 20 = .ok (.getfield 25, 3) := by decide +kernel
theorem dX7_offset_23 : decode cX7_offset 23 = .ok (.iconst 0, 1) := by decide +kernel
theorem dX7_offset_24 : decode cX7_offset 24 = .ok (.iaload, 1) := by decide +kernel
theorem dX7_offset_25 : decode cX7_offset 25 = .ok (.if_icmp .lt 7, 3) := by decide +kernel
theorem dX7_offset_28 : decode cX7_offset 28 = .ok (.iconst 2, 1) := by decide +kernel
theorem dX7_offset_29 : decode cX7_offset 29 = .ok (.goto 4, 3) := by decide +kernel
theorem dX7_offset_32 : decode cX7_offset 32 = .ok (.iconst 0, 1) := by decide +kernel
theorem dX7_offset_33 : decode cX7_offset 33 = .ok (.putfield 89, 3) := by decide +kernel
theorem dX7_offset_36 : decode cX7_offset 36 = .ok (.aload_n 0, 1) := by decide +kernel
theorem dX7_offset_37 : decode cX7_offset 37 = .ok (.getfield 89, 3) := by decide +kernel
theorem dX7_offset_40 : decode cX7_offset 40 = .ok (.ifCond .le 7, 3) := by decide +kernel
theorem dX7_offset_43 : decode cX7_offset 43 = .ok (.iconst 0, 1) := by decide +kernel
theorem dX7_offset_44 : decode cX7_offset 44 = .ok (.goto 9, 3) := by decide +kernel
theorem dX7_offset_47 : decode cX7_offset 47 = .ok (.aload_n 0, 1) := by decide +kernel
theorem dX7_offset_48 : decode cX7_offset 48 = .ok (.getfield 34, 3) := by decide +kernel
theorem dX7_offset_51 : decode cX7_offset 51 = .ok (.iload_n 1, 1) := by decide +kernel
theorem dX7_offset_52 : decode cX7_offset 52 = .ok (.iaload, 1) := by decide +kernel
theorem dX7_offset_53 : decode cX7_offset 53 = .ok (.ireturn, 1) := by decide +kernel
theorem dX7_beginsIn_0 : decode cX7_beginsIn 0 = .ok (.iconst 0, 1) := by decide +kernel
theorem dX7_beginsIn_1 : decode cX7_beginsIn 1 = .ok (.istore 4, 2) := by decide +kernel
theorem dX7_beginsIn_3 : decode cX7_beginsIn 3 = .ok (.iconst 0, 1) := by decide +kernel
theorem dX7_beginsIn_4 : decode cX7_beginsIn 4 = .ok (.istore 5, 2) := by decide +kernel
theorem dX7_beginsIn_6 : decode cX7_beginsIn 6 = .ok (.iload 5, 2) := by decide +kernel
theorem dX7_beginsIn_8 : decode cX7_beginsIn 8 = .ok (.iload_n 3, 1) := by decide +kernel
theorem dX7_beginsIn_9 : decode cX7_beginsIn 9 = .ok (.if_icmp .ge 43, 3) := by decide +kernel
theorem dX7_beginsIn_12 : decode cX7_beginsIn 12 = .ok (.iload 4, 2) := by decide +kernel
theorem dX7_beginsIn_14 : decode cX7_beginsIn 14 = .ok (.aload_n 0, 1) := by decide +kernel
theorem dX7_beginsIn_15 : decode cX7_beginsIn 15 = .ok (.getfield 31, 3) := by decide +kernel
theorem dX7_beginsIn_18 : decode cX7_beginsIn 18 = .ok (.iconst 5, 1) := by decide +kernel
theorem dX7_beginsIn_19 : decode cX7_beginsIn 19 = .ok (.iload_n 1, 1) := by decide +kernel
theorem dX7_beginsIn_20 : decode cX7_beginsIn 20 = .ok (.imul, 1) := by decide +kernel
theorem dX7_beginsIn_21 : decode cX7_beginsIn 21 = .ok (.iload_n 2, 1) := by decide +kernel
theorem dX7_beginsIn_22 : decode cX7_beginsIn 22 = .ok (.iadd, 1) := by decide +kernel
theorem dX7_beginsIn_23 : decode cX7_beginsIn 23 = .ok (.iaload, 1) := by decide +kernel
theorem dX7_beginsIn_24 : decode cX7_beginsIn 24 = .ok (.iadd, 1) := by decide +kernel
theorem dX7_beginsIn_25 : decode cX7_beginsIn 25 = .ok (.aload_n 0, 1) := by decide +kernel
theorem dX7_beginsIn_26 : decode cX7_beginsIn 26 = .ok (.getfield 40, 3) := by decide +kernel
theorem dX7_beginsIn_29 : decode cX7_beginsIn 29 = .ok (.bipush 15, 2) := by decide +kernel
theorem dX7_beginsIn_31 : decode cX7_beginsIn 31 = .ok (.iload_n 1, 1) := by decide +kernel
theorem dX7_beginsIn_32 : decode cX7_beginsIn 32 = .ok (.imul, 1) := by decide +kernel
theorem dX7_beginsIn_33 : decode cX7_beginsIn 33 = .ok (.iconst 3, 1) := by decide +kernel
theorem dX7_beginsIn_34 : decode cX7_beginsIn 34 = .ok (.iload_n 2, 1) := by decide +kernel
theorem dX7_beginsIn_35 : decode cX7_beginsIn 35 = .ok (.imul, 1) := by decide +kernel
theorem dX7_beginsIn_36 : decode cX7_beginsIn 36 = .ok (.iadd, 1) := by decide +kernel
theorem dX7_beginsIn_37 : decode cX7_beginsIn 37 = .ok (.iload 5, 2) := by decide +kernel
theorem dX7_beginsIn_39 : decode cX7_beginsIn 39 = .ok (.iadd, 1) := by decide +kernel
theorem dX7_beginsIn_40 : decode cX7_beginsIn 40 = .ok (.iaload, 1) := by decide +kernel
theorem dX7_beginsIn_41 : decode cX7_beginsIn 41 = .ok (.iadd, 1) := by decide +kernel
theorem dX7_beginsIn_42 : decode cX7_beginsIn 42 = .ok (.iconst 2, 1) := by decide +kernel
theorem dX7_beginsIn_43 : decode cX7_beginsIn 43 = .ok (.iadd, 1) := by decide +kernel
theorem dX7_beginsIn_44 : decode cX7_beginsIn 44 = .ok (.istore 4, 2) := by decide +kernel
theorem dX7_beginsIn_46 : decode cX7_beginsIn 46 = .ok (.iinc 5 1, 3) := by decide +kernel
theorem dX7_beginsIn_49 : decode cX7_beginsIn 49 = .ok (.goto (-43), 3) := by decide +kernel
theorem dX7_beginsIn_52 : decode cX7_beginsIn 52 = .ok (.iload 4, 2) := by decide +kernel
theorem dX7_beginsIn_54 : decode cX7_beginsIn 54 = .ok (.ireturn, 1) := by decide +kernel
theorem dX7_spanOf_0 : decode cX7_spanOf 0 = .ok (.iconst 0, 1) := by decide +kernel
theorem dX7_spanOf_1 : decode cX7_spanOf 1 = .ok (.istore 4, 2) := by decide +kernel
theorem dX7_spanOf_3 : decode cX7_spanOf 3 = .ok (.iload 4, 2) := by decide +kernel
theorem dX7_spanOf_5 : decode cX7_spanOf 5 = .ok (.aload_n 0, 1) := by decide +kernel
theorem dX7_spanOf_6 : decode cX7_spanOf 6 = .ok (.getfield 25, 3) := by decide +kernel
theorem dX7_spanOf_9 : decode cX7_spanOf 9 = .ok (.iload_n 1, 1) := by decide +kernel
theorem dX7_spanOf_10 : decode cX7_spanOf 10 = .ok (.iaload, 1) := by decide +kernel
theorem dX7_spanOf_11 : decode cX7_spanOf 11 = .ok (.if_icmp .ge 105, 3) := by decide +kernel
theorem dX7_spanOf_14 : decode cX7_spanOf 14 = .ok (.iconst 0, 1) := by decide +kernel
theorem dX7_spanOf_15 : decode cX7_spanOf 15 = .ok (.istore 5, 2) := by decide +kernel
theorem dX7_spanOf_17 : decode cX7_spanOf 17 = .ok (.iload 5, 2) := by decide +kernel
theorem dX7_spanOf_19 : decode cX7_spanOf 19 = .ok (.iconst 3, 1) := by decide +kernel
theorem dX7_spanOf_20 : decode cX7_spanOf 20 = .ok (.if_icmp .ge 90, 3) := by decide +kernel
theorem dX7_spanOf_23 : decode cX7_spanOf 23 = .ok (.aload_n 0, 1) := by decide +kernel
theorem dX7_spanOf_24 : decode cX7_spanOf 24 = .ok (.getfield 34, 3) := by decide +kernel
theorem dX7_spanOf_27 : decode cX7_spanOf 27 = .ok (.iconst 5, 1) := by decide +kernel
theorem dX7_spanOf_28 : decode cX7_spanOf 28 = .ok (.iload_n 1, 1) := by decide +kernel
theorem dX7_spanOf_29 : decode cX7_spanOf 29 = .ok (.imul, 1) := by decide +kernel
theorem dX7_spanOf_30 : decode cX7_spanOf 30 = .ok (.iload 4, 2) := by decide +kernel
theorem dX7_spanOf_32 : decode cX7_spanOf 32 = .ok (.iadd, 1) := by decide +kernel
theorem dX7_spanOf_33 : decode cX7_spanOf 33 = .ok (.iaload, 1) := by decide +kernel
theorem dX7_spanOf_34 : decode cX7_spanOf 34 = .ok (.aload_n 0, 1) := by decide +kernel
theorem dX7_spanOf_35 : decode cX7_spanOf 35 = .ok (.iload_n 1, 1) := by decide +kernel
theorem dX7_spanOf_36 : decode cX7_spanOf 36 = .ok (.iload 4, 2) := by decide +kernel
theorem dX7_spanOf_38 : decode cX7_spanOf 38 = .ok (.iload 5, 2) := by decide +kernel
theorem dX7_spanOf_40 : decode cX7_spanOf 40 = .ok (.invokevirtual 127, 3) := by decide +kernel
theorem dX7_spanOf_43 : decode cX7_spanOf 43 = .ok (.iadd, 1) := by decide +kernel
theorem dX7_spanOf_44 : decode cX7_spanOf 44 = .ok (.iconst 1, 1) := by decide +kernel
theorem dX7_spanOf_45 : decode cX7_spanOf 45 = .ok (.isub, 1) := by decide +kernel
theorem dX7_spanOf_46 : decode cX7_spanOf 46 = .ok (.istore 6, 2) := by decide +kernel
theorem dX7_spanOf_48 : decode cX7_spanOf 48 = .ok (.aload_n 0, 1) := by decide +kernel
theorem dX7_spanOf_49 : decode cX7_spanOf 49 = .ok (.getfield 37, 3) := by decide +kernel
theorem dX7_spanOf_52 : decode cX7_spanOf 52 = .ok (.bipush 15, 2) := by decide +kernel
theorem dX7_spanOf_54 : decode cX7_spanOf 54 = .ok (.iload_n 1, 1) := by decide +kernel
theorem dX7_spanOf_55 : decode cX7_spanOf 55 = .ok (.imul, 1) := by decide +kernel
theorem dX7_spanOf_56 : decode cX7_spanOf 56 = .ok (.iconst 3, 1) := by decide +kernel
theorem dX7_spanOf_57 : decode cX7_spanOf 57 = .ok (.iload 4, 2) := by decide +kernel
theorem dX7_spanOf_59 : decode cX7_spanOf 59 = .ok (.imul, 1) := by decide +kernel
theorem dX7_spanOf_60 : decode cX7_spanOf 60 = .ok (.iadd, 1) := by decide +kernel
theorem dX7_spanOf_61 : decode cX7_spanOf 61 = .ok (.iload 5, 2) := by decide +kernel
theorem dX7_spanOf_63 : decode cX7_spanOf 63 = .ok (.iadd, 1) := by decide +kernel
theorem dX7_spanOf_64 : decode cX7_spanOf 64 = .ok (.iaload, 1) := by decide +kernel
theorem dX7_spanOf_65 : decode cX7_spanOf 65 = .ok (.iload_n 2, 1) := by decide +kernel
theorem dX7_spanOf_66 : decode cX7_spanOf 66 = .ok (.if_icmp .ne 38, 3) := by decide +kernel
theorem dX7_spanOf_69 : decode cX7_spanOf 69 = .ok (.iload_n 3, 1) := by decide +kernel
theorem dX7_spanOf_70 : decode cX7_spanOf 70 = .ok (.iload 6, 2) := by decide +kernel
theorem dX7_spanOf_72 : decode cX7_spanOf 72 = .ok (.isub, 1) := by decide +kernel
theorem dX7_spanOf_73 : decode cX7_spanOf 73 = .ok (.aload_n 0, 1) := by decide +kernel
theorem dX7_spanOf_74 : decode cX7_spanOf 74 = .ok (.getfield 28, 3) := by decide +kernel
theorem dX7_spanOf_77 : decode cX7_spanOf 77 = .ok (.iconst 5, 1) := by decide +kernel
theorem dX7_spanOf_78 : decode cX7_spanOf 78 = .ok (.iload_n 1, 1) := by decide +kernel
theorem dX7_spanOf_79 : decode cX7_spanOf 79 = .ok (.imul, 1) := by decide +kernel
theorem dX7_spanOf_80 : decode cX7_spanOf 80 = .ok (.iload 4, 2) := by decide +kernel
theorem dX7_spanOf_82 : decode cX7_spanOf 82 = .ok (.iadd, 1) := by decide +kernel
theorem dX7_spanOf_83 : decode cX7_spanOf 83 = .ok (.iaload, 1) := by decide +kernel
theorem dX7_spanOf_84 : decode cX7_spanOf 84 = .ok (.invokestatic 104, 3) := by decide +kernel
theorem dX7_spanOf_87 : decode cX7_spanOf 87 = .ok (.aload_n 0, 1) := by decide +kernel
theorem dX7_spanOf_88 : decode cX7_spanOf 88 = .ok (.getfield 31, 3) := by decide +kernel
theorem dX7_spanOf_91 : decode cX7_spanOf 91 = .ok (.iconst 5, 1) := by decide +kernel
theorem dX7_spanOf_92 : decode cX7_spanOf 92 = .ok (.iload_n 1, 1) := by decide +kernel
theorem dX7_spanOf_93 : decode cX7_spanOf 93 = .ok (.imul, 1) := by decide +kernel
theorem dX7_spanOf_94 : decode cX7_spanOf 94 = .ok (.iload 4, 2) := by decide +kernel
theorem dX7_spanOf_96 : decode cX7_spanOf 96 = .ok (.iadd, 1) := by decide +kernel
theorem dX7_spanOf_97 : decode cX7_spanOf 97 = .ok (.iaload, 1) := by decide +kernel
theorem dX7_spanOf_98 : decode cX7_spanOf 98 = .ok (.if_icmp .gt 6, 3) := by decide +kernel
theorem dX7_spanOf_101 : decode cX7_spanOf 101 = .ok (.iload 4, 2) := by decide +kernel
theorem dX7_spanOf_103 : decode cX7_spanOf 103 = .ok (.ireturn, 1) := by decide +kernel
theorem dX7_spanOf_104 : decode cX7_spanOf 104 = .ok (.iinc 5 1, 3) := by decide +kernel
theorem dX7_spanOf_107 : decode cX7_spanOf 107 = .ok (.goto (-90), 3) := by decide +kernel
theorem dX7_spanOf_110 : decode cX7_spanOf 110 = .ok (.iinc 4 1, 3) := by decide +kernel
theorem dX7_spanOf_113 : decode cX7_spanOf 113 = .ok (.goto (-110), 3) := by decide +kernel
theorem dX7_spanOf_116 : decode cX7_spanOf 116 = .ok (.iconst (-1), 1) := by decide +kernel
theorem dX7_spanOf_117 : decode cX7_spanOf 117 = .ok (.ireturn, 1) := by decide +kernel
theorem dX7_gate_0 : decode cX7_gate 0 = .ok (.aload_n 0, 1) := by decide +kernel
theorem dX7_gate_1 : decode cX7_gate 1 = .ok (.iload_n 1, 1) := by decide +kernel
theorem dX7_gate_2 : decode cX7_gate 2 = .ok (.invokestatic 93, 3) := by decide +kernel
theorem dX7_gate_5 : decode cX7_gate 5 = .ok (.ifCond .ne 7, 3) := by decide +kernel
theorem dX7_gate_8 : decode cX7_gate 8 = .ok (.iconst 1, 1) := by decide +kernel
theorem dX7_gate_9 : decode cX7_gate 9 = .ok (.goto 31, 3) := by decide +kernel
theorem dX7_gate_12 : decode cX7_gate 12 = .ok (.iload_n 2, 1) := by decide +kernel
theorem dX7_gate_13 : decode cX7_gate 13 = .ok (.ifCond .lt 9, 3) := by decide +kernel
theorem dX7_gate_16 : decode cX7_gate 16 = .ok (.iload_n 2, 1) := by decide +kernel
theorem dX7_gate_17 : decode cX7_gate 17 = .ok (.bipush 31, 2) := by decide +kernel
theorem dX7_gate_19 : decode cX7_gate 19 = .ok (.if_icmp .le 7, 3) := by decide +kernel
theorem dX7_gate_22 : decode cX7_gate 22 = .ok (.iconst 2, 1) := by decide +kernel
theorem dX7_gate_23 : decode cX7_gate 23 = .ok (.goto 17, 3) := by decide +kernel
theorem dX7_gate_26 : decode cX7_gate 26 = .ok (.aload_n 0, 1) := by decide +kernel
theorem dX7_gate_27 : decode cX7_gate 27 = .ok (.getfield 25, 3) := by decide +kernel
theorem dX7_gate_30 : decode cX7_gate 30 = .ok (.iconst 0, 1) := by decide +kernel
theorem dX7_gate_31 : decode cX7_gate 31 = .ok (.iaload, 1) := by decide +kernel
theorem dX7_gate_32 : decode cX7_gate 32 = .ok (.ifCond .ge 7, 3) := by decide +kernel
theorem dX7_gate_35 : decode cX7_gate 35 = .ok (.iconst 3, 1) := by decide +kernel
theorem dX7_gate_36 : decode cX7_gate 36 = .ok (.goto 4, 3) := by decide +kernel
theorem dX7_gate_39 : decode cX7_gate 39 = .ok (.iconst 0, 1) := by decide +kernel
theorem dX7_gate_40 : decode cX7_gate 40 = .ok (.putfield 89, 3) := by decide +kernel
theorem dX7_gate_43 : decode cX7_gate 43 = .ok (.aload_n 0, 1) := by decide +kernel
theorem dX7_gate_44 : decode cX7_gate 44 = .ok (.getfield 89, 3) := by decide +kernel
theorem dX7_gate_47 : decode cX7_gate 47 = .ok (.ifCond .le 7, 3) := by decide +kernel
theorem dX7_gate_50 : decode cX7_gate 50 = .ok (.iconst 0, 1) := by decide +kernel
theorem dX7_gate_51 : decode cX7_gate 51 = .ok (.goto 10, 3) := by decide +kernel
theorem dX7_gate_54 : decode cX7_gate 54 = .ok (.aload_n 0, 1) := by decide +kernel
theorem dX7_gate_55 : decode cX7_gate 55 = .ok (.iconst 0, 1) := by decide +kernel
theorem dX7_gate_56 : decode cX7_gate 56 = .ok (.iload_n 1, 1) := by decide +kernel
theorem dX7_gate_57 : decode cX7_gate 57 = .ok (.iload_n 2, 1) := by decide +kernel
theorem dX7_gate_58 : decode cX7_gate 58 = .ok (.invokevirtual 131, 3) := by decide +kernel
theorem dX7_gate_61 : decode cX7_gate 61 = .ok (.ireturn, 1) := by decide +kernel
theorem dX7_copy_0 : decode cX7_copy 0 = .ok (.aload_n 0, 1) := by decide +kernel
theorem dX7_copy_1 : decode cX7_copy 1 = .ok (.getfield 25, 3) := by decide +kernel
theorem dX7_copy_4 : decode cX7_copy 4 = .ok (.iload_n 2, 1) := by decide +kernel
theorem dX7_copy_5 : decode cX7_copy 5 = .ok (.aload_n 0, 1) := by decide +kernel
theorem dX7_copy_6 : decode cX7_copy 6 = .ok (.getfield 25, 3) := by decide +kernel
theorem dX7_copy_9 : decode cX7_copy 9 = .ok (.iload_n 1, 1) := by decide +kernel
theorem dX7_copy_10 : decode cX7_copy 10 = .ok (.iaload, 1) := by decide +kernel
theorem dX7_copy_11 : decode cX7_copy 11 = .ok (.iastore, 1) := by decide +kernel
theorem dX7_copy_12 : decode cX7_copy 12 = .ok (.iconst 0, 1) := by decide +kernel
theorem dX7_copy_13 : decode cX7_copy 13 = .ok (.istore_n 3, 1) := by decide +kernel
theorem dX7_copy_14 : decode cX7_copy 14 = .ok (.iload_n 3, 1) := by decide +kernel
theorem dX7_copy_15 : decode cX7_copy 15 = .ok (.iconst 5, 1) := by decide +kernel
theorem dX7_copy_16 : decode cX7_copy 16 = .ok (.if_icmp .ge 69, 3) := by decide +kernel
theorem dX7_copy_19 : decode cX7_copy 19 = .ok (.aload_n 0, 1) := by decide +kernel
theorem dX7_copy_20 : decode cX7_copy 20 = .ok (.getfield 28, 3) := by decide +kernel
theorem dX7_copy_23 : decode cX7_copy 23 = .ok (.iconst 5, 1) := by decide +kernel
theorem dX7_copy_24 : decode cX7_copy 24 = .ok (.iload_n 2, 1) := by decide +kernel
theorem dX7_copy_25 : decode cX7_copy 25 = .ok (.imul, 1) := by decide +kernel
theorem dX7_copy_26 : decode cX7_copy 26 = .ok (.iload_n 3, 1) := by decide +kernel
theorem dX7_copy_27 : decode cX7_copy 27 = .ok (.iadd, 1) := by decide +kernel
theorem dX7_copy_28 : decode cX7_copy 28 = .ok (.aload_n 0, 1) := by decide +kernel
theorem dX7_copy_29 : decode cX7_copy 29 = .ok (.getfield 28, 3) := by decide +kernel
theorem dX7_copy_32 : decode cX7_copy 32 = .ok (.iconst 5, 1) := by decide +kernel
theorem dX7_copy_33 : decode cX7_copy 33 = .ok (.iload_n 1, 1) := by decide +kernel
theorem dX7_copy_34 : decode cX7_copy 34 = .ok (.imul, 1) := by decide +kernel
theorem dX7_copy_35 : decode cX7_copy 35 = .ok (.iload_n 3, 1) := by decide +kernel
theorem dX7_copy_36 : decode cX7_copy 36 = .ok (.iadd, 1) := by decide +kernel
theorem dX7_copy_37 : decode cX7_copy 37 = .ok (.iaload, 1) := by decide +kernel
theorem dX7_copy_38 : decode cX7_copy 38 = .ok (.iastore, 1) := by decide +kernel
theorem dX7_copy_39 : decode cX7_copy 39 = .ok (.aload_n 0, 1) := by decide +kernel
theorem dX7_copy_40 : decode cX7_copy 40 = .ok (.getfield 31, 3) := by decide +kernel
theorem dX7_copy_43 : decode cX7_copy 43 = .ok (.iconst 5, 1) := by decide +kernel
theorem dX7_copy_44 : decode cX7_copy 44 = .ok (.iload_n 2, 1) := by decide +kernel
theorem dX7_copy_45 : decode cX7_copy 45 = .ok (.imul, 1) := by decide +kernel
theorem dX7_copy_46 : decode cX7_copy 46 = .ok (.iload_n 3, 1) := by decide +kernel
theorem dX7_copy_47 : decode cX7_copy 47 = .ok (.iadd, 1) := by decide +kernel
theorem dX7_copy_48 : decode cX7_copy 48 = .ok (.aload_n 0, 1) := by decide +kernel
theorem dX7_copy_49 : decode cX7_copy 49 = .ok (.getfield 31, 3) := by decide +kernel
theorem dX7_copy_52 : decode cX7_copy 52 = .ok (.iconst 5, 1) := by decide +kernel
theorem dX7_copy_53 : decode cX7_copy 53 = .ok (.iload_n 1, 1) := by decide +kernel
theorem dX7_copy_54 : decode cX7_copy 54 = .ok (.imul, 1) := by decide +kernel
theorem dX7_copy_55 : decode cX7_copy 55 = .ok (.iload_n 3, 1) := by decide +kernel
theorem dX7_copy_56 : decode cX7_copy 56 = .ok (.iadd, 1) := by decide +kernel
theorem dX7_copy_57 : decode cX7_copy 57 = .ok (.iaload, 1) := by decide +kernel
theorem dX7_copy_58 : decode cX7_copy 58 = .ok (.iastore, 1) := by decide +kernel
theorem dX7_copy_59 : decode cX7_copy 59 = .ok (.aload_n 0, 1) := by decide +kernel
theorem dX7_copy_60 : decode cX7_copy 60 = .ok (.getfield 34, 3) := by decide +kernel
theorem dX7_copy_63 : decode cX7_copy 63 = .ok (.iconst 5, 1) := by decide +kernel
theorem dX7_copy_64 : decode cX7_copy 64 = .ok (.iload_n 2, 1) := by decide +kernel
theorem dX7_copy_65 : decode cX7_copy 65 = .ok (.imul, 1) := by decide +kernel
theorem dX7_copy_66 : decode cX7_copy 66 = .ok (.iload_n 3, 1) := by decide +kernel
theorem dX7_copy_67 : decode cX7_copy 67 = .ok (.iadd, 1) := by decide +kernel
theorem dX7_copy_68 : decode cX7_copy 68 = .ok (.aload_n 0, 1) := by decide +kernel
theorem dX7_copy_69 : decode cX7_copy 69 = .ok (.getfield 34, 3) := by decide +kernel
theorem dX7_copy_72 : decode cX7_copy 72 = .ok (.iconst 5, 1) := by decide +kernel
theorem dX7_copy_73 : decode cX7_copy 73 = .ok (.iload_n 1, 1) := by decide +kernel
theorem dX7_copy_74 : decode cX7_copy 74 = .ok (.imul, 1) := by decide +kernel
theorem dX7_copy_75 : decode cX7_copy 75 = .ok (.iload_n 3, 1) := by decide +kernel
theorem dX7_copy_76 : decode cX7_copy 76 = .ok (.iadd, 1) := by decide +kernel
theorem dX7_copy_77 : decode cX7_copy 77 = .ok (.iaload, 1) := by decide +kernel
theorem dX7_copy_78 : decode cX7_copy 78 = .ok (.iastore, 1) := by decide +kernel
theorem dX7_copy_79 : decode cX7_copy 79 = .ok (.iinc 3 1, 3) := by decide +kernel
theorem dX7_copy_82 : decode cX7_copy 82 = .ok (.goto (-68), 3) := by decide +kernel
theorem dX7_copy_85 : decode cX7_copy 85 = .ok (.iconst 0, 1) := by decide +kernel
theorem dX7_copy_86 : decode cX7_copy 86 = .ok (.istore_n 3, 1) := by decide +kernel
theorem dX7_copy_87 : decode cX7_copy 87 = .ok (.iload_n 3, 1) := by decide +kernel
theorem dX7_copy_88 : decode cX7_copy 88 = .ok (.bipush 15, 2) := by decide +kernel
theorem dX7_copy_90 : decode cX7_copy 90 = .ok (.if_icmp .ge 53, 3) := by decide +kernel
theorem dX7_copy_93 : decode cX7_copy 93 = .ok (.aload_n 0, 1) := by decide +kernel
theorem dX7_copy_94 : decode cX7_copy 94 = .ok (.getfield 37, 3) := by decide +kernel
theorem dX7_copy_97 : decode cX7_copy 97 = .ok (.bipush 15, 2) := by decide +kernel
theorem dX7_copy_99 : decode cX7_copy 99 = .ok (.iload_n 2, 1) := by decide +kernel
theorem dX7_copy_100 : decode cX7_copy 100 = .ok (.imul, 1) := by decide +kernel
theorem dX7_copy_101 : decode cX7_copy 101 = .ok (.iload_n 3, 1) := by decide +kernel
theorem dX7_copy_102 : decode cX7_copy 102 = .ok (.iadd, 1) := by decide +kernel
theorem dX7_copy_103 : decode cX7_copy 103 = .ok (.aload_n 0, 1) := by decide +kernel
theorem dX7_copy_104 : decode cX7_copy 104 = .ok (.getfield 37, 3) := by decide +kernel
theorem dX7_copy_107 : decode cX7_copy 107 = .ok (.bipush 15, 2) := by decide +kernel
theorem dX7_copy_109 : decode cX7_copy 109 = .ok (.iload_n 1, 1) := by decide +kernel
theorem dX7_copy_110 : decode cX7_copy 110 = .ok (.imul, 1) := by decide +kernel
theorem dX7_copy_111 : decode cX7_copy 111 = .ok (.iload_n 3, 1) := by decide +kernel
theorem dX7_copy_112 : decode cX7_copy 112 = .ok (.iadd, 1) := by decide +kernel
theorem dX7_copy_113 : decode cX7_copy 113 = .ok (.iaload, 1) := by decide +kernel
theorem dX7_copy_114 : decode cX7_copy 114 = .ok (.iastore, 1) := by decide +kernel
theorem dX7_copy_115 : decode cX7_copy 115 = .ok (.aload_n 0, 1) := by decide +kernel
theorem dX7_copy_116 : decode cX7_copy 116 = .ok (.getfield 40, 3) := by decide +kernel
theorem dX7_copy_119 : decode cX7_copy 119 = .ok (.bipush 15, 2) := by decide +kernel
theorem dX7_copy_121 : decode cX7_copy 121 = .ok (.iload_n 2, 1) := by decide +kernel
theorem dX7_copy_122 : decode cX7_copy 122 = .ok (.imul, 1) := by decide +kernel
theorem dX7_copy_123 : decode cX7_copy 123 = .ok (.iload_n 3, 1) := by decide +kernel
theorem dX7_copy_124 : decode cX7_copy 124 = .ok (.iadd, 1) := by decide +kernel
theorem dX7_copy_125 : decode cX7_copy 125 = .ok (.aload_n 0, 1) := by decide +kernel
theorem dX7_copy_126 : decode cX7_copy 126 = .ok (.getfield 40, 3) := by decide +kernel
theorem dX7_copy_129 : decode cX7_copy 129 = .ok (.bipush 15, 2) := by decide +kernel
theorem dX7_copy_131 : decode cX7_copy 131 = .ok (.iload_n 1, 1) := by decide +kernel
theorem dX7_copy_132 : decode cX7_copy 132 = .ok (.imul, 1) := by decide +kernel
theorem dX7_copy_133 : decode cX7_copy 133 = .ok (.iload_n 3, 1) := by decide +kernel
theorem dX7_copy_134 : decode cX7_copy 134 = .ok (.iadd, 1) := by decide +kernel
theorem dX7_copy_135 : decode cX7_copy 135 = .ok (.iaload, 1) := by decide +kernel
theorem dX7_copy_136 : decode cX7_copy 136 = .ok (.iastore, 1) := by decide +kernel
theorem dX7_copy_137 : decode cX7_copy 137 = .ok (.iinc 3 1, 3) := by decide +kernel
theorem dX7_copy_140 : decode cX7_copy 140 = .ok (.goto (-53), 3) := by decide +kernel
theorem dX7_copy_143 : decode cX7_copy 143 = .ok (.return_, 1) := by decide +kernel
theorem dX7_activate_0 : decode cX7_activate 0 = .ok (.aload_n 0, 1) := by decide +kernel
theorem dX7_activate_1 : decode cX7_activate 1 = .ok (.aload_n 0, 1) := by decide +kernel
theorem dX7_activate_2 : decode cX7_activate 2 = .ok (.getfield 25, 3) := by decide +kernel
theorem dX7_activate_5 : decode cX7_activate 5 = .ok (.iconst 0, 1) := by decide +kernel
theorem dX7_activate_6 : decode cX7_activate 6 = .ok (.iaload, 1) := by decide +kernel
theorem dX7_activate_7 : decode cX7_activate 7 = .ok (.ifCond .ge 7, 3) := by decide +kernel
theorem dX7_activate_10 : decode cX7_activate 10 = .ok (.iconst 1, 1) := by decide +kernel
theorem dX7_activate_11 : decode cX7_activate 11 = .ok (.goto 4, 3) := by decide +kernel
theorem dX7_activate_14 : decode cX7_activate 14 = .ok (.iconst 0, 1) := by decide +kernel
theorem dX7_activate_15 : decode cX7_activate 15 = .ok (.putfield 89, 3) := by decide +kernel
theorem dX7_activate_18 : decode cX7_activate 18 = .ok (.aload_n 0, 1) := by decide +kernel
theorem dX7_activate_19 : decode cX7_activate 19 = .ok (.getfield 89, 3) := by decide +kernel
theorem dX7_activate_22 : decode cX7_activate 22 = .ok (.ifCond .ne 9, 3) := by decide +kernel
theorem dX7_activate_25 : decode cX7_activate 25 = .ok (.aload_n 0, 1) := by decide +kernel
theorem dX7_activate_26 : decode cX7_activate 26 = .ok (.iconst 0, 1) := by decide +kernel
theorem dX7_activate_27 : decode cX7_activate 27 = .ok (.iconst 1, 1) := by decide +kernel
theorem dX7_activate_28 : decode cX7_activate 28 = .ok (.invokevirtual 134, 3) := by decide +kernel
theorem dX7_activate_31 : decode cX7_activate 31 = .ok (.return_, 1) := by decide +kernel
theorem dX7_isQuiet_0 : decode cX7_isQuiet 0 = .ok (.aload_n 0, 1) := by decide +kernel
theorem dX7_isQuiet_1 : decode cX7_isQuiet 1 = .ok (.getfield 138, 3) := by decide +kernel
theorem dX7_isQuiet_4 : decode cX7_isQuiet 4 = .ok (.ifCond .ne 7, 3) := by decide +kernel
theorem dX7_isQuiet_7 : decode cX7_isQuiet 7 = .ok (.iconst 1, 1) := by decide +kernel
theorem dX7_isQuiet_8 : decode cX7_isQuiet 8 = .ok (.goto 4, 3) := by decide +kernel
theorem dX7_isQuiet_11 : decode cX7_isQuiet 11 = .ok (.iconst 0, 1) := by decide +kernel
theorem dX7_isQuiet_12 : decode cX7_isQuiet 12 = .ok (.istore_n 1, 1) := by decide +kernel
theorem dX7_isQuiet_13 : decode cX7_isQuiet 13 = .ok (.iconst 0, 1) := by decide +kernel
theorem dX7_isQuiet_14 : decode cX7_isQuiet 14 = .ok (.istore_n 2, 1) := by decide +kernel
theorem dX7_isQuiet_15 : decode cX7_isQuiet 15 = .ok (.iload_n 2, 1) := by decide +kernel
theorem dX7_isQuiet_16 : decode cX7_isQuiet 16 = .ok (.bipush 6, 2) := by decide +kernel
theorem dX7_isQuiet_18 : decode cX7_isQuiet 18 = .ok (.if_icmp .ge 28, 3) := by decide +kernel
theorem dX7_isQuiet_21 : decode cX7_isQuiet 21 = .ok (.iload_n 1, 1) := by decide +kernel
theorem dX7_isQuiet_22 : decode cX7_isQuiet 22 = .ok (.ifCond .eq 16, 3) := by decide +kernel
theorem dX7_isQuiet_25 : decode cX7_isQuiet 25 = .ok (.aload_n 0, 1) := by decide +kernel
theorem dX7_isQuiet_26 : decode cX7_isQuiet 26 = .ok (.getfield 83, 3) := by decide +kernel
theorem dX7_isQuiet_29 : decode cX7_isQuiet 29 = .ok (.iload_n 2, 1) := by decide +kernel
theorem dX7_isQuiet_30 : decode cX7_isQuiet 30 = .ok (.iaload, 1) := by decide +kernel
theorem dX7_isQuiet_31 : decode cX7_isQuiet 31 = .ok (.ifCond .ne 7, 3) := by decide +kernel
theorem dX7_isQuiet_34 : decode cX7_isQuiet 34 = .ok (.iconst 1, 1) := by decide +kernel
theorem dX7_isQuiet_35 : decode cX7_isQuiet 35 = .ok (.goto 4, 3) := by decide +kernel
theorem dX7_isQuiet_38 : decode cX7_isQuiet 38 = .ok (.iconst 0, 1) := by decide +kernel
theorem dX7_isQuiet_39 : decode cX7_isQuiet 39 = .ok (.istore_n 1, 1) := by decide +kernel
theorem dX7_isQuiet_40 : decode cX7_isQuiet 40 = .ok (.iinc 2 1, 3) := by decide +kernel
theorem dX7_isQuiet_43 : decode cX7_isQuiet 43 = .ok (.goto (-28), 3) := by decide +kernel
theorem dX7_isQuiet_46 : decode cX7_isQuiet 46 = .ok (.iload_n 1, 1) := by decide +kernel
theorem dX7_isQuiet_47 : decode cX7_isQuiet 47 = .ok (.ireturn, 1) := by decide +kernel
theorem dX7_comeIntoForce_0 : decode cX7_comeIntoForce 0 = .ok (.aload_n 0, 1) := by decide +kernel
theorem dX7_comeIntoForce_1 : decode cX7_comeIntoForce 1 = .ok (.iconst 1, 1) := by decide +kernel
theorem dX7_comeIntoForce_2 : decode cX7_comeIntoForce 2 = .ok (.iconst 2, 1) := by decide +kernel
theorem dX7_comeIntoForce_3 : decode cX7_comeIntoForce 3 = .ok (.invokevirtual 134, 3) := by decide +kernel
theorem dX7_comeIntoForce_6 : decode cX7_comeIntoForce 6 = .ok (.aload_n 0, 1) := by decide +kernel
theorem dX7_comeIntoForce_7 : decode cX7_comeIntoForce 7 = .ok (.getfield 25, 3) := by decide +kernel
theorem dX7_comeIntoForce_10 : decode cX7_comeIntoForce 10 = .ok (.iconst 1, 1) := by decide +kernel
theorem dX7_comeIntoForce_11 : decode cX7_comeIntoForce 11 = .ok (.iconst (-1), 1) := by decide +kernel
theorem dX7_comeIntoForce_12 : decode cX7_comeIntoForce 12 = .ok (.iastore, 1) := by decide +kernel
theorem dX7_comeIntoForce_13 : decode cX7_comeIntoForce 13 = .ok (.iconst 0, 1) := by decide +kernel
theorem dX7_comeIntoForce_14 : decode cX7_comeIntoForce 14 = .ok (.istore_n 1, 1) := by decide +kernel
theorem dX7_comeIntoForce_15 : decode cX7_comeIntoForce 15 = .ok (.iload_n 1, 1) := by decide +kernel
theorem dX7_comeIntoForce_16 : decode cX7_comeIntoForce 16 = .ok (.iconst 5, 1) := by decide +kernel
theorem dX7_comeIntoForce_17 : decode cX7_comeIntoForce 17 = .ok (.if_icmp .ge 58, 3) := by decide +kernel
theorem dX7_comeIntoForce_20 : decode cX7_comeIntoForce 20 = .ok (.aload_n 0, 1) := by decide +kernel
theorem dX7_comeIntoForce_21 : decode cX7_comeIntoForce 21 = .ok (.getfield 46, 3) := by decide +kernel
theorem dX7_comeIntoForce_24 : decode cX7_comeIntoForce 24 = .ok (.iload_n 1, 1) := by decide +kernel
theorem dX7_comeIntoForce_25 : decode cX7_comeIntoForce 25 = .ok (.iconst 0, 1) := by decide +kernel
theorem dX7_comeIntoForce_26 : decode cX7_comeIntoForce 26 = .ok (.bastore, 1) := by decide +kernel
theorem dX7_comeIntoForce_27 : decode cX7_comeIntoForce 27 = .ok (.aload_n 0, 1) := by decide +kernel
theorem dX7_comeIntoForce_28 : decode cX7_comeIntoForce 28 = .ok (.getfield 50, 3) := by decide +kernel
theorem dX7_comeIntoForce_31 : decode cX7_comeIntoForce 31 = .ok (.iload_n 1, 1) := by decide +kernel
theorem dX7_comeIntoForce_32 : decode cX7_comeIntoForce 32 = .ok (.iconst 0, 1) := by decide +kernel
theorem dX7_comeIntoForce_33 : decode cX7_comeIntoForce 33 = .ok (.iastore, 1) := by decide +kernel
theorem dX7_comeIntoForce_34 : decode cX7_comeIntoForce 34 = .ok (.aload_n 0, 1) := by decide +kernel
theorem dX7_comeIntoForce_35 : decode cX7_comeIntoForce 35 = .ok (.getfield 53, 3) := by decide +kernel
theorem dX7_comeIntoForce_38 : decode cX7_comeIntoForce 38 = .ok (.iload_n 1, 1) := by decide +kernel
theorem dX7_comeIntoForce_39 : decode cX7_comeIntoForce 39 = .ok (.iconst 0, 1) := by decide +kernel
theorem dX7_comeIntoForce_40 : decode cX7_comeIntoForce 40 = .ok (.bastore, 1) := by decide +kernel
theorem dX7_comeIntoForce_41 : decode cX7_comeIntoForce 41 = .ok (.aload_n 0, 1) := by decide +kernel
theorem dX7_comeIntoForce_42 : decode cX7_comeIntoForce 42 = .ok (.getfield 56, 3) := by decide +kernel
theorem dX7_comeIntoForce_45 : decode cX7_comeIntoForce 45 = .ok (.iload_n 1, 1) := by decide +kernel
theorem dX7_comeIntoForce_46 : decode cX7_comeIntoForce 46 = .ok (.iconst 0, 1) := by decide +kernel
theorem dX7_comeIntoForce_47 : decode cX7_comeIntoForce 47 = .ok (.iastore, 1) := by decide +kernel
theorem dX7_comeIntoForce_48 : decode cX7_comeIntoForce 48 = .ok (.aload_n 0, 1) := by decide +kernel
theorem dX7_comeIntoForce_49 : decode cX7_comeIntoForce 49 = .ok (.getfield 59, 3) := by decide +kernel
theorem dX7_comeIntoForce_52 : decode cX7_comeIntoForce 52 = .ok (.iload_n 1, 1) := by decide +kernel
theorem dX7_comeIntoForce_53 : decode cX7_comeIntoForce 53 = .ok (.iconst 0, 1) := by decide +kernel
theorem dX7_comeIntoForce_54 : decode cX7_comeIntoForce 54 = .ok (.iastore, 1) := by decide +kernel
theorem dX7_comeIntoForce_55 : decode cX7_comeIntoForce 55 = .ok (.aload_n 0, 1) := by decide +kernel
theorem dX7_comeIntoForce_56 : decode cX7_comeIntoForce 56 = .ok (.getfield 62, 3) := by decide +kernel
theorem dX7_comeIntoForce_59 : decode cX7_comeIntoForce 59 = .ok (.iload_n 1, 1) := by decide +kernel
theorem dX7_comeIntoForce_60 : decode cX7_comeIntoForce 60 = .ok (.iconst 0, 1) := by decide +kernel
theorem dX7_comeIntoForce_61 : decode cX7_comeIntoForce 61 = .ok (.iastore, 1) := by decide +kernel
theorem dX7_comeIntoForce_62 : decode cX7_comeIntoForce 62 = .ok (.aload_n 0, 1) := by decide +kernel
theorem dX7_comeIntoForce_63 : decode cX7_comeIntoForce 63 = .ok (.getfield 65, 3) := by decide +kernel
theorem dX7_comeIntoForce_66 : decode cX7_comeIntoForce 66 = .ok (.iload_n 1, 1) := by decide +kernel
theorem dX7_comeIntoForce_67 : decode cX7_comeIntoForce 67 = .ok (.iconst (-1), 1) := by decide +kernel
theorem dX7_comeIntoForce_68 : decode cX7_comeIntoForce 68 = .ok (.iastore, 1) := by decide +kernel
theorem dX7_comeIntoForce_69 : decode cX7_comeIntoForce 69 = .ok (.iinc 1 1, 3) := by decide +kernel
theorem dX7_comeIntoForce_72 : decode cX7_comeIntoForce 72 = .ok (.goto (-57), 3) := by decide +kernel
theorem dX7_comeIntoForce_75 : decode cX7_comeIntoForce 75 = .ok (.return_, 1) := by decide +kernel
theorem dX7_talkAll_0 : decode cX7_talkAll 0 = .ok (.iconst 0, 1) := by decide +kernel
theorem dX7_talkAll_1 : decode cX7_talkAll 1 = .ok (.istore_n 1, 1) := by decide +kernel
theorem dX7_talkAll_2 : decode cX7_talkAll 2 = .ok (.iload_n 1, 1) := by decide +kernel
theorem dX7_talkAll_3 : decode cX7_talkAll 3 = .ok (.aload_n 0, 1) := by decide +kernel
theorem dX7_talkAll_4 : decode cX7_talkAll 4 = .ok (.getfield 25, 3) := by decide +kernel
theorem dX7_talkAll_7 : decode cX7_talkAll 7 = .ok (.iconst 2, 1) := by decide +kernel
theorem dX7_talkAll_8 : decode cX7_talkAll 8 = .ok (.iaload, 1) := by decide +kernel
theorem dX7_talkAll_9 : decode cX7_talkAll 9 = .ok (.if_icmp .ge 128, 3) := by decide +kernel
theorem dX7_talkAll_12 : decode cX7_talkAll 12 = .ok (.aload_n 0, 1) := by decide +kernel
theorem dX7_talkAll_13 : decode cX7_talkAll 13 = .ok (.getfield 141, 3) := by decide +kernel
theorem dX7_talkAll_16 : decode cX7_talkAll 16 = .ok (.aload_n 0, 1) := by decide +kernel
theorem dX7_talkAll_17 : decode cX7_talkAll 17 = .ok (.getfield 50, 3) := by decide +kernel
theorem dX7_talkAll_20 : decode cX7_talkAll 20 = .ok (.iload_n 1, 1) := by decide +kernel
theorem dX7_talkAll_21 : decode cX7_talkAll 21 = .ok (.iaload, 1) := by decide +kernel
theorem dX7_talkAll_22 : decode cX7_talkAll 22 = .ok (.isub, 1) := by decide +kernel
theorem dX7_talkAll_23 : decode cX7_talkAll 23 = .ok (.istore_n 2, 1) := by decide +kernel
theorem dX7_talkAll_24 : decode cX7_talkAll 24 = .ok (.aload_n 0, 1) := by decide +kernel
theorem dX7_talkAll_25 : decode cX7_talkAll 25 = .ok (.getfield 46, 3) := by decide +kernel
theorem dX7_talkAll_28 : decode cX7_talkAll 28 = .ok (.iload_n 1, 1) := by decide +kernel
theorem dX7_talkAll_29 : decode cX7_talkAll 29 = .ok (.baload, 1) := by decide +kernel
theorem dX7_talkAll_30 : decode cX7_talkAll 30 = .ok (.ifCond .ne 101, 3) := by decide +kernel
theorem dX7_talkAll_33 : decode cX7_talkAll 33 = .ok (.iload_n 2, 1) := by decide +kernel
theorem dX7_talkAll_34 : decode cX7_talkAll 34 = .ok (.ifCond .lt 97, 3) := by decide +kernel
theorem dX7_talkAll_37 : decode cX7_talkAll 37 = .ok (.iload_n 2, 1) := by decide +kernel
theorem dX7_talkAll_38 : decode cX7_talkAll 38 = .ok (.aload_n 0, 1) := by decide +kernel
theorem dX7_talkAll_39 : decode cX7_talkAll 39 = .ok (.getfield 28, 3) := by decide +kernel
theorem dX7_talkAll_42 : decode cX7_talkAll 42 = .ok (.bipush 10, 2) := by decide +kernel
theorem dX7_talkAll_44 : decode cX7_talkAll 44 = .ok (.iload_n 1, 1) := by decide +kernel
theorem dX7_talkAll_45 : decode cX7_talkAll 45 = .ok (.iadd, 1) := by decide +kernel
theorem dX7_talkAll_46 : decode cX7_talkAll 46 = .ok (.iaload, 1) := by decide +kernel
theorem dX7_talkAll_47 : decode cX7_talkAll 47 = .ok (.irem, 1) := by decide +kernel
theorem dX7_talkAll_48 : decode cX7_talkAll 48 = .ok (.aload_n 0, 1) := by decide +kernel
theorem dX7_talkAll_49 : decode cX7_talkAll 49 = .ok (.getfield 34, 3) := by decide +kernel
theorem dX7_talkAll_52 : decode cX7_talkAll 52 = .ok (.bipush 10, 2) := by decide +kernel
theorem dX7_talkAll_54 : decode cX7_talkAll 54 = .ok (.iload_n 1, 1) := by decide +kernel
theorem dX7_talkAll_55 : decode cX7_talkAll 55 = .ok (.iadd, 1) := by decide +kernel
theorem dX7_talkAll_56 : decode cX7_talkAll 56 = .ok (.iaload, 1) := by decide +kernel
theorem dX7_talkAll_57 : decode cX7_talkAll 57 = .ok (.if_icmp .ne 74, 3) := by decide +kernel
theorem dX7_talkAll_60 : decode cX7_talkAll 60 = .ok (.aload_n 0, 1) := by decide +kernel
theorem dX7_talkAll_61 : decode cX7_talkAll 61 = .ok (.getfield 50, 3) := by decide +kernel
theorem dX7_talkAll_64 : decode cX7_talkAll 64 = .ok (.iload_n 1, 1) := by decide +kernel
theorem dX7_talkAll_65 : decode cX7_talkAll 65 = .ok (.iaload, 1) := by decide +kernel
theorem dX7_talkAll_66 : decode cX7_talkAll 66 = .ok (.ifCond .gt 12, 3) := by decide +kernel
theorem dX7_talkAll_69 : decode cX7_talkAll 69 = .ok (.aload_n 0, 1) := by decide +kernel
theorem dX7_talkAll_70 : decode cX7_talkAll 70 = .ok (.getfield 53, 3) := by decide +kernel
theorem dX7_talkAll_73 : decode cX7_talkAll 73 = .ok (.iload_n 1, 1) := by decide +kernel
theorem dX7_talkAll_74 : decode cX7_talkAll 74 = .ok (.baload, 1) := by decide +kernel
theorem dX7_talkAll_75 : decode cX7_talkAll 75 = .ok (.ifCond .eq 23, 3) := by decide +kernel
theorem dX7_talkAll_78 : decode cX7_talkAll 78 = .ok (.aload_n 0, 1) := by decide +kernel
theorem dX7_talkAll_79 : decode cX7_talkAll 79 = .ok (.getfield 62, 3) := by decide +kernel
theorem dX7_talkAll_82 : decode cX7_talkAll 82 = .ok (.iload_n 1, 1) := by decide +kernel
theorem dX7_talkAll_83 : decode cX7_talkAll 83 = .ok (.dup2, 1) := by decide +kernel
theorem dX7_talkAll_84 : decode cX7_talkAll 84 = .ok (.iaload, 1) := by decide +kernel
theorem dX7_talkAll_85 : decode cX7_talkAll 85 = .ok (.iconst 1, 1) := by decide +kernel
theorem dX7_talkAll_86 : decode cX7_talkAll 86 = .ok (.iadd, 1) := by decide +kernel
theorem dX7_talkAll_87 : decode cX7_talkAll 87 = .ok (.iastore, 1) := by decide +kernel
theorem dX7_talkAll_88 : decode cX7_talkAll 88 = .ok (.aload_n 0, 1) := by decide +kernel
theorem dX7_talkAll_89 : decode cX7_talkAll 89 = .ok (.getfield 53, 3) := by decide +kernel
theorem dX7_talkAll_92 : decode cX7_talkAll 92 = .ok (.iload_n 1, 1) := by decide +kernel
theorem dX7_talkAll_93 : decode cX7_talkAll 93 = .ok (.iconst 1, 1) := by decide +kernel
theorem dX7_talkAll_94 : decode cX7_talkAll 94 = .ok (.bastore, 1) := by decide +kernel
theorem dX7_talkAll_95 : decode cX7_talkAll 95 = .ok (.goto 36, 3) := by decide +kernel
theorem dX7_talkAll_98 : decode cX7_talkAll 98 = .ok (.aload_n 0, 1) := by decide +kernel
theorem dX7_talkAll_99 : decode cX7_talkAll 99 = .ok (.getfield 68, 3) := by decide +kernel
theorem dX7_talkAll_102 : decode cX7_talkAll 102 = .ok (.aload_n 0, 1) := by decide +kernel
theorem dX7_talkAll_103 : decode cX7_talkAll 103 = .ok (.getfield 138, 3) := by decide +kernel
theorem dX7_talkAll_106 : decode cX7_talkAll 106 = .ok (.iload_n 1, 1) := by decide +kernel
theorem dX7_talkAll_107 : decode cX7_talkAll 107 = .ok (.iastore, 1) := by decide +kernel
theorem dX7_talkAll_108 : decode cX7_talkAll 108 = .ok (.aload_n 0, 1) := by decide +kernel
theorem dX7_talkAll_109 : decode cX7_talkAll 109 = .ok (.getfield 71, 3) := by decide +kernel
theorem dX7_talkAll_112 : decode cX7_talkAll 112 = .ok (.aload_n 0, 1) := by decide +kernel
theorem dX7_talkAll_113 : decode cX7_talkAll 113 = .ok (.getfield 138, 3) := by decide +kernel
theorem dX7_talkAll_116 : decode cX7_talkAll 116 = .ok (.aload_n 0, 1) := by decide +kernel
theorem dX7_talkAll_117 : decode cX7_talkAll 117 = .ok (.getfield 141, 3) := by decide +kernel
theorem dX7_talkAll_120 : decode cX7_talkAll 120 = .ok (.iastore, 1) := by decide +kernel
theorem dX7_talkAll_121 : decode cX7_talkAll 121 = .ok (.aload_n 0, 1) := by decide +kernel
theorem dX7_talkAll_122 : decode cX7_talkAll 122 = .ok (.dup, 1) := by decide +kernel
theorem dX7_talkAll_123 : decode cX7_talkAll 123 = .ok (.getfield 138, 3) := by decide +kernel
theorem dX7_talkAll_126 : decode cX7_talkAll 126 = .ok (.iconst 1, 1) := by decide +kernel
theorem dX7_talkAll_127 : decode cX7_talkAll 127 = .ok (.iadd, 1) := by decide +kernel
theorem dX7_talkAll_128 : decode cX7_talkAll 128 = .ok (.putfield 138, 3) := by decide +kernel
theorem dX7_talkAll_131 : decode cX7_talkAll 131 = .ok (.iinc 1 1, 3) := by decide +kernel
theorem dX7_talkAll_134 : decode cX7_talkAll 134 = .ok (.goto (-132), 3) := by decide +kernel
theorem dX7_talkAll_137 : decode cX7_talkAll 137 = .ok (.return_, 1) := by decide +kernel
theorem dX7_linkOf_0 : decode cX7_linkOf 0 = .ok (.aload_n 0, 1) := by decide +kernel
theorem dX7_linkOf_1 : decode cX7_linkOf 1 = .ok (.getfield 37, 3) := by decide +kernel
theorem dX7_linkOf_4 : decode cX7_linkOf 4 = .ok (.bipush 30, 2) := by decide +kernel
theorem dX7_linkOf_6 : decode cX7_linkOf 6 = .ok (.iconst 3, 1) := by decide +kernel
theorem dX7_linkOf_7 : decode cX7_linkOf 7 = .ok (.iload_n 1, 1) := by decide +kernel
theorem dX7_linkOf_8 : decode cX7_linkOf 8 = .ok (.imul, 1) := by decide +kernel
theorem dX7_linkOf_9 : decode cX7_linkOf 9 = .ok (.iadd, 1) := by decide +kernel
theorem dX7_linkOf_10 : decode cX7_linkOf 10 = .ok (.iload_n 2, 1) := by decide +kernel
theorem dX7_linkOf_11 : decode cX7_linkOf 11 = .ok (.iadd, 1) := by decide +kernel
theorem dX7_linkOf_12 : decode cX7_linkOf 12 = .ok (.iaload, 1) := by decide +kernel
theorem dX7_linkOf_13 : decode cX7_linkOf 13 = .ok (.ireturn, 1) := by decide +kernel
theorem dX7_beginOf_0 : decode cX7_beginOf 0 = .ok (.aload_n 0, 1) := by decide +kernel
theorem dX7_beginOf_1 : decode cX7_beginOf 1 = .ok (.getfield 71, 3) := by decide +kernel
theorem dX7_beginOf_4 : decode cX7_beginOf 4 = .ok (.iload_n 1, 1) := by decide +kernel
theorem dX7_beginOf_5 : decode cX7_beginOf 5 = .ok (.iaload, 1) := by decide +kernel
theorem dX7_beginOf_6 : decode cX7_beginOf 6 = .ok (.aload_n 0, 1) := by decide +kernel
theorem dX7_beginOf_7 : decode cX7_beginOf 7 = .ok (.iconst 2, 1) := by decide +kernel
theorem dX7_beginOf_8 : decode cX7_beginOf 8 = .ok (.aload_n 0, 1) := by decide +kernel
theorem dX7_beginOf_9 : decode cX7_beginOf 9 = .ok (.getfield 68, 3) := by decide +kernel
theorem dX7_beginOf_12 : decode cX7_beginOf 12 = .ok (.iload_n 1, 1) := by decide +kernel
theorem dX7_beginOf_13 : decode cX7_beginOf 13 = .ok (.iaload, 1) := by decide +kernel
theorem dX7_beginOf_14 : decode cX7_beginOf 14 = .ok (.iload_n 2, 1) := by decide +kernel
theorem dX7_beginOf_15 : decode cX7_beginOf 15 = .ok (.invokevirtual 127, 3) := by decide +kernel
theorem dX7_beginOf_18 : decode cX7_beginOf 18 = .ok (.iadd, 1) := by decide +kernel
theorem dX7_beginOf_19 : decode cX7_beginOf 19 = .ok (.ireturn, 1) := by decide +kernel
theorem dX7_throughOf_0 : decode cX7_throughOf 0 = .ok (.aload_n 0, 1) := by decide +kernel
theorem dX7_throughOf_1 : decode cX7_throughOf 1 = .ok (.getfield 68, 3) := by decide +kernel
theorem dX7_throughOf_4 : decode cX7_throughOf 4 = .ok (.iload_n 1, 1) := by decide +kernel
theorem dX7_throughOf_5 : decode cX7_throughOf 5 = .ok (.iaload, 1) := by decide +kernel
theorem dX7_throughOf_6 : decode cX7_throughOf 6 = .ok (.istore_n 3, 1) := by decide +kernel
theorem dX7_throughOf_7 : decode cX7_throughOf 7 = .ok (.aload_n 0, 1) := by decide +kernel
theorem dX7_throughOf_8 : decode cX7_throughOf 8 = .ok (.iload_n 1, 1) := by decide +kernel
theorem dX7_throughOf_9 : decode cX7_throughOf 9 = .ok (.iload_n 2, 1) := by decide +kernel
theorem dX7_throughOf_10 : decode cX7_throughOf 10 = .ok (.invokevirtual 144, 3) := by decide +kernel
theorem dX7_throughOf_13 : decode cX7_throughOf 13 = .ok (.aload_n 0, 1) := by decide +kernel
theorem dX7_throughOf_14 : decode cX7_throughOf 14 = .ok (.getfield 31, 3) := by decide +kernel
theorem dX7_throughOf_17 : decode cX7_throughOf 17 = .ok (.bipush 10, 2) := by decide +kernel
theorem dX7_throughOf_19 : decode cX7_throughOf 19 = .ok (.iload_n 3, 1) := by decide +kernel
theorem dX7_throughOf_20 : decode cX7_throughOf 20 = .ok (.iadd, 1) := by decide +kernel
theorem dX7_throughOf_21 : decode cX7_throughOf 21 = .ok (.iaload, 1) := by decide +kernel
theorem dX7_throughOf_22 : decode cX7_throughOf 22 = .ok (.iadd, 1) := by decide +kernel
theorem dX7_throughOf_23 : decode cX7_throughOf 23 = .ok (.aload_n 0, 1) := by decide +kernel
theorem dX7_throughOf_24 : decode cX7_throughOf 24 = .ok (.getfield 40, 3) := by decide +kernel
theorem dX7_throughOf_27 : decode cX7_throughOf 27 = .ok (.bipush 30, 2) := by decide +kernel
theorem dX7_throughOf_29 : decode cX7_throughOf 29 = .ok (.iconst 3, 1) := by decide +kernel
theorem dX7_throughOf_30 : decode cX7_throughOf 30 = .ok (.iload_n 3, 1) := by decide +kernel
theorem dX7_throughOf_31 : decode cX7_throughOf 31 = .ok (.imul, 1) := by decide +kernel
theorem dX7_throughOf_32 : decode cX7_throughOf 32 = .ok (.iadd, 1) := by decide +kernel
theorem dX7_throughOf_33 : decode cX7_throughOf 33 = .ok (.iload_n 2, 1) := by decide +kernel
theorem dX7_throughOf_34 : decode cX7_throughOf 34 = .ok (.iadd, 1) := by decide +kernel
theorem dX7_throughOf_35 : decode cX7_throughOf 35 = .ok (.iaload, 1) := by decide +kernel
theorem dX7_throughOf_36 : decode cX7_throughOf 36 = .ok (.iadd, 1) := by decide +kernel
theorem dX7_throughOf_37 : decode cX7_throughOf 37 = .ok (.ireturn, 1) := by decide +kernel
theorem dX7_lastOf_0 : decode cX7_lastOf 0 = .ok (.aload_n 0, 1) := by decide +kernel
theorem dX7_lastOf_1 : decode cX7_lastOf 1 = .ok (.iload_n 1, 1) := by decide +kernel
theorem dX7_lastOf_2 : decode cX7_lastOf 2 = .ok (.iconst 2, 1) := by decide +kernel
theorem dX7_lastOf_3 : decode cX7_lastOf 3 = .ok (.invokevirtual 147, 3) := by decide +kernel
theorem dX7_lastOf_6 : decode cX7_lastOf 6 = .ok (.ifCond .lt 7, 3) := by decide +kernel
theorem dX7_lastOf_9 : decode cX7_lastOf 9 = .ok (.iconst 2, 1) := by decide +kernel
theorem dX7_lastOf_10 : decode cX7_lastOf 10 = .ok (.goto 17, 3) := by decide +kernel
theorem dX7_lastOf_13 : decode cX7_lastOf 13 = .ok (.aload_n 0, 1) := by decide +kernel
theorem dX7_lastOf_14 : decode cX7_lastOf 14 = .ok (.iload_n 1, 1) := by decide +kernel
theorem dX7_lastOf_15 : decode cX7_lastOf 15 = .ok (.iconst 1, 1) := by decide +kernel
theorem dX7_lastOf_16 : decode cX7_lastOf 16 = .ok (.invokevirtual 147, 3) := by decide +kernel
theorem dX7_lastOf_19 : decode cX7_lastOf 19 = .ok (.ifCond .lt 7, 3) := by decide +kernel
theorem dX7_lastOf_22 : decode cX7_lastOf 22 = .ok (.iconst 1, 1) := by decide +kernel
theorem dX7_lastOf_23 : decode cX7_lastOf 23 = .ok (.goto 4, 3) := by decide +kernel
theorem dX7_lastOf_26 : decode cX7_lastOf 26 = .ok (.iconst 0, 1) := by decide +kernel
theorem dX7_lastOf_27 : decode cX7_lastOf 27 = .ok (.ireturn, 1) := by decide +kernel
theorem dX7_remove_0 : decode cX7_remove 0 = .ok (.aload_n 0, 1) := by decide +kernel
theorem dX7_remove_1 : decode cX7_remove 1 = .ok (.dup, 1) := by decide +kernel
theorem dX7_remove_2 : decode cX7_remove 2 = .ok (.getfield 138, 3) := by decide +kernel
theorem dX7_remove_5 : decode cX7_remove 5 = .ok (.iconst 1, 1) := by decide +kernel
theorem dX7_remove_6 : decode cX7_remove 6 = .ok (.isub, 1) := by decide +kernel
theorem dX7_remove_7 : decode cX7_remove 7 = .ok (.putfield 138, 3) := by decide +kernel
theorem dX7_remove_10 : decode cX7_remove 10 = .ok (.iload_n 1, 1) := by decide +kernel
theorem dX7_remove_11 : decode cX7_remove 11 = .ok (.istore_n 2, 1) := by decide +kernel
theorem dX7_remove_12 : decode cX7_remove 12 = .ok (.iload_n 2, 1) := by decide +kernel
theorem dX7_remove_13 : decode cX7_remove 13 = .ok (.aload_n 0, 1) := by decide +kernel
theorem dX7_remove_14 : decode cX7_remove 14 = .ok (.getfield 138, 3) := by decide +kernel
theorem dX7_remove_17 : decode cX7_remove 17 = .ok (.if_icmp .ge 37, 3) := by decide +kernel
theorem dX7_remove_20 : decode cX7_remove 20 = .ok (.aload_n 0, 1) := by decide +kernel
theorem dX7_remove_21 : decode cX7_remove 21 = .ok (.getfield 68, 3) := by decide +kernel
theorem dX7_remove_24 : decode cX7_remove 24 = .ok (.iload_n 2, 1) := by decide +kernel
theorem dX7_remove_25 : decode cX7_remove 25 = .ok (.aload_n 0, 1) := by decide +kernel
theorem dX7_remove_26 : decode cX7_remove 26 = .ok (.getfield 68, 3) := by decide +kernel
theorem dX7_remove_29 : decode cX7_remove 29 = .ok (.iload_n 2, 1) := by decide +kernel
theorem dX7_remove_30 : decode cX7_remove 30 = .ok (.iconst 1, 1) := by decide +kernel
theorem dX7_remove_31 : decode cX7_remove 31 = .ok (.iadd, 1) := by decide +kernel
theorem dX7_remove_32 : decode cX7_remove 32 = .ok (.iaload, 1) := by decide +kernel
theorem dX7_remove_33 : decode cX7_remove 33 = .ok (.iastore, 1) := by decide +kernel
theorem dX7_remove_34 : decode cX7_remove 34 = .ok (.aload_n 0, 1) := by decide +kernel
theorem dX7_remove_35 : decode cX7_remove 35 = .ok (.getfield 71, 3) := by decide +kernel
theorem dX7_remove_38 : decode cX7_remove 38 = .ok (.iload_n 2, 1) := by decide +kernel
theorem dX7_remove_39 : decode cX7_remove 39 = .ok (.aload_n 0, 1) := by decide +kernel
theorem dX7_remove_40 : decode cX7_remove 40 = .ok (.getfield 71, 3) := by decide +kernel
theorem dX7_remove_43 : decode cX7_remove 43 = .ok (.iload_n 2, 1) := by decide +kernel
theorem dX7_remove_44 : decode cX7_remove 44 = .ok (.iconst 1, 1) := by decide +kernel
theorem dX7_remove_45 : decode cX7_remove 45 = .ok (.iadd, 1) := by decide +kernel
theorem dX7_remove_46 : decode cX7_remove 46 = .ok (.iaload, 1) := by decide +kernel
theorem dX7_remove_47 : decode cX7_remove 47 = .ok (.iastore, 1) := by decide +kernel
theorem dX7_remove_48 : decode cX7_remove 48 = .ok (.iinc 2 1, 3) := by decide +kernel
theorem dX7_remove_51 : decode cX7_remove 51 = .ok (.goto (-39), 3) := by decide +kernel
theorem dX7_remove_54 : decode cX7_remove 54 = .ok (.return_, 1) := by decide +kernel
theorem dX7_isLost_0 : decode cX7_isLost 0 = .ok (.iconst 0, 1) := by decide +kernel
theorem dX7_isLost_1 : decode cX7_isLost 1 = .ok (.istore_n 2, 1) := by decide +kernel
theorem dX7_isLost_2 : decode cX7_isLost 2 = .ok (.iconst 0, 1) := by decide +kernel
theorem dX7_isLost_3 : decode cX7_isLost 3 = .ok (.istore_n 3, 1) := by decide +kernel
theorem dX7_isLost_4 : decode cX7_isLost 4 = .ok (.iload_n 3, 1) := by decide +kernel
theorem dX7_isLost_5 : decode cX7_isLost 5 = .ok (.aload_n 0, 1) := by decide +kernel
theorem dX7_isLost_6 : decode cX7_isLost 6 = .ok (.aload_n 0, 1) := by decide +kernel
theorem dX7_isLost_7 : decode cX7_isLost 7 = .ok (.getfield 68, 3) := by decide +kernel
theorem dX7_isLost_10 : decode cX7_isLost 10 = .ok (.iload_n 1, 1) := by decide +kernel
theorem dX7_isLost_11 : decode cX7_isLost 11 = .ok (.iaload, 1) := by decide +kernel
theorem dX7_isLost_12 : decode cX7_isLost 12 = .ok (.invokevirtual 150, 3) := by decide +kernel
theorem dX7_isLost_15 : decode cX7_isLost 15 = .ok (.if_icmp .gt 51, 3) := by decide +kernel
theorem dX7_isLost_18 : decode cX7_isLost 18 = .ok (.iload_n 2, 1) := by decide +kernel
theorem dX7_isLost_19 : decode cX7_isLost 19 = .ok (.ifCond .ne 35, 3) := by decide +kernel
theorem dX7_isLost_22 : decode cX7_isLost 22 = .ok (.aload_n 0, 1) := by decide +kernel
theorem dX7_isLost_23 : decode cX7_isLost 23 = .ok (.iload_n 1, 1) := by decide +kernel
theorem dX7_isLost_24 : decode cX7_isLost 24 = .ok (.iload_n 3, 1) := by decide +kernel
theorem dX7_isLost_25 : decode cX7_isLost 25 = .ok (.invokevirtual 144, 3) := by decide +kernel
theorem dX7_isLost_28 : decode cX7_isLost 28 = .ok (.aload_n 0, 1) := by decide +kernel
theorem dX7_isLost_29 : decode cX7_isLost 29 = .ok (.getfield 141, 3) := by decide +kernel
theorem dX7_isLost_32 : decode cX7_isLost 32 = .ok (.if_icmp .ne 26, 3) := by decide +kernel
theorem dX7_isLost_35 : decode cX7_isLost 35 = .ok (.aload_n 0, 1) := by decide +kernel
theorem dX7_isLost_36 : decode cX7_isLost 36 = .ok (.getfield 74, 3) := by decide +kernel
theorem dX7_isLost_39 : decode cX7_isLost 39 = .ok (.aload_n 0, 1) := by decide +kernel
theorem dX7_isLost_40 : decode cX7_isLost 40 = .ok (.aload_n 0, 1) := by decide +kernel
theorem dX7_isLost_41 : decode cX7_isLost 41 = .ok (.getfield 68, 3) := by decide +kernel
theorem dX7_isLost_44 : decode cX7_isLost 44 = .ok (.iload_n 1, 1) := by decide +kernel
theorem dX7_isLost_45 : decode cX7_isLost 45 = .ok (.iaload, 1) := by decide +kernel
theorem dX7_isLost_46 : decode cX7_isLost 46 = .ok (.iload_n 3, 1) := by decide +kernel
theorem dX7_isLost_47 : decode cX7_isLost 47 = .ok (.invokevirtual 147, 3) := by decide +kernel
theorem dX7_isLost_50 : decode cX7_isLost 50 = .ok (.baload, 1) := by decide +kernel
theorem dX7_isLost_51 : decode cX7_isLost 51 = .ok (.ifCond .eq 7, 3) := by decide +kernel
theorem dX7_isLost_54 : decode cX7_isLost 54 = .ok (.iconst 1, 1) := by decide +kernel
theorem dX7_isLost_55 : decode cX7_isLost 55 = .ok (.goto 4, 3) := by decide +kernel
theorem dX7_isLost_58 : decode cX7_isLost 58 = .ok (.iconst 0, 1) := by decide +kernel
theorem dX7_isLost_59 : decode cX7_isLost 59 = .ok (.istore_n 2, 1) := by decide +kernel
theorem dX7_isLost_60 : decode cX7_isLost 60 = .ok (.iinc 3 1, 3) := by decide +kernel
theorem dX7_isLost_63 : decode cX7_isLost 63 = .ok (.goto (-59), 3) := by decide +kernel
theorem dX7_isLost_66 : decode cX7_isLost 66 = .ok (.iload_n 2, 1) := by decide +kernel
theorem dX7_isLost_67 : decode cX7_isLost 67 = .ok (.ireturn, 1) := by decide +kernel
theorem dX7_flyAll_0 : decode cX7_flyAll 0 = .ok (.aload_n 0, 1) := by decide +kernel
theorem dX7_flyAll_1 : decode cX7_flyAll 1 = .ok (.getfield 138, 3) := by decide +kernel
theorem dX7_flyAll_4 : decode cX7_flyAll 4 = .ok (.iconst 1, 1) := by decide +kernel
theorem dX7_flyAll_5 : decode cX7_flyAll 5 = .ok (.isub, 1) := by decide +kernel
theorem dX7_flyAll_6 : decode cX7_flyAll 6 = .ok (.istore_n 1, 1) := by decide +kernel
theorem dX7_flyAll_7 : decode cX7_flyAll 7 = .ok (.iload_n 1, 1) := by decide +kernel
theorem dX7_flyAll_8 : decode cX7_flyAll 8 = .ok (.ifCond .lt 39, 3) := by decide +kernel
theorem dX7_flyAll_11 : decode cX7_flyAll 11 = .ok (.aload_n 0, 1) := by decide +kernel
theorem dX7_flyAll_12 : decode cX7_flyAll 12 = .ok (.getfield 68, 3) := by decide +kernel
theorem dX7_flyAll_15 : decode cX7_flyAll 15 = .ok (.iload_n 1, 1) := by decide +kernel
theorem dX7_flyAll_16 : decode cX7_flyAll 16 = .ok (.iaload, 1) := by decide +kernel
theorem dX7_flyAll_17 : decode cX7_flyAll 17 = .ok (.istore_n 2, 1) := by decide +kernel
theorem dX7_flyAll_18 : decode cX7_flyAll 18 = .ok (.aload_n 0, 1) := by decide +kernel
theorem dX7_flyAll_19 : decode cX7_flyAll 19 = .ok (.iload_n 1, 1) := by decide +kernel
theorem dX7_flyAll_20 : decode cX7_flyAll 20 = .ok (.invokevirtual 154, 3) := by decide +kernel
theorem dX7_flyAll_23 : decode cX7_flyAll 23 = .ok (.ifCond .eq 18, 3) := by decide +kernel
theorem dX7_flyAll_26 : decode cX7_flyAll 26 = .ok (.aload_n 0, 1) := by decide +kernel
theorem dX7_flyAll_27 : decode cX7_flyAll 27 = .ok (.getfield 59, 3) := by decide +kernel
theorem dX7_flyAll_30 : decode cX7_flyAll 30 = .ok (.iload_n 2, 1) := by decide +kernel
theorem dX7_flyAll_31 : decode cX7_flyAll 31 = .ok (.dup2, 1) := by decide +kernel
theorem dX7_flyAll_32 : decode cX7_flyAll 32 = .ok (.iaload, 1) := by decide +kernel
theorem dX7_flyAll_33 : decode cX7_flyAll 33 = .ok (.iconst 1, 1) := by decide +kernel
theorem dX7_flyAll_34 : decode cX7_flyAll 34 = .ok (.iadd, 1) := by decide +kernel
theorem dX7_flyAll_35 : decode cX7_flyAll 35 = .ok (.iastore, 1) := by decide +kernel
theorem dX7_flyAll_36 : decode cX7_flyAll 36 = .ok (.aload_n 0, 1) := by decide +kernel
theorem dX7_flyAll_37 : decode cX7_flyAll 37 = .ok (.iload_n 1, 1) := by decide +kernel
theorem dX7_flyAll_38 : decode cX7_flyAll 38 = .ok (.invokevirtual 157, 3) := by decide +kernel
theorem dX7_flyAll_41 : decode cX7_flyAll 41 = .ok (.iinc 1 (-1), 3) := by decide +kernel
theorem dX7_flyAll_44 : decode cX7_flyAll 44 = .ok (.goto (-37), 3) := by decide +kernel
theorem dX7_flyAll_47 : decode cX7_flyAll 47 = .ok (.iconst 0, 1) := by decide +kernel
theorem dX7_flyAll_48 : decode cX7_flyAll 48 = .ok (.istore_n 1, 1) := by decide +kernel
theorem dX7_flyAll_49 : decode cX7_flyAll 49 = .ok (.iload_n 1, 1) := by decide +kernel
theorem dX7_flyAll_50 : decode cX7_flyAll 50 = .ok (.aload_n 0, 1) := by decide +kernel
theorem dX7_flyAll_51 : decode cX7_flyAll 51 = .ok (.getfield 138, 3) := by decide +kernel
theorem dX7_flyAll_54 : decode cX7_flyAll 54 = .ok (.if_icmp .ge 68, 3) := by decide +kernel
theorem dX7_flyAll_57 : decode cX7_flyAll 57 = .ok (.aload_n 0, 1) := by decide +kernel
theorem dX7_flyAll_58 : decode cX7_flyAll 58 = .ok (.getfield 68, 3) := by decide +kernel
theorem dX7_flyAll_61 : decode cX7_flyAll 61 = .ok (.iload_n 1, 1) := by decide +kernel
theorem dX7_flyAll_62 : decode cX7_flyAll 62 = .ok (.iaload, 1) := by decide +kernel
theorem dX7_flyAll_63 : decode cX7_flyAll 63 = .ok (.istore_n 2, 1) := by decide +kernel
theorem dX7_flyAll_64 : decode cX7_flyAll 64 = .ok (.aload_n 0, 1) := by decide +kernel
theorem dX7_flyAll_65 : decode cX7_flyAll 65 = .ok (.iload_n 1, 1) := by decide +kernel
theorem dX7_flyAll_66 : decode cX7_flyAll 66 = .ok (.aload_n 0, 1) := by decide +kernel
theorem dX7_flyAll_67 : decode cX7_flyAll 67 = .ok (.iload_n 2, 1) := by decide +kernel
theorem dX7_flyAll_68 : decode cX7_flyAll 68 = .ok (.invokevirtual 150, 3) := by decide +kernel
theorem dX7_flyAll_71 : decode cX7_flyAll 71 = .ok (.invokevirtual 161, 3) := by decide +kernel
theorem dX7_flyAll_74 : decode cX7_flyAll 74 = .ok (.aload_n 0, 1) := by decide +kernel
theorem dX7_flyAll_75 : decode cX7_flyAll 75 = .ok (.getfield 141, 3) := by decide +kernel
theorem dX7_flyAll_78 : decode cX7_flyAll 78 = .ok (.if_icmp .ne 38, 3) := by decide +kernel
theorem dX7_flyAll_81 : decode cX7_flyAll 81 = .ok (.aload_n 0, 1) := by decide +kernel
theorem dX7_flyAll_82 : decode cX7_flyAll 82 = .ok (.getfield 56, 3) := by decide +kernel
theorem dX7_flyAll_85 : decode cX7_flyAll 85 = .ok (.iload_n 2, 1) := by decide +kernel
theorem dX7_flyAll_86 : decode cX7_flyAll 86 = .ok (.dup2, 1) := by decide +kernel
theorem dX7_flyAll_87 : decode cX7_flyAll 87 = .ok (.iaload, 1) := by decide +kernel
theorem dX7_flyAll_88 : decode cX7_flyAll 88 = .ok (.iconst 1, 1) := by decide +kernel
theorem dX7_flyAll_89 : decode cX7_flyAll 89 = .ok (.iadd, 1) := by decide +kernel
theorem dX7_flyAll_90 : decode cX7_flyAll 90 = .ok (.iastore, 1) := by decide +kernel
theorem dX7_flyAll_91 : decode cX7_flyAll 91 = .ok (.aload_n 0, 1) := by decide +kernel
theorem dX7_flyAll_92 : decode cX7_flyAll 92 = .ok (.getfield 65, 3) := by decide +kernel
theorem dX7_flyAll_95 : decode cX7_flyAll 95 = .ok (.iload_n 2, 1) := by decide +kernel
theorem dX7_flyAll_96 : decode cX7_flyAll 96 = .ok (.aload_n 0, 1) := by decide +kernel
theorem dX7_flyAll_97 : decode cX7_flyAll 97 = .ok (.getfield 141, 3) := by decide +kernel
theorem dX7_flyAll_100 : decode cX7_flyAll 100 = .ok (.aload_n 0, 1) := by decide +kernel
theorem dX7_flyAll_101 : decode cX7_flyAll 101 = .ok (.getfield 71, 3) := by decide +kernel
theorem dX7_flyAll_104 : decode cX7_flyAll 104 = .ok (.iload_n 1, 1) := by decide +kernel
theorem dX7_flyAll_105 : decode cX7_flyAll 105 = .ok (.iaload, 1) := by decide +kernel
theorem dX7_flyAll_106 : decode cX7_flyAll 106 = .ok (.isub, 1) := by decide +kernel
theorem dX7_flyAll_107 : decode cX7_flyAll 107 = .ok (.iastore, 1) := by decide +kernel
theorem dX7_flyAll_108 : decode cX7_flyAll 108 = .ok (.aload_n 0, 1) := by decide +kernel
theorem dX7_flyAll_109 : decode cX7_flyAll 109 = .ok (.iload_n 1, 1) := by decide +kernel
theorem dX7_flyAll_110 : decode cX7_flyAll 110 = .ok (.invokevirtual 157, 3) := by decide +kernel
theorem dX7_flyAll_113 : decode cX7_flyAll 113 = .ok (.goto 6, 3) := by decide +kernel
theorem dX7_flyAll_116 : decode cX7_flyAll 116 = .ok (.iinc 1 1, 3) := by decide +kernel
theorem dX7_flyAll_119 : decode cX7_flyAll 119 = .ok (.goto (-70), 3) := by decide +kernel
theorem dX7_flyAll_122 : decode cX7_flyAll 122 = .ok (.return_, 1) := by decide +kernel
theorem dX7_isFree_0 : decode cX7_isFree 0 = .ok (.iconst 1, 1) := by decide +kernel
theorem dX7_isFree_1 : decode cX7_isFree 1 = .ok (.istore_n 3, 1) := by decide +kernel
theorem dX7_isFree_2 : decode cX7_isFree 2 = .ok (.iconst 0, 1) := by decide +kernel
theorem dX7_isFree_3 : decode cX7_isFree 3 = .ok (.istore 4, 2) := by decide +kernel
theorem dX7_isFree_5 : decode cX7_isFree 5 = .ok (.iload 4, 2) := by decide +kernel
theorem dX7_isFree_7 : decode cX7_isFree 7 = .ok (.iload_n 2, 1) := by decide +kernel
theorem dX7_isFree_8 : decode cX7_isFree 8 = .ok (.if_icmp .ge 44, 3) := by decide +kernel
theorem dX7_isFree_11 : decode cX7_isFree 11 = .ok (.aload_n 0, 1) := by decide +kernel
theorem dX7_isFree_12 : decode cX7_isFree 12 = .ok (.getfield 25, 3) := by decide +kernel
theorem dX7_isFree_15 : decode cX7_isFree 15 = .ok (.iconst 2, 1) := by decide +kernel
theorem dX7_isFree_16 : decode cX7_isFree 16 = .ok (.iaload, 1) := by decide +kernel
theorem dX7_isFree_17 : decode cX7_isFree 17 = .ok (.ifCond .lt 35, 3) := by decide +kernel
theorem dX7_isFree_20 : decode cX7_isFree 20 = .ok (.iload_n 3, 1) := by decide +kernel
theorem dX7_isFree_21 : decode cX7_isFree 21 = .ok (.ifCond .eq 23, 3) := by decide +kernel
theorem dX7_isFree_24 : decode cX7_isFree 24 = .ok (.aload_n 0, 1) := by decide +kernel
theorem dX7_isFree_25 : decode cX7_isFree 25 = .ok (.iconst 2, 1) := by decide +kernel
theorem dX7_isFree_26 : decode cX7_isFree 26 = .ok (.iload_n 1, 1) := by decide +kernel
theorem dX7_isFree_27 : decode cX7_isFree 27 = .ok (.aload_n 0, 1) := by decide +kernel
theorem dX7_isFree_28 : decode cX7_isFree 28 = .ok (.getfield 141, 3) := by decide +kernel
theorem dX7_isFree_31 : decode cX7_isFree 31 = .ok (.iload 4, 2) := by decide +kernel
theorem dX7_isFree_33 : decode cX7_isFree 33 = .ok (.iadd, 1) := by decide +kernel
theorem dX7_isFree_34 : decode cX7_isFree 34 = .ok (.invokevirtual 131, 3) := by decide +kernel
theorem dX7_isFree_37 : decode cX7_isFree 37 = .ok (.ifCond .ge 7, 3) := by decide +kernel
theorem dX7_isFree_40 : decode cX7_isFree 40 = .ok (.iconst 1, 1) := by decide +kernel
theorem dX7_isFree_41 : decode cX7_isFree 41 = .ok (.goto 4, 3) := by decide +kernel
theorem dX7_isFree_44 : decode cX7_isFree 44 = .ok (.iconst 0, 1) := by decide +kernel
theorem dX7_isFree_45 : decode cX7_isFree 45 = .ok (.istore_n 3, 1) := by decide +kernel
theorem dX7_isFree_46 : decode cX7_isFree 46 = .ok (.iinc 4 1, 3) := by decide +kernel
theorem dX7_isFree_49 : decode cX7_isFree 49 = .ok (.goto (-44), 3) := by decide +kernel
theorem dX7_isFree_52 : decode cX7_isFree 52 = .ok (.iload_n 3, 1) := by decide +kernel
theorem dX7_isFree_53 : decode cX7_isFree 53 = .ok (.ireturn, 1) := by decide +kernel
theorem dX7_serve_0 : decode cX7_serve 0 = .ok (.aload_n 0, 1) := by decide +kernel
theorem dX7_serve_1 : decode cX7_serve 1 = .ok (.getfield 83, 3) := by decide +kernel
theorem dX7_serve_4 : decode cX7_serve 4 = .ok (.iload_n 1, 1) := by decide +kernel
theorem dX7_serve_5 : decode cX7_serve 5 = .ok (.iaload, 1) := by decide +kernel
theorem dX7_serve_6 : decode cX7_serve 6 = .ok (.ifCond .ne 101, 3) := by decide +kernel
theorem dX7_serve_9 : decode cX7_serve 9 = .ok (.aload_n 0, 1) := by decide +kernel
theorem dX7_serve_10 : decode cX7_serve 10 = .ok (.getfield 74, 3) := by decide +kernel
theorem dX7_serve_13 : decode cX7_serve 13 = .ok (.iload_n 1, 1) := by decide +kernel
theorem dX7_serve_14 : decode cX7_serve 14 = .ok (.baload, 1) := by decide +kernel
theorem dX7_serve_15 : decode cX7_serve 15 = .ok (.ifCond .ne 92, 3) := by decide +kernel
theorem dX7_serve_18 : decode cX7_serve 18 = .ok (.aload_n 0, 1) := by decide +kernel
theorem dX7_serve_19 : decode cX7_serve 19 = .ok (.getfield 77, 3) := by decide +kernel
theorem dX7_serve_22 : decode cX7_serve 22 = .ok (.iload_n 1, 1) := by decide +kernel
theorem dX7_serve_23 : decode cX7_serve 23 = .ok (.iaload, 1) := by decide +kernel
theorem dX7_serve_24 : decode cX7_serve 24 = .ok (.ifCond .le 83, 3) := by decide +kernel
theorem dX7_serve_27 : decode cX7_serve 27 = .ok (.aload_n 0, 1) := by decide +kernel
theorem dX7_serve_28 : decode cX7_serve 28 = .ok (.iload_n 1, 1) := by decide +kernel
theorem dX7_serve_29 : decode cX7_serve 29 = .ok (.aload_n 0, 1) := by decide +kernel
theorem dX7_serve_30 : decode cX7_serve 30 = .ok (.getfield 80, 3) := by decide +kernel
theorem dX7_serve_33 : decode cX7_serve 33 = .ok (.iconst 4, 1) := by decide +kernel
theorem dX7_serve_34 : decode cX7_serve 34 = .ok (.iload_n 1, 1) := by decide +kernel
theorem dX7_serve_35 : decode cX7_serve 35 = .ok (.imul, 1) := by decide +kernel
theorem dX7_serve_36 : decode cX7_serve 36 = .ok (.iaload, 1) := by decide +kernel
theorem dX7_serve_37 : decode cX7_serve 37 = .ok (.invokevirtual 164, 3) := by decide +kernel
theorem dX7_serve_40 : decode cX7_serve 40 = .ok (.ifCond .eq 67, 3) := by decide +kernel
theorem dX7_serve_43 : decode cX7_serve 43 = .ok (.aload_n 0, 1) := by decide +kernel
theorem dX7_serve_44 : decode cX7_serve 44 = .ok (.getfield 83, 3) := by decide +kernel
theorem dX7_serve_47 : decode cX7_serve 47 = .ok (.iload_n 1, 1) := by decide +kernel
theorem dX7_serve_48 : decode cX7_serve 48 = .ok (.aload_n 0, 1) := by decide +kernel
theorem dX7_serve_49 : decode cX7_serve 49 = .ok (.getfield 80, 3) := by decide +kernel
theorem dX7_serve_52 : decode cX7_serve 52 = .ok (.iconst 4, 1) := by decide +kernel
theorem dX7_serve_53 : decode cX7_serve 53 = .ok (.iload_n 1, 1) := by decide +kernel
theorem dX7_serve_54 : decode cX7_serve 54 = .ok (.imul, 1) := by decide +kernel
theorem dX7_serve_55 : decode cX7_serve 55 = .ok (.iaload, 1) := by decide +kernel
theorem dX7_serve_56 : decode cX7_serve 56 = .ok (.iastore, 1) := by decide +kernel
theorem dX7_serve_57 : decode cX7_serve 57 = .ok (.aload_n 0, 1) := by decide +kernel
theorem dX7_serve_58 : decode cX7_serve 58 = .ok (.getfield 77, 3) := by decide +kernel
theorem dX7_serve_61 : decode cX7_serve 61 = .ok (.iload_n 1, 1) := by decide +kernel
theorem dX7_serve_62 : decode cX7_serve 62 = .ok (.dup2, 1) := by decide +kernel
theorem dX7_serve_63 : decode cX7_serve 63 = .ok (.iaload, 1) := by decide +kernel
theorem dX7_serve_64 : decode cX7_serve 64 = .ok (.iconst 1, 1) := by decide +kernel
theorem dX7_serve_65 : decode cX7_serve 65 = .ok (.isub, 1) := by decide +kernel
theorem dX7_serve_66 : decode cX7_serve 66 = .ok (.iastore, 1) := by decide +kernel
theorem dX7_serve_67 : decode cX7_serve 67 = .ok (.iconst 0, 1) := by decide +kernel
theorem dX7_serve_68 : decode cX7_serve 68 = .ok (.istore_n 2, 1) := by decide +kernel
theorem dX7_serve_69 : decode cX7_serve 69 = .ok (.iload_n 2, 1) := by decide +kernel
theorem dX7_serve_70 : decode cX7_serve 70 = .ok (.aload_n 0, 1) := by decide +kernel
theorem dX7_serve_71 : decode cX7_serve 71 = .ok (.getfield 77, 3) := by decide +kernel
theorem dX7_serve_74 : decode cX7_serve 74 = .ok (.iload_n 1, 1) := by decide +kernel
theorem dX7_serve_75 : decode cX7_serve 75 = .ok (.iaload, 1) := by decide +kernel
theorem dX7_serve_76 : decode cX7_serve 76 = .ok (.if_icmp .ge 31, 3) := by decide +kernel
theorem dX7_serve_79 : decode cX7_serve 79 = .ok (.aload_n 0, 1) := by decide +kernel
theorem dX7_serve_80 : decode cX7_serve 80 = .ok (.getfield 80, 3) := by decide +kernel
theorem dX7_serve_83 : decode cX7_serve 83 = .ok (.iconst 4, 1) := by decide +kernel
theorem dX7_serve_84 : decode cX7_serve 84 = .ok (.iload_n 1, 1) := by decide +kernel
theorem dX7_serve_85 : decode cX7_serve 85 = .ok (.imul, 1) := by decide +kernel
theorem dX7_serve_86 : decode cX7_serve 86 = .ok (.iload_n 2, 1) := by decide +kernel
theorem dX7_serve_87 : decode cX7_serve 87 = .ok (.iadd, 1) := by decide +kernel
theorem dX7_serve_88 : decode cX7_serve 88 = .ok (.aload_n 0, 1) := by decide +kernel
theorem dX7_serve_89 : decode cX7_serve 89 = .ok (.getfield 80, 3) := by decide +kernel
theorem dX7_serve_92 : decode cX7_serve 92 = .ok (.iconst 4, 1) := by decide +kernel
theorem dX7_serve_93 : decode cX7_serve 93 = .ok (.iload_n 1, 1) := by decide +kernel
theorem dX7_serve_94 : decode cX7_serve 94 = .ok (.imul, 1) := by decide +kernel
theorem dX7_serve_95 : decode cX7_serve 95 = .ok (.iload_n 2, 1) := by decide +kernel
theorem dX7_serve_96 : decode cX7_serve 96 = .ok (.iadd, 1) := by decide +kernel
theorem dX7_serve_97 : decode cX7_serve 97 = .ok (.iconst 1, 1) := by decide +kernel
theorem dX7_serve_98 : decode cX7_serve 98 = .ok (.iadd, 1) := by decide +kernel
theorem dX7_serve_99 : decode cX7_serve 99 = .ok (.iaload, 1) := by decide +kernel
theorem dX7_serve_100 : decode cX7_serve 100 = .ok (.iastore, 1) := by decide +kernel
theorem dX7_serve_101 : decode cX7_serve 101 = .ok (.iinc 2 1, 3) := by decide +kernel
theorem dX7_serve_104 : decode cX7_serve 104 = .ok (.goto (-35), 3) := by decide +kernel
theorem dX7_serve_107 : decode cX7_serve 107 = .ok (.aload_n 0, 1) := by decide +kernel
theorem dX7_serve_108 : decode cX7_serve 108 = .ok (.getfield 83, 3) := by decide +kernel
theorem dX7_serve_111 : decode cX7_serve 111 = .ok (.iload_n 1, 1) := by decide +kernel
theorem dX7_serve_112 : decode cX7_serve 112 = .ok (.iaload, 1) := by decide +kernel
theorem dX7_serve_113 : decode cX7_serve 113 = .ok (.ifCond .le 45, 3) := by decide +kernel
theorem dX7_serve_116 : decode cX7_serve 116 = .ok (.aload_n 0, 1) := by decide +kernel
theorem dX7_serve_117 : decode cX7_serve 117 = .ok (.getfield 83, 3) := by decide +kernel
theorem dX7_serve_120 : decode cX7_serve 120 = .ok (.iload_n 1, 1) := by decide +kernel
theorem dX7_serve_121 : decode cX7_serve 121 = .ok (.dup2, 1) := by decide +kernel
theorem dX7_serve_122 : decode cX7_serve 122 = .ok (.iaload, 1) := by decide +kernel
theorem dX7_serve_123 : decode cX7_serve 123 = .ok (.iconst 1, 1) := by decide +kernel
theorem dX7_serve_124 : decode cX7_serve 124 = .ok (.isub, 1) := by decide +kernel
theorem dX7_serve_125 : decode cX7_serve 125 = .ok (.iastore, 1) := by decide +kernel
theorem dX7_serve_126 : decode cX7_serve 126 = .ok (.aload_n 0, 1) := by decide +kernel
theorem dX7_serve_127 : decode cX7_serve 127 = .ok (.getfield 86, 3) := by decide +kernel
theorem dX7_serve_130 : decode cX7_serve 130 = .ok (.iload_n 1, 1) := by decide +kernel
theorem dX7_serve_131 : decode cX7_serve 131 = .ok (.aload_n 0, 1) := by decide +kernel
theorem dX7_serve_132 : decode cX7_serve 132 = .ok (.getfield 83, 3) := by decide +kernel
theorem dX7_serve_135 : decode cX7_serve 135 = .ok (.iload_n 1, 1) := by decide +kernel
theorem dX7_serve_136 : decode cX7_serve 136 = .ok (.iaload, 1) := by decide +kernel
theorem dX7_serve_137 : decode cX7_serve 137 = .ok (.ifCond .ne 14, 3) := by decide +kernel
theorem dX7_serve_140 : decode cX7_serve 140 = .ok (.aload_n 0, 1) := by decide +kernel
theorem dX7_serve_141 : decode cX7_serve 141 = .ok (.getfield 86, 3) := by decide +kernel
theorem dX7_serve_144 : decode cX7_serve 144 = .ok (.iload_n 1, 1) := by decide +kernel
theorem dX7_serve_145 : decode cX7_serve 145 = .ok (.iaload, 1) := by decide +kernel
theorem dX7_serve_146 : decode cX7_serve 146 = .ok (.iconst 1, 1) := by decide +kernel
theorem dX7_serve_147 : decode cX7_serve 147 = .ok (.iadd, 1) := by decide +kernel
theorem dX7_serve_148 : decode cX7_serve 148 = .ok (.goto 9, 3) := by decide +kernel
theorem dX7_serve_151 : decode cX7_serve 151 = .ok (.aload_n 0, 1) := by decide +kernel
theorem dX7_serve_152 : decode cX7_serve 152 = .ok (.getfield 86, 3) := by decide +kernel
theorem dX7_serve_155 : decode cX7_serve 155 = .ok (.iload_n 1, 1) := by decide +kernel
theorem dX7_serve_156 : decode cX7_serve 156 = .ok (.iaload, 1) := by decide +kernel
theorem dX7_serve_157 : decode cX7_serve 157 = .ok (.iastore, 1) := by decide +kernel
theorem dX7_serve_158 : decode cX7_serve 158 = .ok (.return_, 1) := by decide +kernel
theorem dX7_tickOnce_0 : decode cX7_tickOnce 0 = .ok (.aload_n 0, 1) := by decide +kernel
theorem dX7_tickOnce_1 : decode cX7_tickOnce 1 = .ok (.getfield 25, 3) := by decide +kernel
theorem dX7_tickOnce_4 : decode cX7_tickOnce 4 = .ok (.iconst 1, 1) := by decide +kernel
theorem dX7_tickOnce_5 : decode cX7_tickOnce 5 = .ok (.iaload, 1) := by decide +kernel
theorem dX7_tickOnce_6 : decode cX7_tickOnce 6 = .ok (.ifCond .lt 24, 3) := by decide +kernel
theorem dX7_tickOnce_9 : decode cX7_tickOnce 9 = .ok (.aload_n 0, 1) := by decide +kernel
theorem dX7_tickOnce_10 : decode cX7_tickOnce 10 = .ok (.getfield 141, 3) := by decide +kernel
theorem dX7_tickOnce_13 : decode cX7_tickOnce 13 = .ok (.bipush 32, 2) := by decide +kernel
theorem dX7_tickOnce_15 : decode cX7_tickOnce 15 = .ok (.irem, 1) := by decide +kernel
theorem dX7_tickOnce_16 : decode cX7_tickOnce 16 = .ok (.ifCond .ne 14, 3) := by decide +kernel
theorem dX7_tickOnce_19 : decode cX7_tickOnce 19 = .ok (.aload_n 0, 1) := by decide +kernel
theorem dX7_tickOnce_20 : decode cX7_tickOnce 20 = .ok (.invokevirtual 167, 3) := by decide +kernel
theorem dX7_tickOnce_23 : decode cX7_tickOnce 23 = .ok (.ifCond .eq 7, 3) := by decide +kernel
theorem dX7_tickOnce_26 : decode cX7_tickOnce 26 = .ok (.aload_n 0, 1) := by decide +kernel
theorem dX7_tickOnce_27 : decode cX7_tickOnce 27 = .ok (.invokevirtual 171, 3) := by decide +kernel
theorem dX7_tickOnce_30 : decode cX7_tickOnce 30 = .ok (.aload_n 0, 1) := by decide +kernel
theorem dX7_tickOnce_31 : decode cX7_tickOnce 31 = .ok (.getfield 25, 3) := by decide +kernel
theorem dX7_tickOnce_34 : decode cX7_tickOnce 34 = .ok (.iconst 1, 1) := by decide +kernel
theorem dX7_tickOnce_35 : decode cX7_tickOnce 35 = .ok (.iaload, 1) := by decide +kernel
theorem dX7_tickOnce_36 : decode cX7_tickOnce 36 = .ok (.ifCond .ge 7, 3) := by decide +kernel
theorem dX7_tickOnce_39 : decode cX7_tickOnce 39 = .ok (.aload_n 0, 1) := by decide +kernel
theorem dX7_tickOnce_40 : decode cX7_tickOnce 40 = .ok (.invokevirtual 174, 3) := by decide +kernel
theorem dX7_tickOnce_43 : decode cX7_tickOnce 43 = .ok (.aload_n 0, 1) := by decide +kernel
theorem dX7_tickOnce_44 : decode cX7_tickOnce 44 = .ok (.invokevirtual 177, 3) := by decide +kernel
theorem dX7_tickOnce_47 : decode cX7_tickOnce 47 = .ok (.iconst 0, 1) := by decide +kernel
theorem dX7_tickOnce_48 : decode cX7_tickOnce 48 = .ok (.istore_n 1, 1) := by decide +kernel
theorem dX7_tickOnce_49 : decode cX7_tickOnce 49 = .ok (.iload_n 1, 1) := by decide +kernel
theorem dX7_tickOnce_50 : decode cX7_tickOnce 50 = .ok (.bipush 6, 2) := by decide +kernel
theorem dX7_tickOnce_52 : decode cX7_tickOnce 52 = .ok (.if_icmp .ge 14, 3) := by decide +kernel
theorem dX7_tickOnce_55 : decode cX7_tickOnce 55 = .ok (.aload_n 0, 1) := by decide +kernel
theorem dX7_tickOnce_56 : decode cX7_tickOnce 56 = .ok (.iload_n 1, 1) := by decide +kernel
theorem dX7_tickOnce_57 : decode cX7_tickOnce 57 = .ok (.invokevirtual 180, 3) := by decide +kernel
theorem dX7_tickOnce_60 : decode cX7_tickOnce 60 = .ok (.iinc 1 1, 3) := by decide +kernel
theorem dX7_tickOnce_63 : decode cX7_tickOnce 63 = .ok (.goto (-14), 3) := by decide +kernel
theorem dX7_tickOnce_66 : decode cX7_tickOnce 66 = .ok (.aload_n 0, 1) := by decide +kernel
theorem dX7_tickOnce_67 : decode cX7_tickOnce 67 = .ok (.dup, 1) := by decide +kernel
theorem dX7_tickOnce_68 : decode cX7_tickOnce 68 = .ok (.getfield 141, 3) := by decide +kernel
theorem dX7_tickOnce_71 : decode cX7_tickOnce 71 = .ok (.iconst 1, 1) := by decide +kernel
theorem dX7_tickOnce_72 : decode cX7_tickOnce 72 = .ok (.iadd, 1) := by decide +kernel
theorem dX7_tickOnce_73 : decode cX7_tickOnce 73 = .ok (.putfield 141, 3) := by decide +kernel
theorem dX7_tickOnce_76 : decode cX7_tickOnce 76 = .ok (.return_, 1) := by decide +kernel
theorem dX7_tick_0 : decode cX7_tick 0 = .ok (.aload_n 0, 1) := by decide +kernel
theorem dX7_tick_1 : decode cX7_tick 1 = .ok (.iload_n 1, 1) := by decide +kernel
theorem dX7_tick_2 : decode cX7_tick 2 = .ok (.iconst 1, 1) := by decide +kernel
theorem dX7_tick_3 : decode cX7_tick 3 = .ok (.if_icmp .lt 10, 3) := by decide +kernel
theorem dX7_tick_6 : decode cX7_tick 6 = .ok (.iload_n 1, 1) := by decide +kernel
theorem dX7_tick_7 : decode cX7_tick 7 = .ok (.sipush 200, 3) := by decide +kernel
theorem dX7_tick_10 : decode cX7_tick 10 = .ok (.if_icmp .le 7, 3) := by decide +kernel
theorem dX7_tick_13 : decode cX7_tick 13 = .ok (.iconst 1, 1) := by decide +kernel
theorem dX7_tick_14 : decode cX7_tick 14 = .ok (.goto 4, 3) := by decide +kernel
theorem dX7_tick_17 : decode cX7_tick 17 = .ok (.iconst 0, 1) := by decide +kernel
theorem dX7_tick_18 : decode cX7_tick 18 = .ok (.putfield 89, 3) := by decide +kernel
theorem dX7_tick_21 : decode cX7_tick 21 = .ok (.aload_n 0, 1) := by decide +kernel
theorem dX7_tick_22 : decode cX7_tick 22 = .ok (.getfield 89, 3) := by decide +kernel
theorem dX7_tick_25 : decode cX7_tick 25 = .ok (.ifCond .le 5, 3) := by decide +kernel
theorem dX7_tick_28 : decode cX7_tick 28 = .ok (.iconst 0, 1) := by decide +kernel
theorem dX7_tick_29 : decode cX7_tick 29 = .ok (.ireturn, 1) := by decide +kernel
theorem dX7_tick_30 : decode cX7_tick 30 = .ok (.iconst 0, 1) := by decide +kernel
theorem dX7_tick_31 : decode cX7_tick 31 = .ok (.istore_n 2, 1) := by decide +kernel
theorem dX7_tick_32 : decode cX7_tick 32 = .ok (.iload_n 2, 1) := by decide +kernel
theorem dX7_tick_33 : decode cX7_tick 33 = .ok (.iload_n 1, 1) := by decide +kernel
theorem dX7_tick_34 : decode cX7_tick 34 = .ok (.if_icmp .ge 13, 3) := by decide +kernel
theorem dX7_tick_37 : decode cX7_tick 37 = .ok (.aload_n 0, 1) := by decide +kernel
theorem dX7_tick_38 : decode cX7_tick 38 = .ok (.invokevirtual 183, 3) := by decide +kernel
theorem dX7_tick_41 : decode cX7_tick 41 = .ok (.iinc 2 1, 3) := by decide +kernel
theorem dX7_tick_44 : decode cX7_tick 44 = .ok (.goto (-12), 3) := by decide +kernel
theorem dX7_tick_47 : decode cX7_tick 47 = .ok (.aload_n 0, 1) := by decide +kernel
theorem dX7_tick_48 : decode cX7_tick 48 = .ok (.getfield 141, 3) := by decide +kernel
theorem dX7_tick_51 : decode cX7_tick 51 = .ok (.ireturn, 1) := by decide +kernel
theorem dX7_isTalker_0 : decode cX7_isTalker 0 = .ok (.iload_n 1, 1) := by decide +kernel
theorem dX7_isTalker_1 : decode cX7_isTalker 1 = .ok (.ifCond .lt 17, 3) := by decide +kernel
theorem dX7_isTalker_4 : decode cX7_isTalker 4 = .ok (.iload_n 1, 1) := by decide +kernel
theorem dX7_isTalker_5 : decode cX7_isTalker 5 = .ok (.aload_n 0, 1) := by decide +kernel
theorem dX7_isTalker_6 : decode cX7_isTalker 6 = .ok (.getfield 25, 3) := by decide +kernel
theorem dX7_isTalker_9 : decode cX7_isTalker 9 = .ok (.iconst 2, 1) := by decide +kernel
theorem dX7_isTalker_10 : decode cX7_isTalker 10 = .ok (.iaload, 1) := by decide +kernel
theorem dX7_isTalker_11 : decode cX7_isTalker 11 = .ok (.if_icmp .ge 7, 3) := by decide +kernel
theorem dX7_isTalker_14 : decode cX7_isTalker 14 = .ok (.iconst 1, 1) := by decide +kernel
theorem dX7_isTalker_15 : decode cX7_isTalker 15 = .ok (.goto 4, 3) := by decide +kernel
theorem dX7_isTalker_18 : decode cX7_isTalker 18 = .ok (.iconst 0, 1) := by decide +kernel
theorem dX7_isTalker_19 : decode cX7_isTalker 19 = .ok (.ireturn, 1) := by decide +kernel
theorem dX7_talk_0 : decode cX7_talk 0 = .ok (.aload_n 0, 1) := by decide +kernel
theorem dX7_talk_1 : decode cX7_talk 1 = .ok (.aload_n 0, 1) := by decide +kernel
theorem dX7_talk_2 : decode cX7_talk 2 = .ok (.iload_n 1, 1) := by decide +kernel
theorem dX7_talk_3 : decode cX7_talk 3 = .ok (.invokevirtual 186, 3) := by decide +kernel
theorem dX7_talk_6 : decode cX7_talk 6 = .ok (.ifCond .ne 7, 3) := by decide +kernel
theorem dX7_talk_9 : decode cX7_talk 9 = .ok (.iconst 1, 1) := by decide +kernel
theorem dX7_talk_10 : decode cX7_talk 10 = .ok (.goto 18, 3) := by decide +kernel
theorem dX7_talk_13 : decode cX7_talk 13 = .ok (.iload_n 3, 1) := by decide +kernel
theorem dX7_talk_14 : decode cX7_talk 14 = .ok (.ifCond .lt 9, 3) := by decide +kernel
theorem dX7_talk_17 : decode cX7_talk 17 = .ok (.iload_n 3, 1) := by decide +kernel
theorem dX7_talk_18 : decode cX7_talk 18 = .ok (.bipush 7, 2) := by decide +kernel
theorem dX7_talk_20 : decode cX7_talk 20 = .ok (.if_icmp .le 7, 3) := by decide +kernel
theorem dX7_talk_23 : decode cX7_talk 23 = .ok (.iconst 2, 1) := by decide +kernel
theorem dX7_talk_24 : decode cX7_talk 24 = .ok (.goto 4, 3) := by decide +kernel
theorem dX7_talk_27 : decode cX7_talk 27 = .ok (.iconst 0, 1) := by decide +kernel
theorem dX7_talk_28 : decode cX7_talk 28 = .ok (.putfield 89, 3) := by decide +kernel
theorem dX7_talk_31 : decode cX7_talk 31 = .ok (.aload_n 0, 1) := by decide +kernel
theorem dX7_talk_32 : decode cX7_talk 32 = .ok (.getfield 89, 3) := by decide +kernel
theorem dX7_talk_35 : decode cX7_talk 35 = .ok (.ifCond .ne 25, 3) := by decide +kernel
theorem dX7_talk_38 : decode cX7_talk 38 = .ok (.aload_n 0, 1) := by decide +kernel
theorem dX7_talk_39 : decode cX7_talk 39 = .ok (.getfield 46, 3) := by decide +kernel
theorem dX7_talk_42 : decode cX7_talk 42 = .ok (.iload_n 1, 1) := by decide +kernel
theorem dX7_talk_43 : decode cX7_talk 43 = .ok (.iload_n 2, 1) := by decide +kernel
theorem dX7_talk_44 : decode cX7_talk 44 = .ok (.ifCond .ne 7, 3) := by decide +kernel
theorem dX7_talk_47 : decode cX7_talk 47 = .ok (.iconst 1, 1) := by decide +kernel
theorem dX7_talk_48 : decode cX7_talk 48 = .ok (.goto 4, 3) := by decide +kernel
theorem dX7_talk_51 : decode cX7_talk 51 = .ok (.iconst 0, 1) := by decide +kernel
theorem dX7_talk_52 : decode cX7_talk 52 = .ok (.bastore, 1) := by decide +kernel
theorem dX7_talk_53 : decode cX7_talk 53 = .ok (.aload_n 0, 1) := by decide +kernel
theorem dX7_talk_54 : decode cX7_talk 54 = .ok (.getfield 50, 3) := by decide +kernel
theorem dX7_talk_57 : decode cX7_talk 57 = .ok (.iload_n 1, 1) := by decide +kernel
theorem dX7_talk_58 : decode cX7_talk 58 = .ok (.iload_n 3, 1) := by decide +kernel
theorem dX7_talk_59 : decode cX7_talk 59 = .ok (.iastore, 1) := by decide +kernel
theorem dX7_talk_60 : decode cX7_talk 60 = .ok (.return_, 1) := by decide +kernel
theorem dX7_unblock_0 : decode cX7_unblock 0 = .ok (.aload_n 0, 1) := by decide +kernel
theorem dX7_unblock_1 : decode cX7_unblock 1 = .ok (.aload_n 0, 1) := by decide +kernel
theorem dX7_unblock_2 : decode cX7_unblock 2 = .ok (.iload_n 1, 1) := by decide +kernel
theorem dX7_unblock_3 : decode cX7_unblock 3 = .ok (.invokevirtual 186, 3) := by decide +kernel
theorem dX7_unblock_6 : decode cX7_unblock 6 = .ok (.ifCond .eq 7, 3) := by decide +kernel
theorem dX7_unblock_9 : decode cX7_unblock 9 = .ok (.iconst 0, 1) := by decide +kernel
theorem dX7_unblock_10 : decode cX7_unblock 10 = .ok (.goto 4, 3) := by decide +kernel
theorem dX7_unblock_13 : decode cX7_unblock 13 = .ok (.iconst 1, 1) := by decide +kernel
theorem dX7_unblock_14 : decode cX7_unblock 14 = .ok (.putfield 89, 3) := by decide +kernel
theorem dX7_unblock_17 : decode cX7_unblock 17 = .ok (.aload_n 0, 1) := by decide +kernel
theorem dX7_unblock_18 : decode cX7_unblock 18 = .ok (.getfield 89, 3) := by decide +kernel
theorem dX7_unblock_21 : decode cX7_unblock 21 = .ok (.ifCond .ne 16, 3) := by decide +kernel
theorem dX7_unblock_24 : decode cX7_unblock 24 = .ok (.aload_n 0, 1) := by decide +kernel
theorem dX7_unblock_25 : decode cX7_unblock 25 = .ok (.getfield 53, 3) := by decide +kernel
theorem dX7_unblock_28 : decode cX7_unblock 28 = .ok (.iload_n 1, 1) := by decide +kernel
theorem dX7_unblock_29 : decode cX7_unblock 29 = .ok (.baload, 1) := by decide +kernel
theorem dX7_unblock_30 : decode cX7_unblock 30 = .ok (.ifCond .eq 7, 3) := by decide +kernel
theorem dX7_unblock_33 : decode cX7_unblock 33 = .ok (.iconst 1, 1) := by decide +kernel
theorem dX7_unblock_34 : decode cX7_unblock 34 = .ok (.goto 4, 3) := by decide +kernel
theorem dX7_unblock_37 : decode cX7_unblock 37 = .ok (.iconst 0, 1) := by decide +kernel
theorem dX7_unblock_38 : decode cX7_unblock 38 = .ok (.istore_n 2, 1) := by decide +kernel
theorem dX7_unblock_39 : decode cX7_unblock 39 = .ok (.iload_n 2, 1) := by decide +kernel
theorem dX7_unblock_40 : decode cX7_unblock 40 = .ok (.ifCond .eq 10, 3) := by decide +kernel
theorem dX7_unblock_43 : decode cX7_unblock 43 = .ok (.aload_n 0, 1) := by decide +kernel
theorem dX7_unblock_44 : decode cX7_unblock 44 = .ok (.getfield 53, 3) := by decide +kernel
theorem dX7_unblock_47 : decode cX7_unblock 47 = .ok (.iload_n 1, 1) := by decide +kernel
theorem dX7_unblock_48 : decode cX7_unblock 48 = .ok (.iconst 0, 1) := by decide +kernel
theorem dX7_unblock_49 : decode cX7_unblock 49 = .ok (.bastore, 1) := by decide +kernel
theorem dX7_unblock_50 : decode cX7_unblock 50 = .ok (.iload_n 2, 1) := by decide +kernel
theorem dX7_unblock_51 : decode cX7_unblock 51 = .ok (.ireturn, 1) := by decide +kernel
theorem dX7_isHit_0 : decode cX7_isHit 0 = .ok (.iconst 0, 1) := by decide +kernel
theorem dX7_isHit_1 : decode cX7_isHit 1 = .ok (.istore_n 3, 1) := by decide +kernel
theorem dX7_isHit_2 : decode cX7_isHit 2 = .ok (.iconst 0, 1) := by decide +kernel
theorem dX7_isHit_3 : decode cX7_isHit 3 = .ok (.istore 4, 2) := by decide +kernel
theorem dX7_isHit_5 : decode cX7_isHit 5 = .ok (.iload 4, 2) := by decide +kernel
theorem dX7_isHit_7 : decode cX7_isHit 7 = .ok (.aload_n 0, 1) := by decide +kernel
theorem dX7_isHit_8 : decode cX7_isHit 8 = .ok (.aload_n 0, 1) := by decide +kernel
theorem dX7_isHit_9 : decode cX7_isHit 9 = .ok (.getfield 68, 3) := by decide +kernel
theorem dX7_isHit_12 : decode cX7_isHit 12 = .ok (.iload_n 1, 1) := by decide +kernel
theorem dX7_isHit_13 : decode cX7_isHit 13 = .ok (.iaload, 1) := by decide +kernel
theorem dX7_isHit_14 : decode cX7_isHit 14 = .ok (.invokevirtual 150, 3) := by decide +kernel
theorem dX7_isHit_17 : decode cX7_isHit 17 = .ok (.if_icmp .gt 63, 3) := by decide +kernel
theorem dX7_isHit_20 : decode cX7_isHit 20 = .ok (.iload_n 3, 1) := by decide +kernel
theorem dX7_isHit_21 : decode cX7_isHit 21 = .ok (.ifCond .ne 47, 3) := by decide +kernel
theorem dX7_isHit_24 : decode cX7_isHit 24 = .ok (.aload_n 0, 1) := by decide +kernel
theorem dX7_isHit_25 : decode cX7_isHit 25 = .ok (.aload_n 0, 1) := by decide +kernel
theorem dX7_isHit_26 : decode cX7_isHit 26 = .ok (.getfield 68, 3) := by decide +kernel
theorem dX7_isHit_29 : decode cX7_isHit 29 = .ok (.iload_n 1, 1) := by decide +kernel
theorem dX7_isHit_30 : decode cX7_isHit 30 = .ok (.iaload, 1) := by decide +kernel
theorem dX7_isHit_31 : decode cX7_isHit 31 = .ok (.iload 4, 2) := by decide +kernel
theorem dX7_isHit_33 : decode cX7_isHit 33 = .ok (.invokevirtual 147, 3) := by decide +kernel
theorem dX7_isHit_36 : decode cX7_isHit 36 = .ok (.iload_n 2, 1) := by decide +kernel
theorem dX7_isHit_37 : decode cX7_isHit 37 = .ok (.if_icmp .ne 35, 3) := by decide +kernel
theorem dX7_isHit_40 : decode cX7_isHit 40 = .ok (.aload_n 0, 1) := by decide +kernel
theorem dX7_isHit_41 : decode cX7_isHit 41 = .ok (.iload_n 1, 1) := by decide +kernel
theorem dX7_isHit_42 : decode cX7_isHit 42 = .ok (.iload 4, 2) := by decide +kernel
theorem dX7_isHit_44 : decode cX7_isHit 44 = .ok (.invokevirtual 144, 3) := by decide +kernel
theorem dX7_isHit_47 : decode cX7_isHit 47 = .ok (.aload_n 0, 1) := by decide +kernel
theorem dX7_isHit_48 : decode cX7_isHit 48 = .ok (.getfield 141, 3) := by decide +kernel
theorem dX7_isHit_51 : decode cX7_isHit 51 = .ok (.if_icmp .ge 21, 3) := by decide +kernel
theorem dX7_isHit_54 : decode cX7_isHit 54 = .ok (.aload_n 0, 1) := by decide +kernel
theorem dX7_isHit_55 : decode cX7_isHit 55 = .ok (.iload_n 1, 1) := by decide +kernel
theorem dX7_isHit_56 : decode cX7_isHit 56 = .ok (.iload 4, 2) := by decide +kernel
theorem dX7_isHit_58 : decode cX7_isHit 58 = .ok (.invokevirtual 161, 3) := by decide +kernel
theorem dX7_isHit_61 : decode cX7_isHit 61 = .ok (.aload_n 0, 1) := by decide +kernel
theorem dX7_isHit_62 : decode cX7_isHit 62 = .ok (.getfield 141, 3) := by decide +kernel
theorem dX7_isHit_65 : decode cX7_isHit 65 = .ok (.if_icmp .le 7, 3) := by decide +kernel
theorem dX7_isHit_68 : decode cX7_isHit 68 = .ok (.iconst 1, 1) := by decide +kernel
theorem dX7_isHit_69 : decode cX7_isHit 69 = .ok (.goto 4, 3) := by decide +kernel
theorem dX7_isHit_72 : decode cX7_isHit 72 = .ok (.iconst 0, 1) := by decide +kernel
theorem dX7_isHit_73 : decode cX7_isHit 73 = .ok (.istore_n 3, 1) := by decide +kernel
theorem dX7_isHit_74 : decode cX7_isHit 74 = .ok (.iinc 4 1, 3) := by decide +kernel
theorem dX7_isHit_77 : decode cX7_isHit 77 = .ok (.goto (-72), 3) := by decide +kernel
theorem dX7_isHit_80 : decode cX7_isHit 80 = .ok (.iload_n 3, 1) := by decide +kernel
theorem dX7_isHit_81 : decode cX7_isHit 81 = .ok (.ireturn, 1) := by decide +kernel
theorem dX7_cut_0 : decode cX7_cut 0 = .ok (.aload_n 0, 1) := by decide +kernel
theorem dX7_cut_1 : decode cX7_cut 1 = .ok (.iload_n 1, 1) := by decide +kernel
theorem dX7_cut_2 : decode cX7_cut 2 = .ok (.invokestatic 93, 3) := by decide +kernel
theorem dX7_cut_5 : decode cX7_cut 5 = .ok (.ifCond .eq 7, 3) := by decide +kernel
theorem dX7_cut_8 : decode cX7_cut 8 = .ok (.iconst 0, 1) := by decide +kernel
theorem dX7_cut_9 : decode cX7_cut 9 = .ok (.goto 4, 3) := by decide +kernel
theorem dX7_cut_12 : decode cX7_cut 12 = .ok (.iconst 1, 1) := by decide +kernel
theorem dX7_cut_13 : decode cX7_cut 13 = .ok (.putfield 89, 3) := by decide +kernel
theorem dX7_cut_16 : decode cX7_cut 16 = .ok (.aload_n 0, 1) := by decide +kernel
theorem dX7_cut_17 : decode cX7_cut 17 = .ok (.getfield 89, 3) := by decide +kernel
theorem dX7_cut_20 : decode cX7_cut 20 = .ok (.ifCond .gt 13, 3) := by decide +kernel
theorem dX7_cut_23 : decode cX7_cut 23 = .ok (.aload_n 0, 1) := by decide +kernel
theorem dX7_cut_24 : decode cX7_cut 24 = .ok (.getfield 74, 3) := by decide +kernel
theorem dX7_cut_27 : decode cX7_cut 27 = .ok (.iload_n 1, 1) := by decide +kernel
theorem dX7_cut_28 : decode cX7_cut 28 = .ok (.baload, 1) := by decide +kernel
theorem dX7_cut_29 : decode cX7_cut 29 = .ok (.iload_n 2, 1) := by decide +kernel
theorem dX7_cut_30 : decode cX7_cut 30 = .ok (.if_icmp .ne 5, 3) := by decide +kernel
theorem dX7_cut_33 : decode cX7_cut 33 = .ok (.iconst 0, 1) := by decide +kernel
theorem dX7_cut_34 : decode cX7_cut 34 = .ok (.ireturn, 1) := by decide +kernel
theorem dX7_cut_35 : decode cX7_cut 35 = .ok (.aload_n 0, 1) := by decide +kernel
theorem dX7_cut_36 : decode cX7_cut 36 = .ok (.getfield 74, 3) := by decide +kernel
theorem dX7_cut_39 : decode cX7_cut 39 = .ok (.iload_n 1, 1) := by decide +kernel
theorem dX7_cut_40 : decode cX7_cut 40 = .ok (.iload_n 2, 1) := by decide +kernel
theorem dX7_cut_41 : decode cX7_cut 41 = .ok (.bastore, 1) := by decide +kernel
theorem dX7_cut_42 : decode cX7_cut 42 = .ok (.aload_n 0, 1) := by decide +kernel
theorem dX7_cut_43 : decode cX7_cut 43 = .ok (.getfield 138, 3) := by decide +kernel
theorem dX7_cut_46 : decode cX7_cut 46 = .ok (.iconst 1, 1) := by decide +kernel
theorem dX7_cut_47 : decode cX7_cut 47 = .ok (.isub, 1) := by decide +kernel
theorem dX7_cut_48 : decode cX7_cut 48 = .ok (.istore_n 3, 1) := by decide +kernel
theorem dX7_cut_49 : decode cX7_cut 49 = .ok (.iload_n 3, 1) := by decide +kernel
theorem dX7_cut_50 : decode cX7_cut 50 = .ok (.ifCond .lt 42, 3) := by decide +kernel
theorem dX7_cut_53 : decode cX7_cut 53 = .ok (.iload_n 2, 1) := by decide +kernel
theorem dX7_cut_54 : decode cX7_cut 54 = .ok (.ifCond .eq 38, 3) := by decide +kernel
theorem dX7_cut_57 : decode cX7_cut 57 = .ok (.aload_n 0, 1) := by decide +kernel
theorem dX7_cut_58 : decode cX7_cut 58 = .ok (.iload_n 3, 1) := by decide +kernel
theorem dX7_cut_59 : decode cX7_cut 59 = .ok (.iload_n 1, 1) := by decide +kernel
theorem dX7_cut_60 : decode cX7_cut 60 = .ok (.invokevirtual 189, 3) := by decide +kernel
theorem dX7_cut_63 : decode cX7_cut 63 = .ok (.ifCond .eq 23, 3) := by decide +kernel
theorem dX7_cut_66 : decode cX7_cut 66 = .ok (.aload_n 0, 1) := by decide +kernel
theorem dX7_cut_67 : decode cX7_cut 67 = .ok (.getfield 59, 3) := by decide +kernel
theorem dX7_cut_70 : decode cX7_cut 70 = .ok (.aload_n 0, 1) := by decide +kernel
theorem dX7_cut_71 : decode cX7_cut 71 = .ok (.getfield 68, 3) := by decide +kernel
theorem dX7_cut_74 : decode cX7_cut 74 = .ok (.iload_n 3, 1) := by decide +kernel
theorem dX7_cut_75 : decode cX7_cut 75 = .ok (.iaload, 1) := by decide +kernel
theorem dX7_cut_76 : decode cX7_cut 76 = .ok (.dup2, 1) := by decide +kernel
theorem dX7_cut_77 : decode cX7_cut 77 = .ok (.iaload, 1) := by decide +kernel
theorem dX7_cut_78 : decode cX7_cut 78 = .ok (.iconst 1, 1) := by decide +kernel
theorem dX7_cut_79 : decode cX7_cut 79 = .ok (.iadd, 1) := by decide +kernel
theorem dX7_cut_80 : decode cX7_cut 80 = .ok (.iastore, 1) := by decide +kernel
theorem dX7_cut_81 : decode cX7_cut 81 = .ok (.aload_n 0, 1) := by decide +kernel
theorem dX7_cut_82 : decode cX7_cut 82 = .ok (.iload_n 3, 1) := by decide +kernel
theorem dX7_cut_83 : decode cX7_cut 83 = .ok (.invokevirtual 157, 3) := by decide +kernel
theorem dX7_cut_86 : decode cX7_cut 86 = .ok (.iinc 3 (-1), 3) := by decide +kernel
theorem dX7_cut_89 : decode cX7_cut 89 = .ok (.goto (-40), 3) := by decide +kernel
theorem dX7_cut_92 : decode cX7_cut 92 = .ok (.aload_n 0, 1) := by decide +kernel
theorem dX7_cut_93 : decode cX7_cut 93 = .ok (.getfield 83, 3) := by decide +kernel
theorem dX7_cut_96 : decode cX7_cut 96 = .ok (.iload_n 1, 1) := by decide +kernel
theorem dX7_cut_97 : decode cX7_cut 97 = .ok (.iload_n 2, 1) := by decide +kernel
theorem dX7_cut_98 : decode cX7_cut 98 = .ok (.ifCond .eq 7, 3) := by decide +kernel
theorem dX7_cut_101 : decode cX7_cut 101 = .ok (.iconst 0, 1) := by decide +kernel
theorem dX7_cut_102 : decode cX7_cut 102 = .ok (.goto 9, 3) := by decide +kernel
theorem dX7_cut_105 : decode cX7_cut 105 = .ok (.aload_n 0, 1) := by decide +kernel
theorem dX7_cut_106 : decode cX7_cut 106 = .ok (.getfield 83, 3) := by decide +kernel
theorem dX7_cut_109 : decode cX7_cut 109 = .ok (.iload_n 1, 1) := by decide +kernel
theorem dX7_cut_110 : decode cX7_cut 110 = .ok (.iaload, 1) := by decide +kernel
theorem dX7_cut_111 : decode cX7_cut 111 = .ok (.iastore, 1) := by decide +kernel
theorem dX7_cut_112 : decode cX7_cut 112 = .ok (.iconst 1, 1) := by decide +kernel
theorem dX7_cut_113 : decode cX7_cut 113 = .ok (.ireturn, 1) := by decide +kernel
theorem dX7_babble_0 : decode cX7_babble 0 = .ok (.aload_n 0, 1) := by decide +kernel
theorem dX7_babble_1 : decode cX7_babble 1 = .ok (.iload_n 1, 1) := by decide +kernel
theorem dX7_babble_2 : decode cX7_babble 2 = .ok (.invokestatic 93, 3) := by decide +kernel
theorem dX7_babble_5 : decode cX7_babble 5 = .ok (.ifCond .ne 7, 3) := by decide +kernel
theorem dX7_babble_8 : decode cX7_babble 8 = .ok (.iconst 1, 1) := by decide +kernel
theorem dX7_babble_9 : decode cX7_babble 9 = .ok (.goto 33, 3) := by decide +kernel
theorem dX7_babble_12 : decode cX7_babble 12 = .ok (.iload_n 2, 1) := by decide +kernel
theorem dX7_babble_13 : decode cX7_babble 13 = .ok (.iconst 1, 1) := by decide +kernel
theorem dX7_babble_14 : decode cX7_babble 14 = .ok (.if_icmp .lt 9, 3) := by decide +kernel
theorem dX7_babble_17 : decode cX7_babble 17 = .ok (.iload_n 2, 1) := by decide +kernel
theorem dX7_babble_18 : decode cX7_babble 18 = .ok (.bipush 8, 2) := by decide +kernel
theorem dX7_babble_20 : decode cX7_babble 20 = .ok (.if_icmp .le 7, 3) := by decide +kernel
theorem dX7_babble_23 : decode cX7_babble 23 = .ok (.iconst 2, 1) := by decide +kernel
theorem dX7_babble_24 : decode cX7_babble 24 = .ok (.goto 18, 3) := by decide +kernel
theorem dX7_babble_27 : decode cX7_babble 27 = .ok (.aload_n 0, 1) := by decide +kernel
theorem dX7_babble_28 : decode cX7_babble 28 = .ok (.getfield 77, 3) := by decide +kernel
theorem dX7_babble_31 : decode cX7_babble 31 = .ok (.iload_n 1, 1) := by decide +kernel
theorem dX7_babble_32 : decode cX7_babble 32 = .ok (.iaload, 1) := by decide +kernel
theorem dX7_babble_33 : decode cX7_babble 33 = .ok (.iconst 4, 1) := by decide +kernel
theorem dX7_babble_34 : decode cX7_babble 34 = .ok (.if_icmp .ne 7, 3) := by decide +kernel
theorem dX7_babble_37 : decode cX7_babble 37 = .ok (.iconst 3, 1) := by decide +kernel
theorem dX7_babble_38 : decode cX7_babble 38 = .ok (.goto 4, 3) := by decide +kernel
theorem dX7_babble_41 : decode cX7_babble 41 = .ok (.iconst 0, 1) := by decide +kernel
theorem dX7_babble_42 : decode cX7_babble 42 = .ok (.putfield 89, 3) := by decide +kernel
theorem dX7_babble_45 : decode cX7_babble 45 = .ok (.aload_n 0, 1) := by decide +kernel
theorem dX7_babble_46 : decode cX7_babble 46 = .ok (.getfield 89, 3) := by decide +kernel
theorem dX7_babble_49 : decode cX7_babble 49 = .ok (.ifCond .le 5, 3) := by decide +kernel
theorem dX7_babble_52 : decode cX7_babble 52 = .ok (.iconst 0, 1) := by decide +kernel
theorem dX7_babble_53 : decode cX7_babble 53 = .ok (.ireturn, 1) := by decide +kernel
theorem dX7_babble_54 : decode cX7_babble 54 = .ok (.aload_n 0, 1) := by decide +kernel
theorem dX7_babble_55 : decode cX7_babble 55 = .ok (.getfield 80, 3) := by decide +kernel
theorem dX7_babble_58 : decode cX7_babble 58 = .ok (.iconst 4, 1) := by decide +kernel
theorem dX7_babble_59 : decode cX7_babble 59 = .ok (.iload_n 1, 1) := by decide +kernel
theorem dX7_babble_60 : decode cX7_babble 60 = .ok (.imul, 1) := by decide +kernel
theorem dX7_babble_61 : decode cX7_babble 61 = .ok (.aload_n 0, 1) := by decide +kernel
theorem dX7_babble_62 : decode cX7_babble 62 = .ok (.getfield 77, 3) := by decide +kernel
theorem dX7_babble_65 : decode cX7_babble 65 = .ok (.iload_n 1, 1) := by decide +kernel
theorem dX7_babble_66 : decode cX7_babble 66 = .ok (.iaload, 1) := by decide +kernel
theorem dX7_babble_67 : decode cX7_babble 67 = .ok (.iadd, 1) := by decide +kernel
theorem dX7_babble_68 : decode cX7_babble 68 = .ok (.iload_n 2, 1) := by decide +kernel
theorem dX7_babble_69 : decode cX7_babble 69 = .ok (.iastore, 1) := by decide +kernel
theorem dX7_babble_70 : decode cX7_babble 70 = .ok (.aload_n 0, 1) := by decide +kernel
theorem dX7_babble_71 : decode cX7_babble 71 = .ok (.getfield 77, 3) := by decide +kernel
theorem dX7_babble_74 : decode cX7_babble 74 = .ok (.iload_n 1, 1) := by decide +kernel
theorem dX7_babble_75 : decode cX7_babble 75 = .ok (.dup2, 1) := by decide +kernel
theorem dX7_babble_76 : decode cX7_babble 76 = .ok (.iaload, 1) := by decide +kernel
theorem dX7_babble_77 : decode cX7_babble 77 = .ok (.iconst 1, 1) := by decide +kernel
theorem dX7_babble_78 : decode cX7_babble 78 = .ok (.iadd, 1) := by decide +kernel
theorem dX7_babble_79 : decode cX7_babble 79 = .ok (.iastore, 1) := by decide +kernel
theorem dX7_babble_80 : decode cX7_babble 80 = .ok (.aload_n 0, 1) := by decide +kernel
theorem dX7_babble_81 : decode cX7_babble 81 = .ok (.getfield 77, 3) := by decide +kernel
theorem dX7_babble_84 : decode cX7_babble 84 = .ok (.iload_n 1, 1) := by decide +kernel
theorem dX7_babble_85 : decode cX7_babble 85 = .ok (.iaload, 1) := by decide +kernel
theorem dX7_babble_86 : decode cX7_babble 86 = .ok (.ireturn, 1) := by decide +kernel
theorem dX7_told_0 : decode cX7_told 0 = .ok (.aload_n 0, 1) := by decide +kernel
theorem dX7_told_1 : decode cX7_told 1 = .ok (.aload_n 0, 1) := by decide +kernel
theorem dX7_told_2 : decode cX7_told 2 = .ok (.iload_n 1, 1) := by decide +kernel
theorem dX7_told_3 : decode cX7_told 3 = .ok (.invokevirtual 186, 3) := by decide +kernel
theorem dX7_told_6 : decode cX7_told 6 = .ok (.ifCond .eq 12, 3) := by decide +kernel
theorem dX7_told_9 : decode cX7_told 9 = .ok (.iload_n 2, 1) := by decide +kernel
theorem dX7_told_10 : decode cX7_told 10 = .ok (.ifCond .lt 8, 3) := by decide +kernel
theorem dX7_told_13 : decode cX7_told 13 = .ok (.iload_n 2, 1) := by decide +kernel
theorem dX7_told_14 : decode cX7_told 14 = .ok (.iconst 5, 1) := by decide +kernel
theorem dX7_told_15 : decode cX7_told 15 = .ok (.if_icmp .le 7, 3) := by decide +kernel
theorem dX7_told_18 : decode cX7_told 18 = .ok (.iconst 1, 1) := by decide +kernel
theorem dX7_told_19 : decode cX7_told 19 = .ok (.goto 4, 3) := by decide +kernel
theorem dX7_told_22 : decode cX7_told 22 = .ok (.iconst 0, 1) := by decide +kernel
theorem dX7_told_23 : decode cX7_told 23 = .ok (.putfield 89, 3) := by decide +kernel
theorem dX7_told_26 : decode cX7_told 26 = .ok (.aload_n 0, 1) := by decide +kernel
theorem dX7_told_27 : decode cX7_told 27 = .ok (.getfield 89, 3) := by decide +kernel
theorem dX7_told_30 : decode cX7_told 30 = .ok (.ifCond .le 5, 3) := by decide +kernel
theorem dX7_told_33 : decode cX7_told 33 = .ok (.iconst 0, 1) := by decide +kernel
theorem dX7_told_34 : decode cX7_told 34 = .ok (.ireturn, 1) := by decide +kernel
theorem dX7_told_35 : decode cX7_told 35 = .ok (.iconst 0, 1) := by decide +kernel
theorem dX7_told_36 : decode cX7_told 36 = .ok (.istore_n 3, 1) := by decide +kernel
theorem dX7_told_37 : decode cX7_told 37 = .ok (.iconst 0, 1) := by decide +kernel
theorem dX7_told_38 : decode cX7_told 38 = .ok (.istore 4, 2) := by decide +kernel
theorem dX7_told_40 : decode cX7_told 40 = .ok (.iload 4, 2) := by decide +kernel
theorem dX7_told_42 : decode cX7_told 42 = .ok (.aload_n 0, 1) := by decide +kernel
theorem dX7_told_43 : decode cX7_told 43 = .ok (.getfield 138, 3) := by decide +kernel
theorem dX7_told_46 : decode cX7_told 46 = .ok (.if_icmp .ge 28, 3) := by decide +kernel
theorem dX7_told_49 : decode cX7_told 49 = .ok (.aload_n 0, 1) := by decide +kernel
theorem dX7_told_50 : decode cX7_told 50 = .ok (.getfield 68, 3) := by decide +kernel
theorem dX7_told_53 : decode cX7_told 53 = .ok (.iload 4, 2) := by decide +kernel
theorem dX7_told_55 : decode cX7_told 55 = .ok (.iaload, 1) := by decide +kernel
theorem dX7_told_56 : decode cX7_told 56 = .ok (.iload_n 1, 1) := by decide +kernel
theorem dX7_told_57 : decode cX7_told 57 = .ok (.if_icmp .ne 9, 3) := by decide +kernel
theorem dX7_told_60 : decode cX7_told 60 = .ok (.iload_n 3, 1) := by decide +kernel
theorem dX7_told_61 : decode cX7_told 61 = .ok (.iconst 1, 1) := by decide +kernel
theorem dX7_told_62 : decode cX7_told 62 = .ok (.iadd, 1) := by decide +kernel
theorem dX7_told_63 : decode cX7_told 63 = .ok (.goto 4, 3) := by decide +kernel
theorem dX7_told_66 : decode cX7_told 66 = .ok (.iload_n 3, 1) := by decide +kernel
theorem dX7_told_67 : decode cX7_told 67 = .ok (.istore_n 3, 1) := by decide +kernel
theorem dX7_told_68 : decode cX7_told 68 = .ok (.iinc 4 1, 3) := by decide +kernel
theorem dX7_told_71 : decode cX7_told 71 = .ok (.goto (-31), 3) := by decide +kernel
theorem dX7_told_74 : decode cX7_told 74 = .ok (.iload_n 2, 1) := by decide +kernel
theorem dX7_told_75 : decode cX7_told 75 = .ok (.tableswitch 63 0 4 #[33, 35, 42, 49, 56], 33) := by decide +kernel
theorem dX7_told_108 : decode cX7_told 108 = .ok (.iload_n 3, 1) := by decide +kernel
theorem dX7_told_109 : decode cX7_told 109 = .ok (.ireturn, 1) := by decide +kernel
theorem dX7_told_110 : decode cX7_told 110 = .ok (.aload_n 0, 1) := by decide +kernel
theorem dX7_told_111 : decode cX7_told 111 = .ok (.getfield 56, 3) := by decide +kernel
theorem dX7_told_114 : decode cX7_told 114 = .ok (.iload_n 1, 1) := by decide +kernel
theorem dX7_told_115 : decode cX7_told 115 = .ok (.iaload, 1) := by decide +kernel
theorem dX7_told_116 : decode cX7_told 116 = .ok (.ireturn, 1) := by decide +kernel
theorem dX7_told_117 : decode cX7_told 117 = .ok (.aload_n 0, 1) := by decide +kernel
theorem dX7_told_118 : decode cX7_told 118 = .ok (.getfield 59, 3) := by decide +kernel
theorem dX7_told_121 : decode cX7_told 121 = .ok (.iload_n 1, 1) := by decide +kernel
theorem dX7_told_122 : decode cX7_told 122 = .ok (.iaload, 1) := by decide +kernel
theorem dX7_told_123 : decode cX7_told 123 = .ok (.ireturn, 1) := by decide +kernel
theorem dX7_told_124 : decode cX7_told 124 = .ok (.aload_n 0, 1) := by decide +kernel
theorem dX7_told_125 : decode cX7_told 125 = .ok (.getfield 62, 3) := by decide +kernel
theorem dX7_told_128 : decode cX7_told 128 = .ok (.iload_n 1, 1) := by decide +kernel
theorem dX7_told_129 : decode cX7_told 129 = .ok (.iaload, 1) := by decide +kernel
theorem dX7_told_130 : decode cX7_told 130 = .ok (.ireturn, 1) := by decide +kernel
theorem dX7_told_131 : decode cX7_told 131 = .ok (.aload_n 0, 1) := by decide +kernel
theorem dX7_told_132 : decode cX7_told 132 = .ok (.getfield 65, 3) := by decide +kernel
theorem dX7_told_135 : decode cX7_told 135 = .ok (.iload_n 1, 1) := by decide +kernel
theorem dX7_told_136 : decode cX7_told 136 = .ok (.iaload, 1) := by decide +kernel
theorem dX7_told_137 : decode cX7_told 137 = .ok (.ireturn, 1) := by decide +kernel
theorem dX7_told_138 : decode cX7_told 138 = .ok (.aload_n 0, 1) := by decide +kernel
theorem dX7_told_139 : decode cX7_told 139 = .ok (.getfield 53, 3) := by decide +kernel
theorem dX7_told_142 : decode cX7_told 142 = .ok (.iload_n 1, 1) := by decide +kernel
theorem dX7_told_143 : decode cX7_told 143 = .ok (.baload, 1) := by decide +kernel
theorem dX7_told_144 : decode cX7_told 144 = .ok (.ifCond .eq 7, 3) := by decide +kernel
theorem dX7_told_147 : decode cX7_told 147 = .ok (.iconst 1, 1) := by decide +kernel
theorem dX7_told_148 : decode cX7_told 148 = .ok (.goto 4, 3) := by decide +kernel
theorem dX7_told_151 : decode cX7_told 151 = .ok (.iconst 0, 1) := by decide +kernel
theorem dX7_told_152 : decode cX7_told 152 = .ok (.ireturn, 1) := by decide +kernel
theorem dX7_on_0 : decode cX7_on 0 = .ok (.iconst 0, 1) := by decide +kernel
theorem dX7_on_1 : decode cX7_on 1 = .ok (.istore_n 2, 1) := by decide +kernel
theorem dX7_on_2 : decode cX7_on 2 = .ok (.iload_n 2, 1) := by decide +kernel
theorem dX7_on_3 : decode cX7_on 3 = .ok (.aload_n 0, 1) := by decide +kernel
theorem dX7_on_4 : decode cX7_on 4 = .ok (.getfield 138, 3) := by decide +kernel
theorem dX7_on_7 : decode cX7_on 7 = .ok (.if_icmp .ge 94, 3) := by decide +kernel
theorem dX7_on_10 : decode cX7_on 10 = .ok (.iconst 0, 1) := by decide +kernel
theorem dX7_on_11 : decode cX7_on 11 = .ok (.istore_n 3, 1) := by decide +kernel
theorem dX7_on_12 : decode cX7_on 12 = .ok (.iload_n 3, 1) := by decide +kernel
theorem dX7_on_13 : decode cX7_on 13 = .ok (.aload_n 0, 1) := by decide +kernel
theorem dX7_on_14 : decode cX7_on 14 = .ok (.aload_n 0, 1) := by decide +kernel
theorem dX7_on_15 : decode cX7_on 15 = .ok (.getfield 68, 3) := by decide +kernel
theorem dX7_on_18 : decode cX7_on 18 = .ok (.iload_n 2, 1) := by decide +kernel
theorem dX7_on_19 : decode cX7_on 19 = .ok (.iaload, 1) := by decide +kernel
theorem dX7_on_20 : decode cX7_on 20 = .ok (.invokevirtual 150, 3) := by decide +kernel
theorem dX7_on_23 : decode cX7_on 23 = .ok (.if_icmp .gt 72, 3) := by decide +kernel
theorem dX7_on_26 : decode cX7_on 26 = .ok (.aload_n 0, 1) := by decide +kernel
theorem dX7_on_27 : decode cX7_on 27 = .ok (.iload_n 2, 1) := by decide +kernel
theorem dX7_on_28 : decode cX7_on 28 = .ok (.iload_n 3, 1) := by decide +kernel
theorem dX7_on_29 : decode cX7_on 29 = .ok (.invokevirtual 144, 3) := by decide +kernel
theorem dX7_on_32 : decode cX7_on 32 = .ok (.istore 4, 2) := by decide +kernel
theorem dX7_on_34 : decode cX7_on 34 = .ok (.aload_n 0, 1) := by decide +kernel
theorem dX7_on_35 : decode cX7_on 35 = .ok (.aload_n 0, 1) := by decide +kernel
theorem dX7_on_36 : decode cX7_on 36 = .ok (.getfield 68, 3) := by decide +kernel
theorem dX7_on_39 : decode cX7_on 39 = .ok (.iload_n 2, 1) := by decide +kernel
theorem dX7_on_40 : decode cX7_on 40 = .ok (.iaload, 1) := by decide +kernel
theorem dX7_on_41 : decode cX7_on 41 = .ok (.iload_n 3, 1) := by decide +kernel
theorem dX7_on_42 : decode cX7_on 42 = .ok (.invokevirtual 147, 3) := by decide +kernel
theorem dX7_on_45 : decode cX7_on 45 = .ok (.iload_n 1, 1) := by decide +kernel
theorem dX7_on_46 : decode cX7_on 46 = .ok (.if_icmp .ne 43, 3) := by decide +kernel
theorem dX7_on_49 : decode cX7_on 49 = .ok (.iload 4, 2) := by decide +kernel
theorem dX7_on_51 : decode cX7_on 51 = .ok (.aload_n 0, 1) := by decide +kernel
theorem dX7_on_52 : decode cX7_on 52 = .ok (.getfield 141, 3) := by decide +kernel
theorem dX7_on_55 : decode cX7_on 55 = .ok (.if_icmp .ge 34, 3) := by decide +kernel
theorem dX7_on_58 : decode cX7_on 58 = .ok (.iload 4, 2) := by decide +kernel
theorem dX7_on_60 : decode cX7_on 60 = .ok (.aload_n 0, 1) := by decide +kernel
theorem dX7_on_61 : decode cX7_on 61 = .ok (.getfield 31, 3) := by decide +kernel
theorem dX7_on_64 : decode cX7_on 64 = .ok (.bipush 10, 2) := by decide +kernel
theorem dX7_on_66 : decode cX7_on 66 = .ok (.aload_n 0, 1) := by decide +kernel
theorem dX7_on_67 : decode cX7_on 67 = .ok (.getfield 68, 3) := by decide +kernel
theorem dX7_on_70 : decode cX7_on 70 = .ok (.iload_n 2, 1) := by decide +kernel
theorem dX7_on_71 : decode cX7_on 71 = .ok (.iaload, 1) := by decide +kernel
theorem dX7_on_72 : decode cX7_on 72 = .ok (.iadd, 1) := by decide +kernel
theorem dX7_on_73 : decode cX7_on 73 = .ok (.iaload, 1) := by decide +kernel
theorem dX7_on_74 : decode cX7_on 74 = .ok (.iadd, 1) := by decide +kernel
theorem dX7_on_75 : decode cX7_on 75 = .ok (.aload_n 0, 1) := by decide +kernel
theorem dX7_on_76 : decode cX7_on 76 = .ok (.getfield 141, 3) := by decide +kernel
theorem dX7_on_79 : decode cX7_on 79 = .ok (.if_icmp .le 10, 3) := by decide +kernel
theorem dX7_on_82 : decode cX7_on 82 = .ok (.aload_n 0, 1) := by decide +kernel
theorem dX7_on_83 : decode cX7_on 83 = .ok (.getfield 68, 3) := by decide +kernel
theorem dX7_on_86 : decode cX7_on 86 = .ok (.iload_n 2, 1) := by decide +kernel
theorem dX7_on_87 : decode cX7_on 87 = .ok (.iaload, 1) := by decide +kernel
theorem dX7_on_88 : decode cX7_on 88 = .ok (.ireturn, 1) := by decide +kernel
theorem dX7_on_89 : decode cX7_on 89 = .ok (.iinc 3 1, 3) := by decide +kernel
theorem dX7_on_92 : decode cX7_on 92 = .ok (.goto (-80), 3) := by decide +kernel
theorem dX7_on_95 : decode cX7_on 95 = .ok (.iinc 2 1, 3) := by decide +kernel
theorem dX7_on_98 : decode cX7_on 98 = .ok (.goto (-96), 3) := by decide +kernel
theorem dX7_on_101 : decode cX7_on 101 = .ok (.aload_n 0, 1) := by decide +kernel
theorem dX7_on_102 : decode cX7_on 102 = .ok (.getfield 83, 3) := by decide +kernel
theorem dX7_on_105 : decode cX7_on 105 = .ok (.iload_n 1, 1) := by decide +kernel
theorem dX7_on_106 : decode cX7_on 106 = .ok (.iaload, 1) := by decide +kernel
theorem dX7_on_107 : decode cX7_on 107 = .ok (.ifCond .le 7, 3) := by decide +kernel
theorem dX7_on_110 : decode cX7_on 110 = .ok (.iconst 5, 1) := by decide +kernel
theorem dX7_on_111 : decode cX7_on 111 = .ok (.goto 4, 3) := by decide +kernel
theorem dX7_on_114 : decode cX7_on 114 = .ok (.iconst (-1), 1) := by decide +kernel
theorem dX7_on_115 : decode cX7_on 115 = .ok (.ireturn, 1) := by decide +kernel
theorem dX7_link_0 : decode cX7_link 0 = .ok (.aload_n 0, 1) := by decide +kernel
theorem dX7_link_1 : decode cX7_link 1 = .ok (.iload_n 1, 1) := by decide +kernel
theorem dX7_link_2 : decode cX7_link 2 = .ok (.invokestatic 93, 3) := by decide +kernel
theorem dX7_link_5 : decode cX7_link 5 = .ok (.ifCond .eq 12, 3) := by decide +kernel
theorem dX7_link_8 : decode cX7_link 8 = .ok (.iload_n 2, 1) := by decide +kernel
theorem dX7_link_9 : decode cX7_link 9 = .ok (.ifCond .lt 8, 3) := by decide +kernel
theorem dX7_link_12 : decode cX7_link 12 = .ok (.iload_n 2, 1) := by decide +kernel
theorem dX7_link_13 : decode cX7_link 13 = .ok (.iconst 3, 1) := by decide +kernel
theorem dX7_link_14 : decode cX7_link 14 = .ok (.if_icmp .le 7, 3) := by decide +kernel
theorem dX7_link_17 : decode cX7_link 17 = .ok (.iconst 1, 1) := by decide +kernel
theorem dX7_link_18 : decode cX7_link 18 = .ok (.goto 4, 3) := by decide +kernel
theorem dX7_link_21 : decode cX7_link 21 = .ok (.iconst 0, 1) := by decide +kernel
theorem dX7_link_22 : decode cX7_link 22 = .ok (.putfield 89, 3) := by decide +kernel
theorem dX7_link_25 : decode cX7_link 25 = .ok (.aload_n 0, 1) := by decide +kernel
theorem dX7_link_26 : decode cX7_link 26 = .ok (.getfield 89, 3) := by decide +kernel
theorem dX7_link_29 : decode cX7_link 29 = .ok (.ifCond .le 5, 3) := by decide +kernel
theorem dX7_link_32 : decode cX7_link 32 = .ok (.iconst 0, 1) := by decide +kernel
theorem dX7_link_33 : decode cX7_link 33 = .ok (.ireturn, 1) := by decide +kernel
theorem dX7_link_34 : decode cX7_link 34 = .ok (.iload_n 2, 1) := by decide +kernel
theorem dX7_link_35 : decode cX7_link 35 = .ok (.ifCond .ne 12, 3) := by decide +kernel
theorem dX7_link_38 : decode cX7_link 38 = .ok (.aload_n 0, 1) := by decide +kernel
theorem dX7_link_39 : decode cX7_link 39 = .ok (.getfield 77, 3) := by decide +kernel
theorem dX7_link_42 : decode cX7_link 42 = .ok (.iload_n 1, 1) := by decide +kernel
theorem dX7_link_43 : decode cX7_link 43 = .ok (.iaload, 1) := by decide +kernel
theorem dX7_link_44 : decode cX7_link 44 = .ok (.goto 44, 3) := by decide +kernel
theorem dX7_link_47 : decode cX7_link 47 = .ok (.iload_n 2, 1) := by decide +kernel
theorem dX7_link_48 : decode cX7_link 48 = .ok (.iconst 1, 1) := by decide +kernel
theorem dX7_link_49 : decode cX7_link 49 = .ok (.if_icmp .ne 12, 3) := by decide +kernel
theorem dX7_link_52 : decode cX7_link 52 = .ok (.aload_n 0, 1) := by decide +kernel
theorem dX7_link_53 : decode cX7_link 53 = .ok (.getfield 86, 3) := by decide +kernel
theorem dX7_link_56 : decode cX7_link 56 = .ok (.iload_n 1, 1) := by decide +kernel
theorem dX7_link_57 : decode cX7_link 57 = .ok (.iaload, 1) := by decide +kernel
theorem dX7_link_58 : decode cX7_link 58 = .ok (.goto 30, 3) := by decide +kernel
theorem dX7_link_61 : decode cX7_link 61 = .ok (.iload_n 2, 1) := by decide +kernel
theorem dX7_link_62 : decode cX7_link 62 = .ok (.iconst 2, 1) := by decide +kernel
theorem dX7_link_63 : decode cX7_link 63 = .ok (.if_icmp .ne 11, 3) := by decide +kernel
theorem dX7_link_66 : decode cX7_link 66 = .ok (.aload_n 0, 1) := by decide +kernel
theorem dX7_link_67 : decode cX7_link 67 = .ok (.iload_n 1, 1) := by decide +kernel
theorem dX7_link_68 : decode cX7_link 68 = .ok (.invokevirtual 192, 3) := by decide +kernel
theorem dX7_link_71 : decode cX7_link 71 = .ok (.goto 17, 3) := by decide +kernel
theorem dX7_link_74 : decode cX7_link 74 = .ok (.aload_n 0, 1) := by decide +kernel
theorem dX7_link_75 : decode cX7_link 75 = .ok (.getfield 74, 3) := by decide +kernel
theorem dX7_link_78 : decode cX7_link 78 = .ok (.iload_n 1, 1) := by decide +kernel
theorem dX7_link_79 : decode cX7_link 79 = .ok (.baload, 1) := by decide +kernel
theorem dX7_link_80 : decode cX7_link 80 = .ok (.ifCond .eq 7, 3) := by decide +kernel
theorem dX7_link_83 : decode cX7_link 83 = .ok (.iconst 1, 1) := by decide +kernel
theorem dX7_link_84 : decode cX7_link 84 = .ok (.goto 4, 3) := by decide +kernel
theorem dX7_link_87 : decode cX7_link 87 = .ok (.iconst 0, 1) := by decide +kernel
theorem dX7_link_88 : decode cX7_link 88 = .ok (.ireturn, 1) := by decide +kernel
theorem dX7_streams_0 : decode cX7_streams 0 = .ok (.aload_n 0, 1) := by decide +kernel
theorem dX7_streams_1 : decode cX7_streams 1 = .ok (.iload_n 1, 1) := by decide +kernel
theorem dX7_streams_2 : decode cX7_streams 2 = .ok (.ifCond .lt 8, 3) := by decide +kernel
theorem dX7_streams_5 : decode cX7_streams 5 = .ok (.iload_n 1, 1) := by decide +kernel
theorem dX7_streams_6 : decode cX7_streams 6 = .ok (.iconst 3, 1) := by decide +kernel
theorem dX7_streams_7 : decode cX7_streams 7 = .ok (.if_icmp .le 7, 3) := by decide +kernel
theorem dX7_streams_10 : decode cX7_streams 10 = .ok (.iconst 1, 1) := by decide +kernel
theorem dX7_streams_11 : decode cX7_streams 11 = .ok (.goto 4, 3) := by decide +kernel
theorem dX7_streams_14 : decode cX7_streams 14 = .ok (.iconst 0, 1) := by decide +kernel
theorem dX7_streams_15 : decode cX7_streams 15 = .ok (.putfield 89, 3) := by decide +kernel
theorem dX7_streams_18 : decode cX7_streams 18 = .ok (.aload_n 0, 1) := by decide +kernel
theorem dX7_streams_19 : decode cX7_streams 19 = .ok (.getfield 89, 3) := by decide +kernel
theorem dX7_streams_22 : decode cX7_streams 22 = .ok (.ifCond .le 5, 3) := by decide +kernel
theorem dX7_streams_25 : decode cX7_streams 25 = .ok (.iconst 0, 1) := by decide +kernel
theorem dX7_streams_26 : decode cX7_streams 26 = .ok (.ireturn, 1) := by decide +kernel
theorem dX7_streams_27 : decode cX7_streams 27 = .ok (.iload_n 1, 1) := by decide +kernel
theorem dX7_streams_28 : decode cX7_streams 28 = .ok (.ifCond .ne 10, 3) := by decide +kernel
theorem dX7_streams_31 : decode cX7_streams 31 = .ok (.aload_n 0, 1) := by decide +kernel
theorem dX7_streams_32 : decode cX7_streams 32 = .ok (.getfield 97, 3) := by decide +kernel
theorem dX7_streams_35 : decode cX7_streams 35 = .ok (.goto 37, 3) := by decide +kernel
theorem dX7_streams_38 : decode cX7_streams 38 = .ok (.iload_n 1, 1) := by decide +kernel
theorem dX7_streams_39 : decode cX7_streams 39 = .ok (.iconst 1, 1) := by decide +kernel
theorem dX7_streams_40 : decode cX7_streams 40 = .ok (.if_icmp .ne 12, 3) := by decide +kernel
theorem dX7_streams_43 : decode cX7_streams 43 = .ok (.aload_n 0, 1) := by decide +kernel
theorem dX7_streams_44 : decode cX7_streams 44 = .ok (.getfield 25, 3) := by decide +kernel
theorem dX7_streams_47 : decode cX7_streams 47 = .ok (.iconst 0, 1) := by decide +kernel
theorem dX7_streams_48 : decode cX7_streams 48 = .ok (.iaload, 1) := by decide +kernel
theorem dX7_streams_49 : decode cX7_streams 49 = .ok (.goto 23, 3) := by decide +kernel
theorem dX7_streams_52 : decode cX7_streams 52 = .ok (.iload_n 1, 1) := by decide +kernel
theorem dX7_streams_53 : decode cX7_streams 53 = .ok (.iconst 2, 1) := by decide +kernel
theorem dX7_streams_54 : decode cX7_streams 54 = .ok (.if_icmp .ne 12, 3) := by decide +kernel
theorem dX7_streams_57 : decode cX7_streams 57 = .ok (.aload_n 0, 1) := by decide +kernel
theorem dX7_streams_58 : decode cX7_streams 58 = .ok (.getfield 25, 3) := by decide +kernel
theorem dX7_streams_61 : decode cX7_streams 61 = .ok (.iconst 2, 1) := by decide +kernel
theorem dX7_streams_62 : decode cX7_streams 62 = .ok (.iaload, 1) := by decide +kernel
theorem dX7_streams_63 : decode cX7_streams 63 = .ok (.goto 9, 3) := by decide +kernel
theorem dX7_streams_66 : decode cX7_streams 66 = .ok (.aload_n 0, 1) := by decide +kernel
theorem dX7_streams_67 : decode cX7_streams 67 = .ok (.getfield 25, 3) := by decide +kernel
theorem dX7_streams_70 : decode cX7_streams 70 = .ok (.iconst 1, 1) := by decide +kernel
theorem dX7_streams_71 : decode cX7_streams 71 = .ok (.iaload, 1) := by decide +kernel
theorem dX7_streams_72 : decode cX7_streams 72 = .ok (.ireturn, 1) := by decide +kernel
