theorem dX11_share_61 : decode cX11_share 61 = .ok (.lsub, 1) := by decide +kernel
theorem dX11_share_62 : decode cX11_share 62 = .ok (.lstore_n 3, 1) := by decide +kernel
theorem dX11_share_63 : decode cX11_share 63 = .ok (.iconst 0, 1) := by decide +kernel
theorem dX11_share_64 : decode cX11_share 64 = .ok (.istore 7, 2) := by decide +kernel
theorem dX11_share_66 : decode cX11_share 66 = .ok (.iload 7, 2) := by decide +kernel
theorem dX11_share_68 : decode cX11_share 68 = .ok (.iconst 3, 1) := by decide +kernel
theorem dX11_share_69 : decode cX11_share 69 = .ok (.if_icmp .ge 70, 3) := by decide +kernel
theorem dX11_share_72 : decode cX11_share 72 = .ok (.iload_n 1, 1) := by decide +kernel
theorem dX11_share_73 : decode cX11_share 73 = .ok (.iload 7, 2) := by decide +kernel
theorem dX11_share_75 : decode cX11_share 75 = .ok (.iadd, 1) := by decide +kernel
theorem dX11_share_76 : decode cX11_share 76 = .ok (.iconst 3, 1) := by decide +kernel
theorem dX11_share_77 : decode cX11_share 77 = .ok (.irem, 1) := by decide +kernel
theorem dX11_share_78 : decode cX11_share 78 = .ok (.istore 8, 2) := by decide +kernel
theorem dX11_share_80 : decode cX11_share 80 = .ok (.aload_n 0, 1) := by decide +kernel
theorem dX11_share_81 : decode cX11_share 81 = .ok (.bipush 16, 2) := by decide +kernel
theorem dX11_share_83 : decode cX11_share 83 = .ok (.iload 8, 2) := by decide +kernel
theorem dX11_share_85 : decode cX11_share 85 = .ok (.iadd, 1) := by decide +kernel
theorem dX11_share_86 : decode cX11_share 86 = .ok (.aload_n 0, 1) := by decide +kernel
theorem dX11_share_87 : decode cX11_share 87 = .ok (.getfield 66, 3) := by decide +kernel
theorem dX11_share_90 : decode cX11_share 90 = .ok (.iload_n 1, 1) := by decide +kernel
theorem dX11_share_91 : decode cX11_share 91 = .ok (.iaload, 1) := by decide +kernel
theorem dX11_share_92 : decode cX11_share 92 = .ok (.iload_n 2, 1) := by decide +kernel
theorem dX11_share_93 : decode cX11_share 93 = .ok (.invokevirtual 213, 3) := by decide +kernel
theorem dX11_share_96 : decode cX11_share 96 = .ok (.i2l, 1) := by decide +kernel
theorem dX11_share_97 : decode cX11_share 97 = .ok (.lstore 5, 2) := by decide +kernel
theorem dX11_share_99 : decode cX11_share 99 = .ok (.aload_n 0, 1) := by decide +kernel
theorem dX11_share_100 : decode cX11_share 100 = .ok (.getfield 100, 3) := by decide +kernel
theorem dX11_share_103 : decode cX11_share 103 = .ok (.iconst 2, 1) := by decide +kernel
theorem dX11_share_104 : decode cX11_share 104 = .ok (.iload 8, 2) := by decide +kernel
theorem dX11_share_106 : decode cX11_share 106 = .ok (.iadd, 1) := by decide +kernel
theorem dX11_share_107 : decode cX11_share 107 = .ok (.lload_n 3, 1) := by decide +kernel
theorem dX11_share_108 : decode cX11_share 108 = .ok (.lload 5, 2) := by decide +kernel
theorem dX11_share_110 : decode cX11_share 110 = .ok (.lcmp, 1) := by decide +kernel
theorem dX11_share_111 : decode cX11_share 111 = .ok (.ifCond .ge 7, 3) := by decide +kernel
theorem dX11_share_114 : decode cX11_share 114 = .ok (.lload_n 3, 1) := by decide +kernel
theorem dX11_share_115 : decode cX11_share 115 = .ok (.goto 5, 3) := by decide +kernel
theorem dX11_share_118 : decode cX11_share 118 = .ok (.lload 5, 2) := by decide +kernel
theorem dX11_share_120 : decode cX11_share 120 = .ok (.lastore, 1) := by decide +kernel
theorem dX11_share_121 : decode cX11_share 121 = .ok (.lload_n 3, 1) := by decide +kernel
theorem dX11_share_122 : decode cX11_share 122 = .ok (.aload_n 0, 1) := by decide +kernel
theorem dX11_share_123 : decode cX11_share 123 = .ok (.getfield 100, 3) := by decide +kernel
theorem dX11_share_126 : decode cX11_share 126 = .ok (.iconst 2, 1) := by decide +kernel
theorem dX11_share_127 : decode cX11_share 127 = .ok (.iload 8, 2) := by decide +kernel
theorem dX11_share_129 : decode cX11_share 129 = .ok (.iadd, 1) := by decide +kernel
theorem dX11_share_130 : decode cX11_share 130 = .ok (.laload, 1) := by decide +kernel
theorem dX11_share_131 : decode cX11_share 131 = .ok (.lsub, 1) := by decide +kernel
theorem dX11_share_132 : decode cX11_share 132 = .ok (.lstore_n 3, 1) := by decide +kernel
theorem dX11_share_133 : decode cX11_share 133 = .ok (.iinc 7 1, 3) := by decide +kernel
theorem dX11_share_136 : decode cX11_share 136 = .ok (.goto (-70), 3) := by decide +kernel
theorem dX11_share_139 : decode cX11_share 139 = .ok (.aload_n 0, 1) := by decide +kernel
theorem dX11_share_140 : decode cX11_share 140 = .ok (.getfield 100, 3) := by decide +kernel
theorem dX11_share_143 : decode cX11_share 143 = .ok (.iconst 5, 1) := by decide +kernel
theorem dX11_share_144 : decode cX11_share 144 = .ok (.lload_n 3, 1) := by decide +kernel
theorem dX11_share_145 : decode cX11_share 145 = .ok (.lastore, 1) := by decide +kernel
theorem dX11_share_146 : decode cX11_share 146 = .ok (.return_, 1) := by decide +kernel
theorem dX11_isKnown_0 : decode cX11_isKnown 0 = .ok (.aload_n 0, 1) := by decide +kernel
theorem dX11_isKnown_1 : decode cX11_isKnown 1 = .ok (.iload_n 1, 1) := by decide +kernel
theorem dX11_isKnown_2 : decode cX11_isKnown 2 = .ok (.invokevirtual 223, 3) := by decide +kernel
theorem dX11_isKnown_5 : decode cX11_isKnown 5 = .ok (.ifCond .eq 25, 3) := by decide +kernel
theorem dX11_isKnown_8 : decode cX11_isKnown 8 = .ok (.iload_n 2, 1) := by decide +kernel
theorem dX11_isKnown_9 : decode cX11_isKnown 9 = .ok (.aload_n 0, 1) := by decide +kernel
theorem dX11_isKnown_10 : decode cX11_isKnown 10 = .ok (.getfield 66, 3) := by decide +kernel
theorem dX11_isKnown_13 : decode cX11_isKnown 13 = .ok (.iload_n 1, 1) := by decide +kernel
theorem dX11_isKnown_14 : decode cX11_isKnown 14 = .ok (.iaload, 1) := by decide +kernel
theorem dX11_isKnown_15 : decode cX11_isKnown 15 = .ok (.if_icmp .lt 15, 3) := by decide +kernel
theorem dX11_isKnown_18 : decode cX11_isKnown 18 = .ok (.iload_n 2, 1) := by decide +kernel
theorem dX11_isKnown_19 : decode cX11_isKnown 19 = .ok (.aload_n 0, 1) := by decide +kernel
theorem dX11_isKnown_20 : decode cX11_isKnown 20 = .ok (.getfield 190, 3) := by decide +kernel
theorem dX11_isKnown_23 : decode cX11_isKnown 23 = .ok (.if_icmp .gt 7, 3) := by decide +kernel
theorem dX11_isKnown_26 : decode cX11_isKnown 26 = .ok (.iconst 1, 1) := by decide +kernel
theorem dX11_isKnown_27 : decode cX11_isKnown 27 = .ok (.goto 4, 3) := by decide +kernel
theorem dX11_isKnown_30 : decode cX11_isKnown 30 = .ok (.iconst 0, 1) := by decide +kernel
theorem dX11_isKnown_31 : decode cX11_isKnown 31 = .ok (.ireturn, 1) := by decide +kernel
theorem dX11_award_0 : decode cX11_award 0 = .ok (.aload_n 0, 1) := by decide +kernel
theorem dX11_award_1 : decode cX11_award 1 = .ok (.iconst 0, 1) := by decide +kernel
theorem dX11_award_2 : decode cX11_award 2 = .ok (.putfield 112, 3) := by decide +kernel
theorem dX11_award_5 : decode cX11_award 5 = .ok (.aload_n 0, 1) := by decide +kernel
theorem dX11_award_6 : decode cX11_award 6 = .ok (.iload_n 1, 1) := by decide +kernel
theorem dX11_award_7 : decode cX11_award 7 = .ok (.iload_n 2, 1) := by decide +kernel
theorem dX11_award_8 : decode cX11_award 8 = .ok (.invokevirtual 243, 3) := by decide +kernel
theorem dX11_award_11 : decode cX11_award 11 = .ok (.ifCond .eq 12, 3) := by decide +kernel
theorem dX11_award_14 : decode cX11_award 14 = .ok (.iload_n 3, 1) := by decide +kernel
theorem dX11_award_15 : decode cX11_award 15 = .ok (.ifCond .lt 8, 3) := by decide +kernel
theorem dX11_award_18 : decode cX11_award 18 = .ok (.iload_n 3, 1) := by decide +kernel
theorem dX11_award_19 : decode cX11_award 19 = .ok (.iconst 5, 1) := by decide +kernel
theorem dX11_award_20 : decode cX11_award 20 = .ok (.if_icmp .le 7, 3) := by decide +kernel
theorem dX11_award_23 : decode cX11_award 23 = .ok (.ldc2_w 246, 3) := by decide +kernel
theorem dX11_award_26 : decode cX11_award 26 = .ok (.lreturn, 1) := by decide +kernel
theorem dX11_award_27 : decode cX11_award 27 = .ok (.aload_n 0, 1) := by decide +kernel
theorem dX11_award_28 : decode cX11_award 28 = .ok (.iload_n 1, 1) := by decide +kernel
theorem dX11_award_29 : decode cX11_award 29 = .ok (.iload_n 2, 1) := by decide +kernel
theorem dX11_award_30 : decode cX11_award 30 = .ok (.invokevirtual 248, 3) := by decide +kernel
theorem dX11_award_33 : decode cX11_award 33 = .ok (.aload_n 0, 1) := by decide +kernel
theorem dX11_award_34 : decode cX11_award 34 = .ok (.getfield 100, 3) := by decide +kernel
theorem dX11_award_37 : decode cX11_award 37 = .ok (.iload_n 3, 1) := by decide +kernel
theorem dX11_award_38 : decode cX11_award 38 = .ok (.laload, 1) := by decide +kernel
theorem dX11_award_39 : decode cX11_award 39 = .ok (.lreturn, 1) := by decide +kernel
theorem dX11_callAll_0 : decode cX11_callAll 0 = .ok (.aload_n 0, 1) := by decide +kernel
theorem dX11_callAll_1 : decode cX11_callAll 1 = .ok (.iload_n 1, 1) := by decide +kernel
theorem dX11_callAll_2 : decode cX11_callAll 2 = .ok (.iload_n 2, 1) := by decide +kernel
theorem dX11_callAll_3 : decode cX11_callAll 3 = .ok (.invokevirtual 248, 3) := by decide +kernel
theorem dX11_callAll_6 : decode cX11_callAll 6 = .ok (.lconst 0, 1) := by decide +kernel
theorem dX11_callAll_7 : decode cX11_callAll 7 = .ok (.lstore_n 3, 1) := by decide +kernel
theorem dX11_callAll_8 : decode cX11_callAll 8 = .ok (.iconst 0, 1) := by decide +kernel
theorem dX11_callAll_9 : decode cX11_callAll 9 = .ok (.istore 5, 2) := by decide +kernel
theorem dX11_callAll_11 : decode cX11_callAll 11 = .ok (.iload 5, 2) := by decide +kernel
theorem dX11_callAll_13 : decode cX11_callAll 13 = .ok (.aload_n 0, 1) := by decide +kernel
theorem dX11_callAll_14 : decode cX11_callAll 14 = .ok (.getfield 193, 3) := by decide +kernel
theorem dX11_callAll_17 : decode cX11_callAll 17 = .ok (.if_icmp .ge 118, 3) := by decide +kernel
theorem dX11_callAll_20 : decode cX11_callAll 20 = .ok (.aload_n 0, 1) := by decide +kernel
theorem dX11_callAll_21 : decode cX11_callAll 21 = .ok (.getfield 106, 3) := by decide +kernel
theorem dX11_callAll_24 : decode cX11_callAll 24 = .ok (.iload 5, 2) := by decide +kernel
theorem dX11_callAll_26 : decode cX11_callAll 26 = .ok (.lconst 0, 1) := by decide +kernel
theorem dX11_callAll_27 : decode cX11_callAll 27 = .ok (.lastore, 1) := by decide +kernel
theorem dX11_callAll_28 : decode cX11_callAll 28 = .ok (.aload_n 0, 1) := by decide +kernel
theorem dX11_callAll_29 : decode cX11_callAll 29 = .ok (.getfield 103, 3) := by decide +kernel
theorem dX11_callAll_32 : decode cX11_callAll 32 = .ok (.iload 5, 2) := by decide +kernel
theorem dX11_callAll_34 : decode cX11_callAll 34 = .ok (.lconst 0, 1) := by decide +kernel
theorem dX11_callAll_35 : decode cX11_callAll 35 = .ok (.lastore, 1) := by decide +kernel
theorem dX11_callAll_36 : decode cX11_callAll 36 = .ok (.aload_n 0, 1) := by decide +kernel
theorem dX11_callAll_37 : decode cX11_callAll 37 = .ok (.getfield 109, 3) := by decide +kernel
theorem dX11_callAll_40 : decode cX11_callAll 40 = .ok (.iload 5, 2) := by decide +kernel
theorem dX11_callAll_42 : decode cX11_callAll 42 = .ok (.lconst 0, 1) := by decide +kernel
theorem dX11_callAll_43 : decode cX11_callAll 43 = .ok (.lastore, 1) := by decide +kernel
theorem dX11_callAll_44 : decode cX11_callAll 44 = .ok (.aload_n 0, 1) := by decide +kernel
theorem dX11_callAll_45 : decode cX11_callAll 45 = .ok (.getfield 45, 3) := by decide +kernel
theorem dX11_callAll_48 : decode cX11_callAll 48 = .ok (.iload 5, 2) := by decide +kernel
theorem dX11_callAll_50 : decode cX11_callAll 50 = .ok (.iaload, 1) := by decide +kernel
theorem dX11_callAll_51 : decode cX11_callAll 51 = .ok (.aload_n 0, 1) := by decide +kernel
theorem dX11_callAll_52 : decode cX11_callAll 52 = .ok (.getfield 66, 3) := by decide +kernel
theorem dX11_callAll_55 : decode cX11_callAll 55 = .ok (.iload_n 1, 1) := by decide +kernel
theorem dX11_callAll_56 : decode cX11_callAll 56 = .ok (.iaload, 1) := by decide +kernel
theorem dX11_callAll_57 : decode cX11_callAll 57 = .ok (.if_icmp .le 6, 3) := by decide +kernel
theorem dX11_callAll_60 : decode cX11_callAll 60 = .ok (.goto 69, 3) := by decide +kernel
theorem dX11_callAll_63 : decode cX11_callAll 63 = .ok (.iconst 0, 1) := by decide +kernel
theorem dX11_callAll_64 : decode cX11_callAll 64 = .ok (.istore 6, 2) := by decide +kernel
theorem dX11_callAll_66 : decode cX11_callAll 66 = .ok (.iload 6, 2) := by decide +kernel
theorem dX11_callAll_68 : decode cX11_callAll 68 = .ok (.iconst 4, 1) := by decide +kernel
theorem dX11_callAll_69 : decode cX11_callAll 69 = .ok (.if_icmp .ge 50, 3) := by decide +kernel
theorem dX11_callAll_72 : decode cX11_callAll 72 = .ok (.aload_n 0, 1) := by decide +kernel
theorem dX11_callAll_73 : decode cX11_callAll 73 = .ok (.getfield 106, 3) := by decide +kernel
theorem dX11_callAll_76 : decode cX11_callAll 76 = .ok (.iload 5, 2) := by decide +kernel
theorem dX11_callAll_78 : decode cX11_callAll 78 = .ok (.dup2, 1) := by decide +kernel
theorem dX11_callAll_79 : decode cX11_callAll 79 = .ok (.laload, 1) := by decide +kernel
theorem dX11_callAll_80 : decode cX11_callAll 80 = .ok (.aload_n 0, 1) := by decide +kernel
theorem dX11_callAll_81 : decode cX11_callAll 81 = .ok (.iload 5, 2) := by decide +kernel
theorem dX11_callAll_83 : decode cX11_callAll 83 = .ok (.iload 6, 2) := by decide +kernel
theorem dX11_callAll_85 : decode cX11_callAll 85 = .ok (.aload_n 0, 1) := by decide +kernel
theorem dX11_callAll_86 : decode cX11_callAll 86 = .ok (.getfield 66, 3) := by decide +kernel
theorem dX11_callAll_89 : decode cX11_callAll 89 = .ok (.iload_n 1, 1) := by decide +kernel
theorem dX11_callAll_90 : decode cX11_callAll 90 = .ok (.iaload, 1) := by decide +kernel
theorem dX11_callAll_91 : decode cX11_callAll 91 = .ok (.iload_n 2, 1) := by decide +kernel
theorem dX11_callAll_92 : decode cX11_callAll 92 = .ok (.invokevirtual 205, 3) := by decide +kernel
theorem dX11_callAll_95 : decode cX11_callAll 95 = .ok (.i2l, 1) := by decide +kernel
theorem dX11_callAll_96 : decode cX11_callAll 96 = .ok (.aload_n 0, 1) := by decide +kernel
theorem dX11_callAll_97 : decode cX11_callAll 97 = .ok (.iload 6, 2) := by decide +kernel
theorem dX11_callAll_99 : decode cX11_callAll 99 = .ok (.aload_n 0, 1) := by decide +kernel
theorem dX11_callAll_100 : decode cX11_callAll 100 = .ok (.getfield 66, 3) := by decide +kernel
theorem dX11_callAll_103 : decode cX11_callAll 103 = .ok (.iload_n 1, 1) := by decide +kernel
theorem dX11_callAll_104 : decode cX11_callAll 104 = .ok (.iaload, 1) := by decide +kernel
theorem dX11_callAll_105 : decode cX11_callAll 105 = .ok (.iload_n 2, 1) := by decide +kernel
theorem dX11_callAll_106 : decode cX11_callAll 106 = .ok (.invokevirtual 213, 3) := by decide +kernel
theorem dX11_callAll_109 : decode cX11_callAll 109 = .ok (.i2l, 1) := by decide +kernel
theorem dX11_callAll_110 : decode cX11_callAll 110 = .ok (.lmul, 1) := by decide +kernel
theorem dX11_callAll_111 : decode cX11_callAll 111 = .ok (.ladd, 1) := by decide +kernel
theorem dX11_callAll_112 : decode cX11_callAll 112 = .ok (.lastore, 1) := by decide +kernel
theorem dX11_callAll_113 : decode cX11_callAll 113 = .ok (.iinc 6 1, 3) := by decide +kernel
theorem dX11_callAll_116 : decode cX11_callAll 116 = .ok (.goto (-50), 3) := by decide +kernel
theorem dX11_callAll_119 : decode cX11_callAll 119 = .ok (.lload_n 3, 1) := by decide +kernel
theorem dX11_callAll_120 : decode cX11_callAll 120 = .ok (.aload_n 0, 1) := by decide +kernel
theorem dX11_callAll_121 : decode cX11_callAll 121 = .ok (.getfield 106, 3) := by decide +kernel
theorem dX11_callAll_124 : decode cX11_callAll 124 = .ok (.iload 5, 2) := by decide +kernel
theorem dX11_callAll_126 : decode cX11_callAll 126 = .ok (.laload, 1) := by decide +kernel
theorem dX11_callAll_127 : decode cX11_callAll 127 = .ok (.ladd, 1) := by decide +kernel
theorem dX11_callAll_128 : decode cX11_callAll 128 = .ok (.lstore_n 3, 1) := by decide +kernel
theorem dX11_callAll_129 : decode cX11_callAll 129 = .ok (.iinc 5 1, 3) := by decide +kernel
theorem dX11_callAll_132 : decode cX11_callAll 132 = .ok (.goto (-121), 3) := by decide +kernel
theorem dX11_callAll_135 : decode cX11_callAll 135 = .ok (.lload_n 3, 1) := by decide +kernel
theorem dX11_callAll_136 : decode cX11_callAll 136 = .ok (.lconst 0, 1) := by decide +kernel
theorem dX11_callAll_137 : decode cX11_callAll 137 = .ok (.lcmp, 1) := by decide +kernel
theorem dX11_callAll_138 : decode cX11_callAll 138 = .ok (.ifCond .ne 16, 3) := by decide +kernel
theorem dX11_callAll_141 : decode cX11_callAll 141 = .ok (.aload_n 0, 1) := by decide +kernel
theorem dX11_callAll_142 : decode cX11_callAll 142 = .ok (.getfield 103, 3) := by decide +kernel
theorem dX11_callAll_145 : decode cX11_callAll 145 = .ok (.iconst 0, 1) := by decide +kernel
theorem dX11_callAll_146 : decode cX11_callAll 146 = .ok (.aload_n 0, 1) := by decide +kernel
theorem dX11_callAll_147 : decode cX11_callAll 147 = .ok (.getfield 100, 3) := by decide +kernel
theorem dX11_callAll_150 : decode cX11_callAll 150 = .ok (.iconst 5, 1) := by decide +kernel
theorem dX11_callAll_151 : decode cX11_callAll 151 = .ok (.laload, 1) := by decide +kernel
theorem dX11_callAll_152 : decode cX11_callAll 152 = .ok (.lastore, 1) := by decide +kernel
theorem dX11_callAll_153 : decode cX11_callAll 153 = .ok (.return_, 1) := by decide +kernel
theorem dX11_callAll_154 : decode cX11_callAll 154 = .ok (.aload_n 0, 1) := by decide +kernel
theorem dX11_callAll_155 : decode cX11_callAll 155 = .ok (.getfield 100, 3) := by decide +kernel
theorem dX11_callAll_158 : decode cX11_callAll 158 = .ok (.iconst 5, 1) := by decide +kernel
theorem dX11_callAll_159 : decode cX11_callAll 159 = .ok (.laload, 1) := by decide +kernel
theorem dX11_callAll_160 : decode cX11_callAll 160 = .ok (.lstore 5, 2) := by decide +kernel
theorem dX11_callAll_162 : decode cX11_callAll 162 = .ok (.iconst 0, 1) := by decide +kernel
theorem dX11_callAll_163 : decode cX11_callAll 163 = .ok (.istore 7, 2) := by decide +kernel
theorem dX11_callAll_165 : decode cX11_callAll 165 = .ok (.iload 7, 2) := by decide +kernel
theorem dX11_callAll_167 : decode cX11_callAll 167 = .ok (.aload_n 0, 1) := by decide +kernel
theorem dX11_callAll_168 : decode cX11_callAll 168 = .ok (.getfield 193, 3) := by decide +kernel
theorem dX11_callAll_171 : decode cX11_callAll 171 = .ok (.if_icmp .ge 67, 3) := by decide +kernel
theorem dX11_callAll_174 : decode cX11_callAll 174 = .ok (.aload_n 0, 1) := by decide +kernel
theorem dX11_callAll_175 : decode cX11_callAll 175 = .ok (.getfield 103, 3) := by decide +kernel
theorem dX11_callAll_178 : decode cX11_callAll 178 = .ok (.iload 7, 2) := by decide +kernel
theorem dX11_callAll_180 : decode cX11_callAll 180 = .ok (.aload_n 0, 1) := by decide +kernel
theorem dX11_callAll_181 : decode cX11_callAll 181 = .ok (.getfield 100, 3) := by decide +kernel
theorem dX11_callAll_184 : decode cX11_callAll 184 = .ok (.iconst 5, 1) := by decide +kernel
theorem dX11_callAll_185 : decode cX11_callAll 185 = .ok (.laload, 1) := by decide +kernel
theorem dX11_callAll_186 : decode cX11_callAll 186 = .ok (.aload_n 0, 1) := by decide +kernel
theorem dX11_callAll_187 : decode cX11_callAll 187 = .ok (.getfield 106, 3) := by decide +kernel
theorem dX11_callAll_190 : decode cX11_callAll 190 = .ok (.iload 7, 2) := by decide +kernel
theorem dX11_callAll_192 : decode cX11_callAll 192 = .ok (.laload, 1) := by decide +kernel
theorem dX11_callAll_193 : decode cX11_callAll 193 = .ok (.lmul, 1) := by decide +kernel
theorem dX11_callAll_194 : decode cX11_callAll 194 = .ok (.lload_n 3, 1) := by decide +kernel
theorem dX11_callAll_195 : decode cX11_callAll 195 = .ok (.ldiv, 1) := by decide +kernel
theorem dX11_callAll_196 : decode cX11_callAll 196 = .ok (.lastore, 1) := by decide +kernel
theorem dX11_callAll_197 : decode cX11_callAll 197 = .ok (.aload_n 0, 1) := by decide +kernel
theorem dX11_callAll_198 : decode cX11_callAll 198 = .ok (.getfield 109, 3) := by decide +kernel
theorem dX11_callAll_201 : decode cX11_callAll 201 = .ok (.iload 7, 2) := by decide +kernel
theorem dX11_callAll_203 : decode cX11_callAll 203 = .ok (.aload_n 0, 1) := by decide +kernel
theorem dX11_callAll_204 : decode cX11_callAll 204 = .ok (.getfield 100, 3) := by decide +kernel
theorem dX11_callAll_207 : decode cX11_callAll 207 = .ok (.iconst 5, 1) := by decide +kernel
theorem dX11_callAll_208 : decode cX11_callAll 208 = .ok (.laload, 1) := by decide +kernel
theorem dX11_callAll_209 : decode cX11_callAll 209 = .ok (.aload_n 0, 1) := by decide +kernel
theorem dX11_callAll_210 : decode cX11_callAll 210 = .ok (.getfield 106, 3) := by decide +kernel
theorem dX11_callAll_213 : decode cX11_callAll 213 = .ok (.iload 7, 2) := by decide +kernel
theorem dX11_callAll_215 : decode cX11_callAll 215 = .ok (.laload, 1) := by decide +kernel
theorem dX11_callAll_216 : decode cX11_callAll 216 = .ok (.lmul, 1) := by decide +kernel
theorem dX11_callAll_217 : decode cX11_callAll 217 = .ok (.lload_n 3, 1) := by decide +kernel
theorem dX11_callAll_218 : decode cX11_callAll 218 = .ok (.lrem, 1) := by decide +kernel
theorem dX11_callAll_219 : decode cX11_callAll 219 = .ok (.lastore, 1) := by decide +kernel
theorem dX11_callAll_220 : decode cX11_callAll 220 = .ok (.lload 5, 2) := by decide +kernel
theorem dX11_callAll_222 : decode cX11_callAll 222 = .ok (.aload_n 0, 1) := by decide +kernel
theorem dX11_callAll_223 : decode cX11_callAll 223 = .ok (.getfield 103, 3) := by decide +kernel
theorem dX11_callAll_226 : decode cX11_callAll 226 = .ok (.iload 7, 2) := by decide +kernel
theorem dX11_callAll_228 : decode cX11_callAll 228 = .ok (.laload, 1) := by decide +kernel
theorem dX11_callAll_229 : decode cX11_callAll 229 = .ok (.lsub, 1) := by decide +kernel
theorem dX11_callAll_230 : decode cX11_callAll 230 = .ok (.lstore 5, 2) := by decide +kernel
theorem dX11_callAll_232 : decode cX11_callAll 232 = .ok (.iinc 7 1, 3) := by decide +kernel
theorem dX11_callAll_235 : decode cX11_callAll 235 = .ok (.goto (-70), 3) := by decide +kernel
theorem dX11_callAll_238 : decode cX11_callAll 238 = .ok (.lload 5, 2) := by decide +kernel
theorem dX11_callAll_240 : decode cX11_callAll 240 = .ok (.lconst 0, 1) := by decide +kernel
theorem dX11_callAll_241 : decode cX11_callAll 241 = .ok (.lcmp, 1) := by decide +kernel
theorem dX11_callAll_242 : decode cX11_callAll 242 = .ok (.ifCond .le 81, 3) := by decide +kernel
theorem dX11_callAll_245 : decode cX11_callAll 245 = .ok (.iconst (-1), 1) := by decide +kernel
theorem dX11_callAll_246 : decode cX11_callAll 246 = .ok (.istore 7, 2) := by decide +kernel
theorem dX11_callAll_248 : decode cX11_callAll 248 = .ok (.iconst 0, 1) := by decide +kernel
theorem dX11_callAll_249 : decode cX11_callAll 249 = .ok (.istore 8, 2) := by decide +kernel
theorem dX11_callAll_251 : decode cX11_callAll 251 = .ok (.iload 8, 2) := by decide +kernel
theorem dX11_callAll_253 : decode cX11_callAll 253 = .ok (.aload_n 0, 1) := by decide +kernel
theorem dX11_callAll_254 : decode cX11_callAll 254 = .ok (.getfield 193, 3) := by decide +kernel
theorem dX11_callAll_257 : decode cX11_callAll 257 = .ok (.if_icmp .ge 36, 3) := by decide +kernel
theorem dX11_callAll_260 : decode cX11_callAll 260 = .ok (.iload 7, 2) := by decide +kernel
theorem dX11_callAll_262 : decode cX11_callAll 262 = .ok (.ifCond .lt 21, 3) := by decide +kernel
theorem dX11_callAll_265 : decode cX11_callAll 265 = .ok (.aload_n 0, 1) := by decide +kernel
theorem dX11_callAll_266 : decode cX11_callAll 266 = .ok (.getfield 109, 3) := by decide +kernel
theorem dX11_callAll_269 : decode cX11_callAll 269 = .ok (.iload 8, 2) := by decide +kernel
theorem dX11_callAll_271 : decode cX11_callAll 271 = .ok (.laload, 1) := by decide +kernel
theorem dX11_callAll_272 : decode cX11_callAll 272 = .ok (.aload_n 0, 1) := by decide +kernel
theorem dX11_callAll_273 : decode cX11_callAll 273 = .ok (.getfield 109, 3) := by decide +kernel
theorem dX11_callAll_276 : decode cX11_callAll 276 = .ok (.iload 7, 2) := by decide +kernel
theorem dX11_callAll_278 : decode cX11_callAll 278 = .ok (.laload, 1) := by decide +kernel
theorem dX11_callAll_279 : decode cX11_callAll 279 = .ok (.lcmp, 1) := by decide +kernel
theorem dX11_callAll_280 : decode cX11_callAll 280 = .ok (.ifCond .le 7, 3) := by decide +kernel
theorem dX11_callAll_283 : decode cX11_callAll 283 = .ok (.iload 8, 2) := by decide +kernel
theorem dX11_callAll_285 : decode cX11_callAll 285 = .ok (.istore 7, 2) := by decide +kernel
theorem dX11_callAll_287 : decode cX11_callAll 287 = .ok (.iinc 8 1, 3) := by decide +kernel
theorem dX11_callAll_290 : decode cX11_callAll 290 = .ok (.goto (-39), 3) := by decide +kernel
theorem dX11_callAll_293 : decode cX11_callAll 293 = .ok (.aload_n 0, 1) := by decide +kernel
theorem dX11_callAll_294 : decode cX11_callAll 294 = .ok (.getfield 103, 3) := by decide +kernel
theorem dX11_callAll_297 : decode cX11_callAll 297 = .ok (.iload 7, 2) := by decide +kernel
theorem dX11_callAll_299 : decode cX11_callAll 299 = .ok (.dup2, 1) := by decide +kernel
theorem dX11_callAll_300 : decode cX11_callAll 300 = .ok (.laload, 1) := by decide +kernel
theorem dX11_callAll_301 : decode cX11_callAll 301 = .ok (.lconst 1, 1) := by decide +kernel
theorem dX11_callAll_302 : decode cX11_callAll 302 = .ok (.ladd, 1) := by decide +kernel
theorem dX11_callAll_303 : decode cX11_callAll 303 = .ok (.lastore, 1) := by decide +kernel
theorem dX11_callAll_304 : decode cX11_callAll 304 = .ok (.aload_n 0, 1) := by decide +kernel
theorem dX11_callAll_305 : decode cX11_callAll 305 = .ok (.getfield 109, 3) := by decide +kernel
theorem dX11_callAll_308 : decode cX11_callAll 308 = .ok (.iload 7, 2) := by decide +kernel
theorem dX11_callAll_310 : decode cX11_callAll 310 = .ok (.ldc2_w 246, 3) := by decide +kernel
theorem dX11_callAll_313 : decode cX11_callAll 313 = .ok (.lastore, 1) := by decide +kernel
theorem dX11_callAll_314 : decode cX11_callAll 314 = .ok (.lload 5, 2) := by decide +kernel
theorem dX11_callAll_316 : decode cX11_callAll 316 = .ok (.lconst 1, 1) := by decide +kernel
theorem dX11_callAll_317 : decode cX11_callAll 317 = .ok (.lsub, 1) := by decide +kernel
theorem dX11_callAll_318 : decode cX11_callAll 318 = .ok (.lstore 5, 2) := by decide +kernel
theorem dX11_callAll_320 : decode cX11_callAll 320 = .ok (.goto (-82), 3) := by decide +kernel
theorem dX11_callAll_323 : decode cX11_callAll 323 = .ok (.return_, 1) := by decide +kernel
theorem dX11_call_0 : decode cX11_call 0 = .ok (.aload_n 0, 1) := by decide +kernel
theorem dX11_call_1 : decode cX11_call 1 = .ok (.iconst 0, 1) := by decide +kernel
theorem dX11_call_2 : decode cX11_call 2 = .ok (.putfield 112, 3) := by decide +kernel
theorem dX11_call_5 : decode cX11_call 5 = .ok (.aload_n 0, 1) := by decide +kernel
theorem dX11_call_6 : decode cX11_call 6 = .ok (.iload_n 1, 1) := by decide +kernel
theorem dX11_call_7 : decode cX11_call 7 = .ok (.iload_n 3, 1) := by decide +kernel
theorem dX11_call_8 : decode cX11_call 8 = .ok (.invokevirtual 243, 3) := by decide +kernel
theorem dX11_call_11 : decode cX11_call 11 = .ok (.ifCond .eq 11, 3) := by decide +kernel
theorem dX11_call_14 : decode cX11_call 14 = .ok (.aload_n 0, 1) := by decide +kernel
theorem dX11_call_15 : decode cX11_call 15 = .ok (.iload_n 2, 1) := by decide +kernel
theorem dX11_call_16 : decode cX11_call 16 = .ok (.invokevirtual 196, 3) := by decide +kernel
theorem dX11_call_19 : decode cX11_call 19 = .ok (.ifCond .ne 7, 3) := by decide +kernel
theorem dX11_call_22 : decode cX11_call 22 = .ok (.ldc2_w 246, 3) := by decide +kernel
theorem dX11_call_25 : decode cX11_call 25 = .ok (.lreturn, 1) := by decide +kernel
theorem dX11_call_26 : decode cX11_call 26 = .ok (.aload_n 0, 1) := by decide +kernel
theorem dX11_call_27 : decode cX11_call 27 = .ok (.iload_n 1, 1) := by decide +kernel
theorem dX11_call_28 : decode cX11_call 28 = .ok (.iload_n 3, 1) := by decide +kernel
theorem dX11_call_29 : decode cX11_call 29 = .ok (.invokevirtual 252, 3) := by decide +kernel
theorem dX11_call_32 : decode cX11_call 32 = .ok (.aload_n 0, 1) := by decide +kernel
theorem dX11_call_33 : decode cX11_call 33 = .ok (.getfield 103, 3) := by decide +kernel
theorem dX11_call_36 : decode cX11_call 36 = .ok (.iload_n 2, 1) := by decide +kernel
theorem dX11_call_37 : decode cX11_call 37 = .ok (.laload, 1) := by decide +kernel
theorem dX11_call_38 : decode cX11_call 38 = .ok (.lreturn, 1) := by decide +kernel
theorem dX11_book_0 : decode cX11_book 0 = .ok (.aload_n 0, 1) := by decide +kernel
theorem dX11_book_1 : decode cX11_book 1 = .ok (.iconst 0, 1) := by decide +kernel
theorem dX11_book_2 : decode cX11_book 2 = .ok (.putfield 112, 3) := by decide +kernel
theorem dX11_book_5 : decode cX11_book 5 = .ok (.aload_n 0, 1) := by decide +kernel
theorem dX11_book_6 : decode cX11_book 6 = .ok (.iconst 0, 1) := by decide +kernel
theorem dX11_book_7 : decode cX11_book 7 = .ok (.putfield 255, 3) := by decide +kernel
theorem dX11_book_10 : decode cX11_book 10 = .ok (.iconst 0, 1) := by decide +kernel
theorem dX11_book_11 : decode cX11_book 11 = .ok (.istore_n 1, 1) := by decide +kernel
theorem dX11_book_12 : decode cX11_book 12 = .ok (.iload_n 1, 1) := by decide +kernel
theorem dX11_book_13 : decode cX11_book 13 = .ok (.aload_n 0, 1) := by decide +kernel
theorem dX11_book_14 : decode cX11_book 14 = .ok (.getfield 216, 3) := by decide +kernel
theorem dX11_book_17 : decode cX11_book 17 = .ok (.if_icmp .ge 173, 3) := by decide +kernel
theorem dX11_book_20 : decode cX11_book 20 = .ok (.aload_n 0, 1) := by decide +kernel
theorem dX11_book_21 : decode cX11_book 21 = .ok (.getfield 72, 3) := by decide +kernel
theorem dX11_book_24 : decode cX11_book 24 = .ok (.iload_n 1, 1) := by decide +kernel
theorem dX11_book_25 : decode cX11_book 25 = .ok (.baload, 1) := by decide +kernel
theorem dX11_book_26 : decode cX11_book 26 = .ok (.ifCond .ne 6, 3) := by decide +kernel
theorem dX11_book_29 : decode cX11_book 29 = .ok (.goto 155, 3) := by decide +kernel
theorem dX11_book_32 : decode cX11_book 32 = .ok (.aload_n 0, 1) := by decide +kernel
theorem dX11_book_33 : decode cX11_book 33 = .ok (.iload_n 1, 1) := by decide +kernel
theorem dX11_book_34 : decode cX11_book 34 = .ok (.aload_n 0, 1) := by decide +kernel
theorem dX11_book_35 : decode cX11_book 35 = .ok (.getfield 190, 3) := by decide +kernel
theorem dX11_book_38 : decode cX11_book 38 = .ok (.invokevirtual 252, 3) := by decide +kernel
theorem dX11_book_41 : decode cX11_book 41 = .ok (.iconst 0, 1) := by decide +kernel
theorem dX11_book_42 : decode cX11_book 42 = .ok (.istore_n 2, 1) := by decide +kernel
theorem dX11_book_43 : decode cX11_book 43 = .ok (.iload_n 2, 1) := by decide +kernel
theorem dX11_book_44 : decode cX11_book 44 = .ok (.aload_n 0, 1) := by decide +kernel
theorem dX11_book_45 : decode cX11_book 45 = .ok (.getfield 193, 3) := by decide +kernel
theorem dX11_book_48 : decode cX11_book 48 = .ok (.if_icmp .ge 136, 3) := by decide +kernel
theorem dX11_book_51 : decode cX11_book 51 = .ok (.aload_n 0, 1) := by decide +kernel
theorem dX11_book_52 : decode cX11_book 52 = .ok (.getfield 63, 3) := by decide +kernel
theorem dX11_book_55 : decode cX11_book 55 = .ok (.iload_n 1, 1) := by decide +kernel
theorem dX11_book_56 : decode cX11_book 56 = .ok (.iaload, 1) := by decide +kernel
theorem dX11_book_57 : decode cX11_book 57 = .ok (.iload_n 2, 1) := by decide +kernel
theorem dX11_book_58 : decode cX11_book 58 = .ok (.if_icmp .ne 12, 3) := by decide +kernel
theorem dX11_book_61 : decode cX11_book 61 = .ok (.aload_n 0, 1) := by decide +kernel
theorem dX11_book_62 : decode cX11_book 62 = .ok (.getfield 100, 3) := by decide +kernel
theorem dX11_book_65 : decode cX11_book 65 = .ok (.iconst 0, 1) := by decide +kernel
theorem dX11_book_66 : decode cX11_book 66 = .ok (.laload, 1) := by decide +kernel
theorem dX11_book_67 : decode cX11_book 67 = .ok (.goto 4, 3) := by decide +kernel
theorem dX11_book_70 : decode cX11_book 70 = .ok (.lconst 0, 1) := by decide +kernel
theorem dX11_book_71 : decode cX11_book 71 = .ok (.aload_n 0, 1) := by decide +kernel
theorem dX11_book_72 : decode cX11_book 72 = .ok (.getfield 103, 3) := by decide +kernel
theorem dX11_book_75 : decode cX11_book 75 = .ok (.iload_n 2, 1) := by decide +kernel
theorem dX11_book_76 : decode cX11_book 76 = .ok (.laload, 1) := by decide +kernel
theorem dX11_book_77 : decode cX11_book 77 = .ok (.lsub, 1) := by decide +kernel
theorem dX11_book_78 : decode cX11_book 78 = .ok (.lstore_n 3, 1) := by decide +kernel
theorem dX11_book_79 : decode cX11_book 79 = .ok (.lload_n 3, 1) := by decide +kernel
theorem dX11_book_80 : decode cX11_book 80 = .ok (.aload_n 0, 1) := by decide +kernel
theorem dX11_book_81 : decode cX11_book 81 = .ok (.getfield 81, 3) := by decide +kernel
theorem dX11_book_84 : decode cX11_book 84 = .ok (.bipush 12, 2) := by decide +kernel
theorem dX11_book_86 : decode cX11_book 86 = .ok (.iload_n 1, 1) := by decide +kernel
theorem dX11_book_87 : decode cX11_book 87 = .ok (.imul, 1) := by decide +kernel
theorem dX11_book_88 : decode cX11_book 88 = .ok (.iload_n 2, 1) := by decide +kernel
theorem dX11_book_89 : decode cX11_book 89 = .ok (.iadd, 1) := by decide +kernel
theorem dX11_book_90 : decode cX11_book 90 = .ok (.laload, 1) := by decide +kernel
theorem dX11_book_91 : decode cX11_book 91 = .ok (.lsub, 1) := by decide +kernel
theorem dX11_book_92 : decode cX11_book 92 = .ok (.lstore 5, 2) := by decide +kernel
theorem dX11_book_94 : decode cX11_book 94 = .ok (.lload 5, 2) := by decide +kernel
theorem dX11_book_96 : decode cX11_book 96 = .ok (.lconst 0, 1) := by decide +kernel
theorem dX11_book_97 : decode cX11_book 97 = .ok (.lcmp, 1) := by decide +kernel
theorem dX11_book_98 : decode cX11_book 98 = .ok (.ifCond .ne 6, 3) := by decide +kernel
theorem dX11_book_101 : decode cX11_book 101 = .ok (.goto 77, 3) := by decide +kernel
theorem dX11_book_104 : decode cX11_book 104 = .ok (.aload_n 0, 1) := by decide +kernel
theorem dX11_book_105 : decode cX11_book 105 = .ok (.getfield 81, 3) := by decide +kernel
theorem dX11_book_108 : decode cX11_book 108 = .ok (.bipush 12, 2) := by decide +kernel
theorem dX11_book_110 : decode cX11_book 110 = .ok (.iload_n 1, 1) := by decide +kernel
theorem dX11_book_111 : decode cX11_book 111 = .ok (.imul, 1) := by decide +kernel
theorem dX11_book_112 : decode cX11_book 112 = .ok (.iload_n 2, 1) := by decide +kernel
theorem dX11_book_113 : decode cX11_book 113 = .ok (.iadd, 1) := by decide +kernel
theorem dX11_book_114 : decode cX11_book 114 = .ok (.lload_n 3, 1) := by decide +kernel
theorem dX11_book_115 : decode cX11_book 115 = .ok (.lastore, 1) := by decide +kernel
theorem dX11_book_116 : decode cX11_book 116 = .ok (.aload_n 0, 1) := by decide +kernel
theorem dX11_book_117 : decode cX11_book 117 = .ok (.getfield 85, 3) := by decide +kernel
theorem dX11_book_120 : decode cX11_book 120 = .ok (.iload_n 2, 1) := by decide +kernel
theorem dX11_book_121 : decode cX11_book 121 = .ok (.dup2, 1) := by decide +kernel
theorem dX11_book_122 : decode cX11_book 122 = .ok (.laload, 1) := by decide +kernel
theorem dX11_book_123 : decode cX11_book 123 = .ok (.lload 5, 2) := by decide +kernel
theorem dX11_book_125 : decode cX11_book 125 = .ok (.ladd, 1) := by decide +kernel
theorem dX11_book_126 : decode cX11_book 126 = .ok (.lastore, 1) := by decide +kernel
theorem dX11_book_127 : decode cX11_book 127 = .ok (.aload_n 0, 1) := by decide +kernel
theorem dX11_book_128 : decode cX11_book 128 = .ok (.getfield 88, 3) := by decide +kernel
theorem dX11_book_131 : decode cX11_book 131 = .ok (.aload_n 0, 1) := by decide +kernel
theorem dX11_book_132 : decode cX11_book 132 = .ok (.getfield 255, 3) := by decide +kernel
theorem dX11_book_135 : decode cX11_book 135 = .ok (.iload_n 1, 1) := by decide +kernel
theorem dX11_book_136 : decode cX11_book 136 = .ok (.iastore, 1) := by decide +kernel
theorem dX11_book_137 : decode cX11_book 137 = .ok (.aload_n 0, 1) := by decide +kernel
theorem dX11_book_138 : decode cX11_book 138 = .ok (.getfield 91, 3) := by decide +kernel
theorem dX11_book_141 : decode cX11_book 141 = .ok (.aload_n 0, 1) := by decide +kernel
theorem dX11_book_142 : decode cX11_book 142 = .ok (.getfield 255, 3) := by decide +kernel
theorem dX11_book_145 : decode cX11_book 145 = .ok (.iload_n 2, 1) := by decide +kernel
theorem dX11_book_146 : decode cX11_book 146 = .ok (.iastore, 1) := by decide +kernel
theorem dX11_book_147 : decode cX11_book 147 = .ok (.aload_n 0, 1) := by decide +kernel
theorem dX11_book_148 : decode cX11_book 148 = .ok (.getfield 94, 3) := by decide +kernel
theorem dX11_book_151 : decode cX11_book 151 = .ok (.aload_n 0, 1) := by decide +kernel
theorem dX11_book_152 : decode cX11_book 152 = .ok (.getfield 255, 3) := by decide +kernel
theorem dX11_book_155 : decode cX11_book 155 = .ok (.lload 5, 2) := by decide +kernel
theorem dX11_book_157 : decode cX11_book 157 = .ok (.lastore, 1) := by decide +kernel
theorem dX11_book_158 : decode cX11_book 158 = .ok (.aload_n 0, 1) := by decide +kernel
theorem dX11_book_159 : decode cX11_book 159 = .ok (.dup, 1) := by decide +kernel
theorem dX11_book_160 : decode cX11_book 160 = .ok (.getfield 255, 3) := by decide +kernel
theorem dX11_book_163 : decode cX11_book 163 = .ok (.iconst 1, 1) := by decide +kernel
theorem dX11_book_164 : decode cX11_book 164 = .ok (.iadd, 1) := by decide +kernel
theorem dX11_book_165 : decode cX11_book 165 = .ok (.putfield 255, 3) := by decide +kernel
theorem dX11_book_168 : decode cX11_book 168 = .ok (.aload_n 0, 1) := by decide +kernel
theorem dX11_book_169 : decode cX11_book 169 = .ok (.dup, 1) := by decide +kernel
theorem dX11_book_170 : decode cX11_book 170 = .ok (.getfield 258, 3) := by decide +kernel
theorem dX11_book_173 : decode cX11_book 173 = .ok (.iconst 1, 1) := by decide +kernel
theorem dX11_book_174 : decode cX11_book 174 = .ok (.iadd, 1) := by decide +kernel
theorem dX11_book_175 : decode cX11_book 175 = .ok (.putfield 258, 3) := by decide +kernel
theorem dX11_book_178 : decode cX11_book 178 = .ok (.iinc 2 1, 3) := by decide +kernel
theorem dX11_book_181 : decode cX11_book 181 = .ok (.goto (-138), 3) := by decide +kernel
theorem dX11_book_184 : decode cX11_book 184 = .ok (.iinc 1 1, 3) := by decide +kernel
theorem dX11_book_187 : decode cX11_book 187 = .ok (.goto (-175), 3) := by decide +kernel
theorem dX11_book_190 : decode cX11_book 190 = .ok (.aload_n 0, 1) := by decide +kernel
theorem dX11_book_191 : decode cX11_book 191 = .ok (.getfield 255, 3) := by decide +kernel
theorem dX11_book_194 : decode cX11_book 194 = .ok (.ireturn, 1) := by decide +kernel
theorem dX11_booked_0 : decode cX11_booked 0 = .ok (.aload_n 0, 1) := by decide +kernel
theorem dX11_booked_1 : decode cX11_booked 1 = .ok (.iconst 0, 1) := by decide +kernel
theorem dX11_booked_2 : decode cX11_booked 2 = .ok (.putfield 112, 3) := by decide +kernel
theorem dX11_booked_5 : decode cX11_booked 5 = .ok (.iload_n 1, 1) := by decide +kernel
theorem dX11_booked_6 : decode cX11_booked 6 = .ok (.ifCond .lt 11, 3) := by decide +kernel
theorem dX11_booked_9 : decode cX11_booked 9 = .ok (.iload_n 1, 1) := by decide +kernel
theorem dX11_booked_10 : decode cX11_booked 10 = .ok (.aload_n 0, 1) := by decide +kernel
theorem dX11_booked_11 : decode cX11_booked 11 = .ok (.getfield 255, 3) := by decide +kernel
theorem dX11_booked_14 : decode cX11_booked 14 = .ok (.if_icmp .lt 7, 3) := by decide +kernel
theorem dX11_booked_17 : decode cX11_booked 17 = .ok (.ldc2_w 246, 3) := by decide +kernel
theorem dX11_booked_20 : decode cX11_booked 20 = .ok (.lreturn, 1) := by decide +kernel
theorem dX11_booked_21 : decode cX11_booked 21 = .ok (.iload_n 2, 1) := by decide +kernel
theorem dX11_booked_22 : decode cX11_booked 22 = .ok (.ifCond .ne 13, 3) := by decide +kernel
theorem dX11_booked_25 : decode cX11_booked 25 = .ok (.aload_n 0, 1) := by decide +kernel
theorem dX11_booked_26 : decode cX11_booked 26 = .ok (.getfield 88, 3) := by decide +kernel
theorem dX11_booked_29 : decode cX11_booked 29 = .ok (.iload_n 1, 1) := by decide +kernel
theorem dX11_booked_30 : decode cX11_booked 30 = .ok (.iaload, 1) := by decide +kernel
theorem dX11_booked_31 : decode cX11_booked 31 = .ok (.i2l, 1) := by decide +kernel
theorem dX11_booked_32 : decode cX11_booked 32 = .ok (.goto 35, 3) := by decide +kernel
theorem dX11_booked_35 : decode cX11_booked 35 = .ok (.iload_n 2, 1) := by decide +kernel
theorem dX11_booked_36 : decode cX11_booked 36 = .ok (.iconst 1, 1) := by decide +kernel
theorem dX11_booked_37 : decode cX11_booked 37 = .ok (.if_icmp .ne 13, 3) := by decide +kernel
theorem dX11_booked_40 : decode cX11_booked 40 = .ok (.aload_n 0, 1) := by decide +kernel
theorem dX11_booked_41 : decode cX11_booked 41 = .ok (.getfield 91, 3) := by decide +kernel
theorem dX11_booked_44 : decode cX11_booked 44 = .ok (.iload_n 1, 1) := by decide +kernel
theorem dX11_booked_45 : decode cX11_booked 45 = .ok (.iaload, 1) := by decide +kernel
theorem dX11_booked_46 : decode cX11_booked 46 = .ok (.i2l, 1) := by decide +kernel
theorem dX11_booked_47 : decode cX11_booked 47 = .ok (.goto 20, 3) := by decide +kernel
theorem dX11_booked_50 : decode cX11_booked 50 = .ok (.iload_n 2, 1) := by decide +kernel
theorem dX11_booked_51 : decode cX11_booked 51 = .ok (.iconst 2, 1) := by decide +kernel
theorem dX11_booked_52 : decode cX11_booked 52 = .ok (.if_icmp .ne 12, 3) := by decide +kernel
theorem dX11_booked_55 : decode cX11_booked 55 = .ok (.aload_n 0, 1) := by decide +kernel
theorem dX11_booked_56 : decode cX11_booked 56 = .ok (.getfield 94, 3) := by decide +kernel
theorem dX11_booked_59 : decode cX11_booked 59 = .ok (.iload_n 1, 1) := by decide +kernel
theorem dX11_booked_60 : decode cX11_booked 60 = .ok (.laload, 1) := by decide +kernel
theorem dX11_booked_61 : decode cX11_booked 61 = .ok (.goto 6, 3) := by decide +kernel
theorem dX11_booked_64 : decode cX11_booked 64 = .ok (.ldc2_w 246, 3) := by decide +kernel
theorem dX11_booked_67 : decode cX11_booked 67 = .ok (.lreturn, 1) := by decide +kernel
theorem dX11_account_0 : decode cX11_account 0 = .ok (.aload_n 0, 1) := by decide +kernel
theorem dX11_account_1 : decode cX11_account 1 = .ok (.iconst 0, 1) := by decide +kernel
theorem dX11_account_2 : decode cX11_account 2 = .ok (.putfield 112, 3) := by decide +kernel
theorem dX11_account_5 : decode cX11_account 5 = .ok (.aload_n 0, 1) := by decide +kernel
theorem dX11_account_6 : decode cX11_account 6 = .ok (.iload_n 1, 1) := by decide +kernel
theorem dX11_account_7 : decode cX11_account 7 = .ok (.invokevirtual 196, 3) := by decide +kernel
theorem dX11_account_10 : decode cX11_account 10 = .ok (.ifCond .eq 12, 3) := by decide +kernel
theorem dX11_account_13 : decode cX11_account 13 = .ok (.aload_n 0, 1) := by decide +kernel
theorem dX11_account_14 : decode cX11_account 14 = .ok (.getfield 85, 3) := by decide +kernel
theorem dX11_account_17 : decode cX11_account 17 = .ok (.iload_n 1, 1) := by decide +kernel
theorem dX11_account_18 : decode cX11_account 18 = .ok (.laload, 1) := by decide +kernel
theorem dX11_account_19 : decode cX11_account 19 = .ok (.goto 9, 3) := by decide +kernel
theorem dX11_account_22 : decode cX11_account 22 = .ok (.aload_n 0, 1) := by decide +kernel
theorem dX11_account_23 : decode cX11_account 23 = .ok (.iconst 1, 1) := by decide +kernel
theorem dX11_account_24 : decode cX11_account 24 = .ok (.invokevirtual 226, 3) := by decide +kernel
theorem dX11_account_27 : decode cX11_account 27 = .ok (.i2l, 1) := by decide +kernel
theorem dX11_account_28 : decode cX11_account 28 = .ok (.lreturn, 1) := by decide +kernel
theorem dX11_count_0 : decode cX11_count 0 = .ok (.aload_n 0, 1) := by decide +kernel
theorem dX11_count_1 : decode cX11_count 1 = .ok (.iconst 0, 1) := by decide +kernel
theorem dX11_count_2 : decode cX11_count 2 = .ok (.putfield 112, 3) := by decide +kernel
theorem dX11_count_5 : decode cX11_count 5 = .ok (.iconst 0, 1) := by decide +kernel
theorem dX11_count_6 : decode cX11_count 6 = .ok (.istore_n 2, 1) := by decide +kernel
theorem dX11_count_7 : decode cX11_count 7 = .ok (.iload_n 1, 1) := by decide +kernel
theorem dX11_count_8 : decode cX11_count 8 = .ok (.tableswitch 101 0 6 #[44, 49, 54, 59, 64, 69, 96], 44) := by decide +kernel
theorem dX11_count_52 : decode cX11_count 52 = .ok (.aload_n 0, 1) := by decide +kernel
theorem dX11_count_53 : decode cX11_count 53 = .ok (.getfield 190, 3) := by decide +kernel
theorem dX11_count_56 : decode cX11_count 56 = .ok (.ireturn, 1) := by decide +kernel
theorem dX11_count_57 : decode cX11_count 57 = .ok (.aload_n 0, 1) := by decide +kernel
theorem dX11_count_58 : decode cX11_count 58 = .ok (.getfield 193, 3) := by decide +kernel
theorem dX11_count_61 : decode cX11_count 61 = .ok (.ireturn, 1) := by decide +kernel
theorem dX11_count_62 : decode cX11_count 62 = .ok (.aload_n 0, 1) := by decide +kernel
theorem dX11_count_63 : decode cX11_count 63 = .ok (.getfield 184, 3) := by decide +kernel
theorem dX11_count_66 : decode cX11_count 66 = .ok (.ireturn, 1) := by decide +kernel
theorem dX11_count_67 : decode cX11_count 67 = .ok (.aload_n 0, 1) := by decide +kernel
theorem dX11_count_68 : decode cX11_count 68 = .ok (.getfield 199, 3) := by decide +kernel
theorem dX11_count_71 : decode cX11_count 71 = .ok (.ireturn, 1) := by decide +kernel
theorem dX11_count_72 : decode cX11_count 72 = .ok (.aload_n 0, 1) := by decide +kernel
theorem dX11_count_73 : decode cX11_count 73 = .ok (.getfield 216, 3) := by decide +kernel
theorem dX11_count_76 : decode cX11_count 76 = .ok (.ireturn, 1) := by decide +kernel
theorem dX11_count_77 : decode cX11_count 77 = .ok (.iconst 0, 1) := by decide +kernel
theorem dX11_count_78 : decode cX11_count 78 = .ok (.istore_n 3, 1) := by decide +kernel
theorem dX11_count_79 : decode cX11_count 79 = .ok (.iload_n 3, 1) := by decide +kernel
theorem dX11_count_80 : decode cX11_count 80 = .ok (.aload_n 0, 1) := by decide +kernel
theorem dX11_count_81 : decode cX11_count 81 = .ok (.getfield 184, 3) := by decide +kernel
theorem dX11_count_84 : decode cX11_count 84 = .ok (.if_icmp .ge 18, 3) := by decide +kernel
theorem dX11_count_87 : decode cX11_count 87 = .ok (.iload_n 2, 1) := by decide +kernel
theorem dX11_count_88 : decode cX11_count 88 = .ok (.aload_n 0, 1) := by decide +kernel
theorem dX11_count_89 : decode cX11_count 89 = .ok (.getfield 35, 3) := by decide +kernel
theorem dX11_count_92 : decode cX11_count 92 = .ok (.iload_n 3, 1) := by decide +kernel
theorem dX11_count_93 : decode cX11_count 93 = .ok (.iaload, 1) := by decide +kernel
theorem dX11_count_94 : decode cX11_count 94 = .ok (.iadd, 1) := by decide +kernel
theorem dX11_count_95 : decode cX11_count 95 = .ok (.istore_n 2, 1) := by decide +kernel
theorem dX11_count_96 : decode cX11_count 96 = .ok (.iinc 3 1, 3) := by decide +kernel
theorem dX11_count_99 : decode cX11_count 99 = .ok (.goto (-20), 3) := by decide +kernel
theorem dX11_count_102 : decode cX11_count 102 = .ok (.iload_n 2, 1) := by decide +kernel
theorem dX11_count_103 : decode cX11_count 103 = .ok (.ireturn, 1) := by decide +kernel
theorem dX11_count_104 : decode cX11_count 104 = .ok (.aload_n 0, 1) := by decide +kernel
theorem dX11_count_105 : decode cX11_count 105 = .ok (.getfield 258, 3) := by decide +kernel
theorem dX11_count_108 : decode cX11_count 108 = .ok (.ireturn, 1) := by decide +kernel
theorem dX11_count_109 : decode cX11_count 109 = .ok (.iconst (-1), 1) := by decide +kernel
theorem dX11_count_110 : decode cX11_count 110 = .ok (.ireturn, 1) := by decide +kernel
theorem dJ9_max_7cf53_0 : decode cJ9_max_7cf53 0 = .ok (.iload_n 0, 1) := by decide +kernel
theorem dJ9_max_7cf53_1 : decode cJ9_max_7cf53 1 = .ok (.iload_n 1, 1) := by decide +kernel
theorem dJ9_max_7cf53_2 : decode cJ9_max_7cf53 2 = .ok (.if_icmp .lt 7, 3) := by decide +kernel
theorem dJ9_max_7cf53_5 : decode cJ9_max_7cf53 5 = .ok (.iload_n 0, 1) := by decide +kernel
theorem dJ9_max_7cf53_6 : decode cJ9_max_7cf53 6 = .ok (.goto 4, 3) := by decide +kernel
theorem dJ9_max_7cf53_9 : decode cJ9_max_7cf53 9 = .ok (.iload_n 1, 1) := by decide +kernel
theorem dJ9_max_7cf53_10 : decode cJ9_max_7cf53 10 = .ok (.ireturn, 1) := by decide +kernel
theorem dJ9_min_7cf53_0 : decode cJ9_min_7cf53 0 = .ok (.iload_n 0, 1) := by decide +kernel
theorem dJ9_min_7cf53_1 : decode cJ9_min_7cf53 1 = .ok (.iload_n 1, 1) := by decide +kernel
theorem dJ9_min_7cf53_2 : decode cJ9_min_7cf53 2 = .ok (.if_icmp .gt 7, 3) := by decide +kernel
theorem dJ9_min_7cf53_5 : decode cJ9_min_7cf53 5 = .ok (.iload_n 0, 1) := by decide +kernel
theorem dJ9_min_7cf53_6 : decode cJ9_min_7cf53 6 = .ok (.goto 4, 3) := by decide +kernel
theorem dJ9_min_7cf53_9 : decode cJ9_min_7cf53 9 = .ok (.iload_n 1, 1) := by decide +kernel
theorem dJ9_min_7cf53_10 : decode cJ9_min_7cf53 10 = .ok (.ireturn, 1) := by decide +kernel
theorem dJ9_min_f86c9_0 : decode cJ9_min_f86c9 0 = .ok (.lload_n 0, 1) := by decide +kernel
theorem dJ9_min_f86c9_1 : decode cJ9_min_f86c9 1 = .ok (.lload_n 2, 1) := by decide +kernel
theorem dJ9_min_f86c9_2 : decode cJ9_min_f86c9 2 = .ok (.lcmp, 1) := by decide +kernel
theorem dJ9_min_f86c9_3 : decode cJ9_min_f86c9 3 = .ok (.ifCond .gt 7, 3) := by decide +kernel
theorem dJ9_min_f86c9_6 : decode cJ9_min_f86c9 6 = .ok (.lload_n 0, 1) := by decide +kernel
theorem dJ9_min_f86c9_7 : decode cJ9_min_f86c9 7 = .ok (.goto 4, 3) := by decide +kernel
theorem dJ9_min_f86c9_10 : decode cJ9_min_f86c9 10 = .ok (.lload_n 2, 1) := by decide +kernel
theorem dJ9_min_f86c9_11 : decode cJ9_min_f86c9 11 = .ok (.lreturn, 1) := by decide +kernel
theorem dJ0_length_8abf5_0 : decode cJ0_length_8abf5 0 = .ok (.aload_n 0, 1) := by decide +kernel
theorem dJ0_length_8abf5_1 : decode cJ0_length_8abf5 1 = .ok (.getfield 9, 3) := by decide +kernel
theorem dJ0_length_8abf5_4 : decode cJ0_length_8abf5 4 = .ok (.arraylength, 1) := by decide +kernel
theorem dJ0_length_8abf5_5 : decode cJ0_length_8abf5 5 = .ok (.aload_n 0, 1) := by decide +kernel
theorem dJ0_length_8abf5_6 : decode cJ0_length_8abf5 6 = .ok (.invokevirtual 335, 3) := by decide +kernel
theorem dJ0_length_8abf5_9 : decode cJ0_length_8abf5 9 = .ok (.ishr, 1) := by decide +kernel
theorem dJ0_length_8abf5_10 : decode cJ0_length_8abf5 10 = .ok (.ireturn, 1) := by decide +kernel
theorem dJ0_charAt_5068e_0 : decode cJ0_charAt_5068e 0 = .ok (.aload_n 0, 1) := by decide +kernel
theorem dJ0_charAt_5068e_1 : decode cJ0_charAt_5068e 1 = .ok (.invokevirtual 492, 3) := by decide +kernel
theorem dJ0_charAt_5068e_4 : decode cJ0_charAt_5068e 4 = .ok (.ifCond .eq 12, 3) := by decide +kernel
theorem dJ0_charAt_5068e_7 : decode cJ0_charAt_5068e 7 = .ok (.aload_n 0, 1) := by decide +kernel
theorem dJ0_charAt_5068e_8 : decode cJ0_charAt_5068e 8 = .ok (.getfield 9, 3) := by decide +kernel
theorem dJ0_charAt_5068e_11 : decode cJ0_charAt_5068e 11 = .ok (.iload_n 1, 1) := by decide +kernel
theorem dJ0_charAt_5068e_12 : decode cJ0_charAt_5068e 12 = .ok (.invokestatic 495, 3) := by decide +kernel
theorem dJ0_charAt_5068e_15 : decode cJ0_charAt_5068e 15 = .ok (.ireturn, 1) := by decide +kernel
theorem dJ0_charAt_5068e_16 : decode cJ0_charAt_5068e 16 = .ok (.aload_n 0, 1) := by decide +kernel
theorem dJ0_charAt_5068e_17 : decode cJ0_charAt_5068e 17 = .ok (.getfield 9, 3) := by decide +kernel
theorem dJ0_charAt_5068e_20 : decode cJ0_charAt_5068e 20 = .ok (.iload_n 1, 1) := by decide +kernel
theorem dJ0_charAt_5068e_21 : decode cJ0_charAt_5068e 21 = .ok (.invokestatic 498, 3) := by decide +kernel
theorem dJ0_charAt_5068e_24 : decode cJ0_charAt_5068e 24 = .ok (.ireturn, 1) := by decide +kernel
theorem dJ0_coder_7d493_0 : decode cJ0_coder_7d493 0 = .ok (.getstatic 38, 3) := by decide +kernel
theorem dJ0_coder_7d493_3 : decode cJ0_coder_7d493 3 = .ok (.ifCond .eq 10, 3) := by decide +kernel
theorem dJ0_coder_7d493_6 : decode cJ0_coder_7d493 6 = .ok (.aload_n 0, 1) := by decide +kernel
theorem dJ0_coder_7d493_7 : decode cJ0_coder_7d493 7 = .ok (.getfield 15, 3) := by decide +kernel
theorem dJ0_coder_7d493_10 : decode cJ0_coder_7d493 10 = .ok (.goto 4, 3) := by decide +kernel
theorem dJ0_coder_7d493_13 : decode cJ0_coder_7d493 13 = .ok (.iconst 1, 1) := by decide +kernel
theorem dJ0_coder_7d493_14 : decode cJ0_coder_7d493 14 = .ok (.ireturn, 1) := by decide +kernel
theorem dJ0_isLatin1_aae02_0 : decode cJ0_isLatin1_aae02 0 = .ok (.getstatic 38, 3) := by decide +kernel
theorem dJ0_isLatin1_aae02_3 : decode cJ0_isLatin1_aae02 3 = .ok (.ifCond .eq 14, 3) := by decide +kernel
theorem dJ0_isLatin1_aae02_6 : decode cJ0_isLatin1_aae02 6 = .ok (.aload_n 0, 1) := by decide +kernel
theorem dJ0_isLatin1_aae02_7 : decode cJ0_isLatin1_aae02 7 = .ok (.getfield 15, 3) := by decide +kernel
theorem dJ0_isLatin1_aae02_10 : decode cJ0_isLatin1_aae02 10 = .ok (.ifCond .ne 7, 3) := by decide +kernel
theorem dJ0_isLatin1_aae02_13 : decode cJ0_isLatin1_aae02 13 = .ok (.iconst 1, 1) := by decide +kernel
theorem dJ0_isLatin1_aae02_14 : decode cJ0_isLatin1_aae02 14 = .ok (.goto 4, 3) := by decide +kernel
theorem dJ0_isLatin1_aae02_17 : decode cJ0_isLatin1_aae02 17 = .ok (.iconst 0, 1) := by decide +kernel
theorem dJ0_isLatin1_aae02_18 : decode cJ0_isLatin1_aae02 18 = .ok (.ireturn, 1) := by decide +kernel
theorem dJ0_checkIndex_df160_0 : decode cJ0_checkIndex_df160 0 = .ok (.iload_n 0, 1) := by decide +kernel
theorem dJ0_checkIndex_df160_1 : decode cJ0_checkIndex_df160 1 = .ok (.iload_n 1, 1) := by decide +kernel
theorem dJ0_checkIndex_df160_2 : decode cJ0_checkIndex_df160 2 = .ok (.getstatic 1053, 3) := by decide +kernel
theorem dJ0_checkIndex_df160_5 : decode cJ0_checkIndex_df160 5 = .ok (.invokestatic 1059, 3) := by decide +kernel
theorem dJ0_checkIndex_df160_8 : decode cJ0_checkIndex_df160 8 = .ok (.pop, 1) := by decide +kernel
theorem dJ0_checkIndex_df160_9 : decode cJ0_checkIndex_df160 9 = .ok (.return_, 1) := by decide +kernel
theorem dJ1_charAt_3b067_0 : decode cJ1_charAt_3b067 0 = .ok (.iload_n 1, 1) := by decide +kernel
theorem dJ1_charAt_3b067_1 : decode cJ1_charAt_3b067 1 = .ok (.aload_n 0, 1) := by decide +kernel
theorem dJ1_charAt_3b067_2 : decode cJ1_charAt_3b067 2 = .ok (.arraylength, 1) := by decide +kernel
theorem dJ1_charAt_3b067_3 : decode cJ1_charAt_3b067 3 = .ok (.invokestatic 9, 3) := by decide +kernel
theorem dJ1_charAt_3b067_6 : decode cJ1_charAt_3b067 6 = .ok (.aload_n 0, 1) := by decide +kernel
theorem dJ1_charAt_3b067_7 : decode cJ1_charAt_3b067 7 = .ok (.iload_n 1, 1) := by decide +kernel
theorem dJ1_charAt_3b067_8 : decode cJ1_charAt_3b067 8 = .ok (.baload, 1) := by decide +kernel
theorem dJ1_charAt_3b067_9 : decode cJ1_charAt_3b067 9 = .ok (.sipush 255, 3) := by decide +kernel
theorem dJ1_charAt_3b067_12 : decode cJ1_charAt_3b067 12 = .ok (.iand, 1) := by decide +kernel
theorem dJ1_charAt_3b067_13 : decode cJ1_charAt_3b067 13 = .ok (.i2c, 1) := by decide +kernel
theorem dJ1_charAt_3b067_14 : decode cJ1_charAt_3b067 14 = .ok (.ireturn, 1) := by decide +kernel
theorem dJ2_getChar_3b067_0 : decode cJ2_getChar_3b067 0 = .ok (.getstatic 44, 3) := by decide +kernel
theorem dJ2_getChar_3b067_3 : decode cJ2_getChar_3b067 3 = .ok (.ifCond .ne 25, 3) := by decide +kernel
theorem dJ2_getChar_3b067_6 : decode cJ2_getChar_3b067 6 = .ok (.iload_n 1, 1) := by decide +kernel
theorem dJ2_getChar_3b067_7 : decode cJ2_getChar_3b067 7 = .ok (.ifCond .lt 11, 3) := by decide +kernel
theorem dJ2_getChar_3b067_10 : decode cJ2_getChar_3b067 10 = .ok (.iload_n 1, 1) := by decide +kernel
theorem dJ2_getChar_3b067_11 : decode cJ2_getChar_3b067 11 = .ok (.aload_n 0, 1) := by decide +kernel
theorem dJ2_getChar_3b067_12 : decode cJ2_getChar_3b067 12 = .ok (.invokestatic 48, 3) := by decide +kernel
theorem dJ2_getChar_3b067_15 : decode cJ2_getChar_3b067 15 = .ok (.if_icmp .lt 13, 3) := by decide +kernel
theorem dJ2_getChar_3b067_18 : decode cJ2_getChar_3b067 18 = .ok (.new 52, 3) := by decide +kernel
theorem dJ2_getChar_3b067_21 : decode cJ2_getChar_3b067 21 = .ok (.dup, 1) := by decide +kernel
theorem dJ2_getChar_3b067_22 : decode cJ2_getChar_3b067 22 = .ok (.ldc 54, 2) := by decide +kernel
theorem dJ2_getChar_3b067_24 : decode cJ2_getChar_3b067 24 = .ok (.invokespecial 56, 3) := by decide +kernel
theorem dJ2_getChar_3b067_27 : decode cJ2_getChar_3b067 27 = .ok (.athrow, 1) := by decide +kernel
theorem dJ2_getChar_3b067_28 : decode cJ2_getChar_3b067 28 = .ok (.iload_n 1, 1) := by decide +kernel
theorem dJ2_getChar_3b067_29 : decode cJ2_getChar_3b067 29 = .ok (.iconst 1, 1) := by decide +kernel
theorem dJ2_getChar_3b067_30 : decode cJ2_getChar_3b067 30 = .ok (.ishl, 1) := by decide +kernel
theorem dJ2_getChar_3b067_31 : decode cJ2_getChar_3b067 31 = .ok (.istore_n 1, 1) := by decide +kernel
theorem dJ2_getChar_3b067_32 : decode cJ2_getChar_3b067 32 = .ok (.aload_n 0, 1) := by decide +kernel
theorem dJ2_getChar_3b067_33 : decode cJ2_getChar_3b067 33 = .ok (.iload_n 1, 1) := by decide +kernel
theorem dJ2_getChar_3b067_34 : decode cJ2_getChar_3b067 34 = .ok (.iinc 1 1, 3) := by decide +kernel
theorem dJ2_getChar_3b067_37 : decode cJ2_getChar_3b067 37 = .ok (.baload, 1) := by decide +kernel
theorem dJ2_getChar_3b067_38 : decode cJ2_getChar_3b067 38 = .ok (.sipush 255, 3) := by decide +kernel
theorem dJ2_getChar_3b067_41 : decode cJ2_getChar_3b067 41 = .ok (.iand, 1) := by decide +kernel
theorem dJ2_getChar_3b067_42 : decode cJ2_getChar_3b067 42 = .ok (.getstatic 59, 3) := by decide +kernel
theorem dJ2_getChar_3b067_45 : decode cJ2_getChar_3b067 45 = .ok (.ishl, 1) := by decide +kernel
theorem dJ2_getChar_3b067_46 : decode cJ2_getChar_3b067 46 = .ok (.aload_n 0, 1) := by decide +kernel
theorem dJ2_getChar_3b067_47 : decode cJ2_getChar_3b067 47 = .ok (.iload_n 1, 1) := by decide +kernel
theorem dJ2_getChar_3b067_48 : decode cJ2_getChar_3b067 48 = .ok (.baload, 1) := by decide +kernel
theorem dJ2_getChar_3b067_49 : decode cJ2_getChar_3b067 49 = .ok (.sipush 255, 3) := by decide +kernel
theorem dJ2_getChar_3b067_52 : decode cJ2_getChar_3b067 52 = .ok (.iand, 1) := by decide +kernel
theorem dJ2_getChar_3b067_53 : decode cJ2_getChar_3b067 53 = .ok (.getstatic 63, 3) := by decide +kernel
theorem dJ2_getChar_3b067_56 : decode cJ2_getChar_3b067 56 = .ok (.ishl, 1) := by decide +kernel
theorem dJ2_getChar_3b067_57 : decode cJ2_getChar_3b067 57 = .ok (.ior, 1) := by decide +kernel
theorem dJ2_getChar_3b067_58 : decode cJ2_getChar_3b067 58 = .ok (.i2c, 1) := by decide +kernel
theorem dJ2_getChar_3b067_59 : decode cJ2_getChar_3b067 59 = .ok (.ireturn, 1) := by decide +kernel
theorem dJ2_length_9d52b_0 : decode cJ2_length_9d52b 0 = .ok (.aload_n 0, 1) := by decide +kernel
theorem dJ2_length_9d52b_1 : decode cJ2_length_9d52b 1 = .ok (.arraylength, 1) := by decide +kernel
theorem dJ2_length_9d52b_2 : decode cJ2_length_9d52b 2 = .ok (.iconst 1, 1) := by decide +kernel
theorem dJ2_length_9d52b_3 : decode cJ2_length_9d52b 3 = .ok (.ishr, 1) := by decide +kernel
theorem dJ2_length_9d52b_4 : decode cJ2_length_9d52b 4 = .ok (.ireturn, 1) := by decide +kernel
theorem dJ2_charAt_3b067_0 : decode cJ2_charAt_3b067 0 = .ok (.iload_n 1, 1) := by decide +kernel
theorem dJ2_charAt_3b067_1 : decode cJ2_charAt_3b067 1 = .ok (.aload_n 0, 1) := by decide +kernel
theorem dJ2_charAt_3b067_2 : decode cJ2_charAt_3b067 2 = .ok (.invokestatic 67, 3) := by decide +kernel
theorem dJ2_charAt_3b067_5 : decode cJ2_charAt_3b067 5 = .ok (.aload_n 0, 1) := by decide +kernel
theorem dJ2_charAt_3b067_6 : decode cJ2_charAt_3b067 6 = .ok (.iload_n 1, 1) := by decide +kernel
theorem dJ2_charAt_3b067_7 : decode cJ2_charAt_3b067 7 = .ok (.invokestatic 71, 3) := by decide +kernel
theorem dJ2_charAt_3b067_10 : decode cJ2_charAt_3b067 10 = .ok (.ireturn, 1) := by decide +kernel
theorem dJ2_checkIndex_2214a_0 : decode cJ2_checkIndex_2214a 0 = .ok (.iload_n 0, 1) := by decide +kernel
theorem dJ2_checkIndex_2214a_1 : decode cJ2_checkIndex_2214a 1 = .ok (.aload_n 1, 1) := by decide +kernel
theorem dJ2_checkIndex_2214a_2 : decode cJ2_checkIndex_2214a 2 = .ok (.invokestatic 48, 3) := by decide +kernel
theorem dJ2_checkIndex_2214a_5 : decode cJ2_checkIndex_2214a 5 = .ok (.invokestatic 414, 3) := by decide +kernel
theorem dJ2_checkIndex_2214a_8 : decode cJ2_checkIndex_2214a 8 = .ok (.return_, 1) := by decide +kernel
theorem dJ3_checkIndex_8e157_0 : decode cJ3_checkIndex_8e157 0 = .ok (.iload_n 0, 1) := by decide +kernel
theorem dJ3_checkIndex_8e157_1 : decode cJ3_checkIndex_8e157 1 = .ok (.ifCond .lt 8, 3) := by decide +kernel
theorem dJ3_checkIndex_8e157_4 : decode cJ3_checkIndex_8e157 4 = .ok (.iload_n 0, 1) := by decide +kernel
theorem dJ3_checkIndex_8e157_5 : decode cJ3_checkIndex_8e157 5 = .ok (.iload_n 1, 1) := by decide +kernel
theorem dJ3_checkIndex_8e157_6 : decode cJ3_checkIndex_8e157 6 = .ok (.if_icmp .lt 10, 3) := by decide +kernel
theorem dJ3_checkIndex_8e157_9 : decode cJ3_checkIndex_8e157 9 = .ok (.aload_n 2, 1) := by decide +kernel
theorem dJ3_checkIndex_8e157_10 : decode cJ3_checkIndex_8e157 10 = .ok (.iload_n 0, 1) := by decide +kernel
theorem dJ3_checkIndex_8e157_11 : decode cJ3_checkIndex_8e157 11 = .ok (.iload_n 1, 1) := by decide +kernel
theorem dJ3_checkIndex_8e157_12 : decode cJ3_checkIndex_8e157 12 = .ok (.invokestatic 95, 3) := by decide +kernel
theorem dJ3_checkIndex_8e157_15 : decode cJ3_checkIndex_8e157 15 = .ok (.athrow, 1) := by decide +kernel
theorem dJ3_checkIndex_8e157_16 : decode cJ3_checkIndex_8e157 16 = .ok (.iload_n 0, 1) := by decide +kernel
theorem dJ3_checkIndex_8e157_17 : decode cJ3_checkIndex_8e157 17 = .ok (.ireturn, 1) := by decide +kernel
theorem dL_judge_0 : decode cL_judge 0 = .ok (.aload_n 3, 1) := by decide +kernel
theorem dL_judge_1 : decode cL_judge 1 = .ok (.iconst 0, 1) := by decide +kernel
theorem dL_judge_2 : decode cL_judge 2 = .ok (.aload_n 0, 1) := by decide +kernel
theorem dL_judge_3 : decode cL_judge 3 = .ok (.iload_n 1, 1) := by decide +kernel
theorem dL_judge_4 : decode cL_judge 4 = .ok (.iload_n 2, 1) := by decide +kernel
theorem dL_judge_5 : decode cL_judge 5 = .ok (.invokevirtual 7, 3) := by decide +kernel
theorem dL_judge_8 : decode cL_judge 8 = .ok (.i2l, 1) := by decide +kernel
theorem dL_judge_9 : decode cL_judge 9 = .ok (.lastore, 1) := by decide +kernel
theorem dL_judge_10 : decode cL_judge 10 = .ok (.goto 11, 3) := by decide +kernel
theorem dL_judge_13 : decode cL_judge 13 = .ok (.astore 4, 2) := by decide +kernel
theorem dL_judge_15 : decode cL_judge 15 = .ok (.iconst 1, 1) := by decide +kernel
theorem dL_judge_16 : decode cL_judge 16 = .ok (.ireturn, 1) := by decide +kernel
theorem dL_judge_17 : decode cL_judge 17 = .ok (.astore 4, 2) := by decide +kernel
theorem dL_judge_19 : decode cL_judge 19 = .ok (.iconst 2, 1) := by decide +kernel
theorem dL_judge_20 : decode cL_judge 20 = .ok (.ireturn, 1) := by decide +kernel
theorem dL_judge_21 : decode cL_judge 21 = .ok (.iconst 0, 1) := by decide +kernel
theorem dL_judge_22 : decode cL_judge 22 = .ok (.ireturn, 1) := by decide +kernel
theorem dL_look_0 : decode cL_look 0 = .ok (.aload_n 3, 1) := by decide +kernel
theorem dL_look_1 : decode cL_look 1 = .ok (.iconst 0, 1) := by decide +kernel
theorem dL_look_2 : decode cL_look 2 = .ok (.aload_n 0, 1) := by decide +kernel
theorem dL_look_3 : decode cL_look 3 = .ok (.iload_n 1, 1) := by decide +kernel
theorem dL_look_4 : decode cL_look 4 = .ok (.iload_n 2, 1) := by decide +kernel
theorem dL_look_5 : decode cL_look 5 = .ok (.invokevirtual 17, 3) := by decide +kernel
theorem dL_look_8 : decode cL_look 8 = .ok (.i2l, 1) := by decide +kernel
theorem dL_look_9 : decode cL_look 9 = .ok (.lastore, 1) := by decide +kernel
theorem dL_look_10 : decode cL_look 10 = .ok (.goto 11, 3) := by decide +kernel
theorem dL_look_13 : decode cL_look 13 = .ok (.astore 4, 2) := by decide +kernel
theorem dL_look_15 : decode cL_look 15 = .ok (.iconst 1, 1) := by decide +kernel
theorem dL_look_16 : decode cL_look 16 = .ok (.ireturn, 1) := by decide +kernel
theorem dL_look_17 : decode cL_look 17 = .ok (.astore 4, 2) := by decide +kernel
theorem dL_look_19 : decode cL_look 19 = .ok (.iconst 2, 1) := by decide +kernel
theorem dL_look_20 : decode cL_look 20 = .ok (.ireturn, 1) := by decide +kernel
theorem dL_look_21 : decode cL_look 21 = .ok (.iconst 0, 1) := by decide +kernel
theorem dL_look_22 : decode cL_look 22 = .ok (.ireturn, 1) := by decide +kernel
theorem dL_account_0 : decode cL_account 0 = .ok (.aload_n 2, 1) := by decide +kernel
theorem dL_account_1 : decode cL_account 1 = .ok (.iconst 0, 1) := by decide +kernel
theorem dL_account_2 : decode cL_account 2 = .ok (.aload_n 0, 1) := by decide +kernel
theorem dL_account_3 : decode cL_account 3 = .ok (.iload_n 1, 1) := by decide +kernel
theorem dL_account_4 : decode cL_account 4 = .ok (.invokevirtual 20, 3) := by decide +kernel
theorem dL_account_7 : decode cL_account 7 = .ok (.lastore, 1) := by decide +kernel
theorem dL_account_8 : decode cL_account 8 = .ok (.goto 6, 3) := by decide +kernel
theorem dL_account_11 : decode cL_account 11 = .ok (.astore_n 3, 1) := by decide +kernel
theorem dL_account_12 : decode cL_account 12 = .ok (.iconst 1, 1) := by decide +kernel
theorem dL_account_13 : decode cL_account 13 = .ok (.ireturn, 1) := by decide +kernel
theorem dL_account_14 : decode cL_account 14 = .ok (.iconst 0, 1) := by decide +kernel
theorem dL_account_15 : decode cL_account 15 = .ok (.ireturn, 1) := by decide +kernel
theorem dL_law_0 : decode cL_law 0 = .ok (.new 8, 3) := by decide +kernel
theorem dL_law_3 : decode cL_law 3 = .ok (.dup, 1) := by decide +kernel
theorem dL_law_4 : decode cL_law 4 = .ok (.invokespecial 24, 3) := by decide +kernel
theorem dL_law_7 : decode cL_law 7 = .ok (.astore_n 1, 1) := by decide +kernel
theorem dL_law_8 : decode cL_law 8 = .ok (.new 25, 3) := by decide +kernel
theorem dL_law_11 : decode cL_law 11 = .ok (.dup, 1) := by decide +kernel
theorem dL_law_12 : decode cL_law 12 = .ok (.invokespecial 27, 3) := by decide +kernel
theorem dL_law_15 : decode cL_law 15 = .ok (.astore_n 2, 1) := by decide +kernel
theorem dL_law_16 : decode cL_law 16 = .ok (.iconst 1, 1) := by decide +kernel
theorem dL_law_17 : decode cL_law 17 = .ok (.newarray .long, 2) := by decide +kernel
theorem dL_law_19 : decode cL_law 19 = .ok (.astore_n 3, 1) := by decide +kernel
theorem dL_law_20 : decode cL_law 20 = .ok (.iconst 0, 1) := by decide +kernel
theorem dL_law_21 : decode cL_law 21 = .ok (.istore 4, 2) := by decide +kernel
theorem dL_law_23 : decode cL_law 23 = .ok (.iload 4, 2) := by decide +kernel
theorem dL_law_25 : decode cL_law 25 = .ok (.aload_n 0, 1) := by decide +kernel
theorem dL_law_26 : decode cL_law 26 = .ok (.arraylength, 1) := by decide +kernel
theorem dL_law_27 : decode cL_law 27 = .ok (.bipush 6, 2) := by decide +kernel
theorem dL_law_29 : decode cL_law 29 = .ok (.isub, 1) := by decide +kernel
theorem dL_law_30 : decode cL_law 30 = .ok (.if_icmp .gt 983, 3) := by decide +kernel
theorem dL_law_33 : decode cL_law 33 = .ok (.aload_n 0, 1) := by decide +kernel
theorem dL_law_34 : decode cL_law 34 = .ok (.iload 4, 2) := by decide +kernel
theorem dL_law_36 : decode cL_law 36 = .ok (.iaload, 1) := by decide +kernel
theorem dL_law_37 : decode cL_law 37 = .ok (.bipush 31, 2) := by decide +kernel
theorem dL_law_39 : decode cL_law 39 = .ok (.iand, 1) := by decide +kernel
theorem dL_law_40 : decode cL_law 40 = .ok (.tableswitch 967 0 19 #[96, 169, 206, 231, 256, 281, 306, 367, 428, 477, 514, 582, 643, 668, 736, 786, 836, 849, 887, 942], 96) := by decide +kernel
theorem dL_law_136 : decode cL_law 136 = .ok (.aload_n 1, 1) := by decide +kernel
theorem dL_law_137 : decode cL_law 137 = .ok (.aload_n 0, 1) := by decide +kernel
theorem dL_law_138 : decode cL_law 138 = .ok (.iload 4, 2) := by decide +kernel
theorem dL_law_140 : decode cL_law 140 = .ok (.iconst 1, 1) := by decide +kernel
theorem dL_law_141 : decode cL_law 141 = .ok (.iadd, 1) := by decide +kernel
theorem dL_law_142 : decode cL_law 142 = .ok (.iaload, 1) := by decide +kernel
theorem dL_law_143 : decode cL_law 143 = .ok (.aload_n 0, 1) := by decide +kernel
theorem dL_law_144 : decode cL_law 144 = .ok (.iload 4, 2) := by decide +kernel
theorem dL_law_146 : decode cL_law 146 = .ok (.iconst 2, 1) := by decide +kernel
theorem dL_law_147 : decode cL_law 147 = .ok (.iadd, 1) := by decide +kernel
theorem dL_law_148 : decode cL_law 148 = .ok (.iaload, 1) := by decide +kernel
theorem dL_law_149 : decode cL_law 149 = .ok (.aload_n 0, 1) := by decide +kernel
theorem dL_law_150 : decode cL_law 150 = .ok (.iload 4, 2) := by decide +kernel
theorem dL_law_152 : decode cL_law 152 = .ok (.iconst 3, 1) := by decide +kernel
theorem dL_law_153 : decode cL_law 153 = .ok (.iadd, 1) := by decide +kernel
theorem dL_law_154 : decode cL_law 154 = .ok (.iaload, 1) := by decide +kernel
theorem dL_law_155 : decode cL_law 155 = .ok (.aload_n 0, 1) := by decide +kernel
theorem dL_law_156 : decode cL_law 156 = .ok (.iload 4, 2) := by decide +kernel
theorem dL_law_158 : decode cL_law 158 = .ok (.iconst 4, 1) := by decide +kernel
theorem dL_law_159 : decode cL_law 159 = .ok (.iadd, 1) := by decide +kernel
theorem dL_law_160 : decode cL_law 160 = .ok (.iaload, 1) := by decide +kernel
theorem dL_law_161 : decode cL_law 161 = .ok (.aload_n 0, 1) := by decide +kernel
theorem dL_law_162 : decode cL_law 162 = .ok (.iload 4, 2) := by decide +kernel
theorem dL_law_164 : decode cL_law 164 = .ok (.iconst 5, 1) := by decide +kernel
theorem dL_law_165 : decode cL_law 165 = .ok (.iadd, 1) := by decide +kernel
theorem dL_law_166 : decode cL_law 166 = .ok (.iaload, 1) := by decide +kernel
theorem dL_law_167 : decode cL_law 167 = .ok (.invokevirtual 28, 3) := by decide +kernel
theorem dL_law_170 : decode cL_law 170 = .ok (.aload_n 2, 1) := by decide +kernel
theorem dL_law_171 : decode cL_law 171 = .ok (.aload_n 0, 1) := by decide +kernel
theorem dL_law_172 : decode cL_law 172 = .ok (.iload 4, 2) := by decide +kernel
theorem dL_law_174 : decode cL_law 174 = .ok (.iconst 1, 1) := by decide +kernel
theorem dL_law_175 : decode cL_law 175 = .ok (.iadd, 1) := by decide +kernel
theorem dL_law_176 : decode cL_law 176 = .ok (.iaload, 1) := by decide +kernel
theorem dL_law_177 : decode cL_law 177 = .ok (.aload_n 0, 1) := by decide +kernel
theorem dL_law_178 : decode cL_law 178 = .ok (.iload 4, 2) := by decide +kernel
theorem dL_law_180 : decode cL_law 180 = .ok (.iconst 2, 1) := by decide +kernel
theorem dL_law_181 : decode cL_law 181 = .ok (.iadd, 1) := by decide +kernel
theorem dL_law_182 : decode cL_law 182 = .ok (.iaload, 1) := by decide +kernel
theorem dL_law_183 : decode cL_law 183 = .ok (.aload_n 0, 1) := by decide +kernel
theorem dL_law_184 : decode cL_law 184 = .ok (.iload 4, 2) := by decide +kernel
theorem dL_law_186 : decode cL_law 186 = .ok (.iconst 3, 1) := by decide +kernel
theorem dL_law_187 : decode cL_law 187 = .ok (.iadd, 1) := by decide +kernel
theorem dL_law_188 : decode cL_law 188 = .ok (.iaload, 1) := by decide +kernel
theorem dL_law_189 : decode cL_law 189 = .ok (.aload_n 0, 1) := by decide +kernel
theorem dL_law_190 : decode cL_law 190 = .ok (.iload 4, 2) := by decide +kernel
theorem dL_law_192 : decode cL_law 192 = .ok (.iconst 4, 1) := by decide +kernel
theorem dL_law_193 : decode cL_law 193 = .ok (.iadd, 1) := by decide +kernel
theorem dL_law_194 : decode cL_law 194 = .ok (.iaload, 1) := by decide +kernel
theorem dL_law_195 : decode cL_law 195 = .ok (.aload_n 0, 1) := by decide +kernel
theorem dL_law_196 : decode cL_law 196 = .ok (.iload 4, 2) := by decide +kernel
theorem dL_law_198 : decode cL_law 198 = .ok (.iconst 5, 1) := by decide +kernel
theorem dL_law_199 : decode cL_law 199 = .ok (.iadd, 1) := by decide +kernel
theorem dL_law_200 : decode cL_law 200 = .ok (.iaload, 1) := by decide +kernel
theorem dL_law_201 : decode cL_law 201 = .ok (.invokevirtual 32, 3) := by decide +kernel
theorem dL_law_204 : decode cL_law 204 = .ok (.if_icmp .eq 803, 3) := by decide +kernel
theorem dL_law_207 : decode cL_law 207 = .ok (.iconst 0, 1) := by decide +kernel
theorem dL_law_208 : decode cL_law 208 = .ok (.ireturn, 1) := by decide +kernel
theorem dL_law_209 : decode cL_law 209 = .ok (.aload_n 1, 1) := by decide +kernel
theorem dL_law_210 : decode cL_law 210 = .ok (.aload_n 0, 1) := by decide +kernel
theorem dL_law_211 : decode cL_law 211 = .ok (.iload 4, 2) := by decide +kernel
theorem dL_law_213 : decode cL_law 213 = .ok (.iconst 1, 1) := by decide +kernel
theorem dL_law_214 : decode cL_law 214 = .ok (.iadd, 1) := by decide +kernel
theorem dL_law_215 : decode cL_law 215 = .ok (.iaload, 1) := by decide +kernel
theorem dL_law_216 : decode cL_law 216 = .ok (.aload_n 0, 1) := by decide +kernel
theorem dL_law_217 : decode cL_law 217 = .ok (.iload 4, 2) := by decide +kernel
theorem dL_law_219 : decode cL_law 219 = .ok (.iconst 2, 1) := by decide +kernel
theorem dL_law_220 : decode cL_law 220 = .ok (.iadd, 1) := by decide +kernel
theorem dL_law_221 : decode cL_law 221 = .ok (.iaload, 1) := by decide +kernel
theorem dL_law_222 : decode cL_law 222 = .ok (.invokevirtual 33, 3) := by decide +kernel
theorem dL_law_225 : decode cL_law 225 = .ok (.aload_n 2, 1) := by decide +kernel
theorem dL_law_226 : decode cL_law 226 = .ok (.aload_n 0, 1) := by decide +kernel
theorem dL_law_227 : decode cL_law 227 = .ok (.iload 4, 2) := by decide +kernel
theorem dL_law_229 : decode cL_law 229 = .ok (.iconst 1, 1) := by decide +kernel
theorem dL_law_230 : decode cL_law 230 = .ok (.iadd, 1) := by decide +kernel
theorem dL_law_231 : decode cL_law 231 = .ok (.iaload, 1) := by decide +kernel
theorem dL_law_232 : decode cL_law 232 = .ok (.aload_n 0, 1) := by decide +kernel
theorem dL_law_233 : decode cL_law 233 = .ok (.iload 4, 2) := by decide +kernel
theorem dL_law_235 : decode cL_law 235 = .ok (.iconst 2, 1) := by decide +kernel
theorem dL_law_236 : decode cL_law 236 = .ok (.iadd, 1) := by decide +kernel
theorem dL_law_237 : decode cL_law 237 = .ok (.iaload, 1) := by decide +kernel
theorem dL_law_238 : decode cL_law 238 = .ok (.invokevirtual 36, 3) := by decide +kernel
theorem dL_law_241 : decode cL_law 241 = .ok (.if_icmp .eq 766, 3) := by decide +kernel
theorem dL_law_244 : decode cL_law 244 = .ok (.iconst 0, 1) := by decide +kernel
theorem dL_law_245 : decode cL_law 245 = .ok (.ireturn, 1) := by decide +kernel
theorem dL_law_246 : decode cL_law 246 = .ok (.aload_n 1, 1) := by decide +kernel
theorem dL_law_247 : decode cL_law 247 = .ok (.aload_n 0, 1) := by decide +kernel
theorem dL_law_248 : decode cL_law 248 = .ok (.iload 4, 2) := by decide +kernel
theorem dL_law_250 : decode cL_law 250 = .ok (.iconst 1, 1) := by decide +kernel
theorem dL_law_251 : decode cL_law 251 = .ok (.iadd, 1) := by decide +kernel
theorem dL_law_252 : decode cL_law 252 = .ok (.iaload, 1) := by decide +kernel
theorem dL_law_253 : decode cL_law 253 = .ok (.invokevirtual 37, 3) := by decide +kernel
theorem dL_law_256 : decode cL_law 256 = .ok (.aload_n 2, 1) := by decide +kernel
theorem dL_law_257 : decode cL_law 257 = .ok (.aload_n 0, 1) := by decide +kernel
theorem dL_law_258 : decode cL_law 258 = .ok (.iload 4, 2) := by decide +kernel
theorem dL_law_260 : decode cL_law 260 = .ok (.iconst 1, 1) := by decide +kernel
theorem dL_law_261 : decode cL_law 261 = .ok (.iadd, 1) := by decide +kernel
theorem dL_law_262 : decode cL_law 262 = .ok (.iaload, 1) := by decide +kernel
theorem dL_law_263 : decode cL_law 263 = .ok (.invokevirtual 41, 3) := by decide +kernel
theorem dL_law_266 : decode cL_law 266 = .ok (.if_icmp .eq 741, 3) := by decide +kernel
theorem dL_law_269 : decode cL_law 269 = .ok (.iconst 0, 1) := by decide +kernel
theorem dL_law_270 : decode cL_law 270 = .ok (.ireturn, 1) := by decide +kernel
theorem dL_law_271 : decode cL_law 271 = .ok (.aload_n 1, 1) := by decide +kernel
theorem dL_law_272 : decode cL_law 272 = .ok (.aload_n 0, 1) := by decide +kernel
theorem dL_law_273 : decode cL_law 273 = .ok (.iload 4, 2) := by decide +kernel
theorem dL_law_275 : decode cL_law 275 = .ok (.iconst 1, 1) := by decide +kernel
theorem dL_law_276 : decode cL_law 276 = .ok (.iadd, 1) := by decide +kernel
theorem dL_law_277 : decode cL_law 277 = .ok (.iaload, 1) := by decide +kernel
theorem dL_law_278 : decode cL_law 278 = .ok (.invokevirtual 42, 3) := by decide +kernel
theorem dL_law_281 : decode cL_law 281 = .ok (.aload_n 2, 1) := by decide +kernel
theorem dL_law_282 : decode cL_law 282 = .ok (.aload_n 0, 1) := by decide +kernel
theorem dL_law_283 : decode cL_law 283 = .ok (.iload 4, 2) := by decide +kernel
theorem dL_law_285 : decode cL_law 285 = .ok (.iconst 1, 1) := by decide +kernel
theorem dL_law_286 : decode cL_law 286 = .ok (.iadd, 1) := by decide +kernel
theorem dL_law_287 : decode cL_law 287 = .ok (.iaload, 1) := by decide +kernel
theorem dL_law_288 : decode cL_law 288 = .ok (.invokevirtual 46, 3) := by decide +kernel
theorem dL_law_291 : decode cL_law 291 = .ok (.if_icmp .eq 716, 3) := by decide +kernel
theorem dL_law_294 : decode cL_law 294 = .ok (.iconst 0, 1) := by decide +kernel
theorem dL_law_295 : decode cL_law 295 = .ok (.ireturn, 1) := by decide +kernel
theorem dL_law_296 : decode cL_law 296 = .ok (.aload_n 1, 1) := by decide +kernel
theorem dL_law_297 : decode cL_law 297 = .ok (.aload_n 0, 1) := by decide +kernel
theorem dL_law_298 : decode cL_law 298 = .ok (.iload 4, 2) := by decide +kernel
theorem dL_law_300 : decode cL_law 300 = .ok (.iconst 1, 1) := by decide +kernel
theorem dL_law_301 : decode cL_law 301 = .ok (.iadd, 1) := by decide +kernel
theorem dL_law_302 : decode cL_law 302 = .ok (.iaload, 1) := by decide +kernel
theorem dL_law_303 : decode cL_law 303 = .ok (.invokevirtual 47, 3) := by decide +kernel
theorem dL_law_306 : decode cL_law 306 = .ok (.aload_n 2, 1) := by decide +kernel
theorem dL_law_307 : decode cL_law 307 = .ok (.aload_n 0, 1) := by decide +kernel
theorem dL_law_308 : decode cL_law 308 = .ok (.iload 4, 2) := by decide +kernel
theorem dL_law_310 : decode cL_law 310 = .ok (.iconst 1, 1) := by decide +kernel
theorem dL_law_311 : decode cL_law 311 = .ok (.iadd, 1) := by decide +kernel
theorem dL_law_312 : decode cL_law 312 = .ok (.iaload, 1) := by decide +kernel
theorem dL_law_313 : decode cL_law 313 = .ok (.invokevirtual 50, 3) := by decide +kernel
theorem dL_law_316 : decode cL_law 316 = .ok (.if_icmp .eq 691, 3) := by decide +kernel
theorem dL_law_319 : decode cL_law 319 = .ok (.iconst 0, 1) := by decide +kernel
theorem dL_law_320 : decode cL_law 320 = .ok (.ireturn, 1) := by decide +kernel
theorem dL_law_321 : decode cL_law 321 = .ok (.aload_n 1, 1) := by decide +kernel
theorem dL_law_322 : decode cL_law 322 = .ok (.aload_n 0, 1) := by decide +kernel
theorem dL_law_323 : decode cL_law 323 = .ok (.iload 4, 2) := by decide +kernel
theorem dL_law_325 : decode cL_law 325 = .ok (.iconst 1, 1) := by decide +kernel
theorem dL_law_326 : decode cL_law 326 = .ok (.iadd, 1) := by decide +kernel
theorem dL_law_327 : decode cL_law 327 = .ok (.iaload, 1) := by decide +kernel
theorem dL_law_328 : decode cL_law 328 = .ok (.invokevirtual 51, 3) := by decide +kernel
theorem dL_law_331 : decode cL_law 331 = .ok (.aload_n 2, 1) := by decide +kernel
theorem dL_law_332 : decode cL_law 332 = .ok (.aload_n 0, 1) := by decide +kernel
theorem dL_law_333 : decode cL_law 333 = .ok (.iload 4, 2) := by decide +kernel
theorem dL_law_335 : decode cL_law 335 = .ok (.iconst 1, 1) := by decide +kernel
theorem dL_law_336 : decode cL_law 336 = .ok (.iadd, 1) := by decide +kernel
theorem dL_law_337 : decode cL_law 337 = .ok (.iaload, 1) := by decide +kernel
theorem dL_law_338 : decode cL_law 338 = .ok (.invokevirtual 54, 3) := by decide +kernel
theorem dL_law_341 : decode cL_law 341 = .ok (.if_icmp .eq 666, 3) := by decide +kernel
theorem dL_law_344 : decode cL_law 344 = .ok (.iconst 0, 1) := by decide +kernel
theorem dL_law_345 : decode cL_law 345 = .ok (.ireturn, 1) := by decide +kernel
theorem dL_law_346 : decode cL_law 346 = .ok (.aload_n 1, 1) := by decide +kernel
theorem dL_law_347 : decode cL_law 347 = .ok (.aload_n 0, 1) := by decide +kernel
theorem dL_law_348 : decode cL_law 348 = .ok (.iload 4, 2) := by decide +kernel
theorem dL_law_350 : decode cL_law 350 = .ok (.iconst 1, 1) := by decide +kernel
theorem dL_law_351 : decode cL_law 351 = .ok (.iadd, 1) := by decide +kernel
theorem dL_law_352 : decode cL_law 352 = .ok (.iaload, 1) := by decide +kernel
theorem dL_law_353 : decode cL_law 353 = .ok (.aload_n 0, 1) := by decide +kernel
theorem dL_law_354 : decode cL_law 354 = .ok (.iload 4, 2) := by decide +kernel
theorem dL_law_356 : decode cL_law 356 = .ok (.iconst 2, 1) := by decide +kernel
theorem dL_law_357 : decode cL_law 357 = .ok (.iadd, 1) := by decide +kernel
theorem dL_law_358 : decode cL_law 358 = .ok (.iaload, 1) := by decide +kernel
theorem dL_law_359 : decode cL_law 359 = .ok (.aload_n 0, 1) := by decide +kernel
theorem dL_law_360 : decode cL_law 360 = .ok (.iload 4, 2) := by decide +kernel
theorem dL_law_362 : decode cL_law 362 = .ok (.iconst 3, 1) := by decide +kernel
theorem dL_law_363 : decode cL_law 363 = .ok (.iadd, 1) := by decide +kernel
theorem dL_law_364 : decode cL_law 364 = .ok (.iaload, 1) := by decide +kernel
theorem dL_law_365 : decode cL_law 365 = .ok (.aload_n 0, 1) := by decide +kernel
theorem dL_law_366 : decode cL_law 366 = .ok (.iload 4, 2) := by decide +kernel
theorem dL_law_368 : decode cL_law 368 = .ok (.iconst 4, 1) := by decide +kernel
theorem dL_law_369 : decode cL_law 369 = .ok (.iadd, 1) := by decide +kernel
theorem dL_law_370 : decode cL_law 370 = .ok (.iaload, 1) := by decide +kernel
theorem dL_law_371 : decode cL_law 371 = .ok (.invokevirtual 55, 3) := by decide +kernel
theorem dL_law_374 : decode cL_law 374 = .ok (.aload_n 2, 1) := by decide +kernel
theorem dL_law_375 : decode cL_law 375 = .ok (.aload_n 0, 1) := by decide +kernel
theorem dL_law_376 : decode cL_law 376 = .ok (.iload 4, 2) := by decide +kernel
theorem dL_law_378 : decode cL_law 378 = .ok (.iconst 1, 1) := by decide +kernel
theorem dL_law_379 : decode cL_law 379 = .ok (.iadd, 1) := by decide +kernel
theorem dL_law_380 : decode cL_law 380 = .ok (.iaload, 1) := by decide +kernel
theorem dL_law_381 : decode cL_law 381 = .ok (.aload_n 0, 1) := by decide +kernel
theorem dL_law_382 : decode cL_law 382 = .ok (.iload 4, 2) := by decide +kernel
theorem dL_law_384 : decode cL_law 384 = .ok (.iconst 2, 1) := by decide +kernel
theorem dL_law_385 : decode cL_law 385 = .ok (.iadd, 1) := by decide +kernel
theorem dL_law_386 : decode cL_law 386 = .ok (.iaload, 1) := by decide +kernel
theorem dL_law_387 : decode cL_law 387 = .ok (.aload_n 0, 1) := by decide +kernel
theorem dL_law_388 : decode cL_law 388 = .ok (.iload 4, 2) := by decide +kernel
theorem dL_law_390 : decode cL_law 390 = .ok (.iconst 3, 1) := by decide +kernel
theorem dL_law_391 : decode cL_law 391 = .ok (.iadd, 1) := by decide +kernel
theorem dL_law_392 : decode cL_law 392 = .ok (.iaload, 1) := by decide +kernel
theorem dL_law_393 : decode cL_law 393 = .ok (.aload_n 0, 1) := by decide +kernel
theorem dL_law_394 : decode cL_law 394 = .ok (.iload 4, 2) := by decide +kernel
theorem dL_law_396 : decode cL_law 396 = .ok (.iconst 4, 1) := by decide +kernel
theorem dL_law_397 : decode cL_law 397 = .ok (.iadd, 1) := by decide +kernel
theorem dL_law_398 : decode cL_law 398 = .ok (.iaload, 1) := by decide +kernel
theorem dL_law_399 : decode cL_law 399 = .ok (.invokevirtual 59, 3) := by decide +kernel
theorem dL_law_402 : decode cL_law 402 = .ok (.if_icmp .eq 605, 3) := by decide +kernel
theorem dL_law_405 : decode cL_law 405 = .ok (.iconst 0, 1) := by decide +kernel
theorem dL_law_406 : decode cL_law 406 = .ok (.ireturn, 1) := by decide +kernel
theorem dL_law_407 : decode cL_law 407 = .ok (.aload_n 1, 1) := by decide +kernel
theorem dL_law_408 : decode cL_law 408 = .ok (.aload_n 0, 1) := by decide +kernel
theorem dL_law_409 : decode cL_law 409 = .ok (.iload 4, 2) := by decide +kernel
theorem dL_law_411 : decode cL_law 411 = .ok (.iconst 1, 1) := by decide +kernel
theorem dL_law_412 : decode cL_law 412 = .ok (.iadd, 1) := by decide +kernel
theorem dL_law_413 : decode cL_law 413 = .ok (.iaload, 1) := by decide +kernel
theorem dL_law_414 : decode cL_law 414 = .ok (.aload_n 0, 1) := by decide +kernel
theorem dL_law_415 : decode cL_law 415 = .ok (.iload 4, 2) := by decide +kernel
theorem dL_law_417 : decode cL_law 417 = .ok (.iconst 2, 1) := by decide +kernel
theorem dL_law_418 : decode cL_law 418 = .ok (.iadd, 1) := by decide +kernel
theorem dL_law_419 : decode cL_law 419 = .ok (.iaload, 1) := by decide +kernel
theorem dL_law_420 : decode cL_law 420 = .ok (.aload_n 0, 1) := by decide +kernel
theorem dL_law_421 : decode cL_law 421 = .ok (.iload 4, 2) := by decide +kernel
theorem dL_law_423 : decode cL_law 423 = .ok (.iconst 3, 1) := by decide +kernel
theorem dL_law_424 : decode cL_law 424 = .ok (.iadd, 1) := by decide +kernel
theorem dL_law_425 : decode cL_law 425 = .ok (.iaload, 1) := by decide +kernel
theorem dL_law_426 : decode cL_law 426 = .ok (.aload_n 0, 1) := by decide +kernel
theorem dL_law_427 : decode cL_law 427 = .ok (.iload 4, 2) := by decide +kernel
theorem dL_law_429 : decode cL_law 429 = .ok (.iconst 4, 1) := by decide +kernel
theorem dL_law_430 : decode cL_law 430 = .ok (.iadd, 1) := by decide +kernel
theorem dL_law_431 : decode cL_law 431 = .ok (.iaload, 1) := by decide +kernel
theorem dL_law_432 : decode cL_law 432 = .ok (.invokevirtual 60, 3) := by decide +kernel
theorem dL_law_435 : decode cL_law 435 = .ok (.aload_n 2, 1) := by decide +kernel
theorem dL_law_436 : decode cL_law 436 = .ok (.aload_n 0, 1) := by decide +kernel
theorem dL_law_437 : decode cL_law 437 = .ok (.iload 4, 2) := by decide +kernel
theorem dL_law_439 : decode cL_law 439 = .ok (.iconst 1, 1) := by decide +kernel
theorem dL_law_440 : decode cL_law 440 = .ok (.iadd, 1) := by decide +kernel
theorem dL_law_441 : decode cL_law 441 = .ok (.iaload, 1) := by decide +kernel
theorem dL_law_442 : decode cL_law 442 = .ok (.aload_n 0, 1) := by decide +kernel
theorem dL_law_443 : decode cL_law 443 = .ok (.iload 4, 2) := by decide +kernel
theorem dL_law_445 : decode cL_law 445 = .ok (.iconst 2, 1) := by decide +kernel
theorem dL_law_446 : decode cL_law 446 = .ok (.iadd, 1) := by decide +kernel
theorem dL_law_447 : decode cL_law 447 = .ok (.iaload, 1) := by decide +kernel
theorem dL_law_448 : decode cL_law 448 = .ok (.aload_n 0, 1) := by decide +kernel
theorem dL_law_449 : decode cL_law 449 = .ok (.iload 4, 2) := by decide +kernel
theorem dL_law_451 : decode cL_law 451 = .ok (.iconst 3, 1) := by decide +kernel
theorem dL_law_452 : decode cL_law 452 = .ok (.iadd, 1) := by decide +kernel
theorem dL_law_453 : decode cL_law 453 = .ok (.iaload, 1) := by decide +kernel
theorem dL_law_454 : decode cL_law 454 = .ok (.aload_n 0, 1) := by decide +kernel
theorem dL_law_455 : decode cL_law 455 = .ok (.iload 4, 2) := by decide +kernel
theorem dL_law_457 : decode cL_law 457 = .ok (.iconst 4, 1) := by decide +kernel
theorem dL_law_458 : decode cL_law 458 = .ok (.iadd, 1) := by decide +kernel
theorem dL_law_459 : decode cL_law 459 = .ok (.iaload, 1) := by decide +kernel
theorem dL_law_460 : decode cL_law 460 = .ok (.invokevirtual 63, 3) := by decide +kernel
theorem dL_law_463 : decode cL_law 463 = .ok (.if_icmp .eq 544, 3) := by decide +kernel
theorem dL_law_466 : decode cL_law 466 = .ok (.iconst 0, 1) := by decide +kernel
theorem dL_law_467 : decode cL_law 467 = .ok (.ireturn, 1) := by decide +kernel
theorem dL_law_468 : decode cL_law 468 = .ok (.aload_n 1, 1) := by decide +kernel
theorem dL_law_469 : decode cL_law 469 = .ok (.aload_n 0, 1) := by decide +kernel
theorem dL_law_470 : decode cL_law 470 = .ok (.iload 4, 2) := by decide +kernel
theorem dL_law_472 : decode cL_law 472 = .ok (.iconst 1, 1) := by decide +kernel
theorem dL_law_473 : decode cL_law 473 = .ok (.iadd, 1) := by decide +kernel
theorem dL_law_474 : decode cL_law 474 = .ok (.iaload, 1) := by decide +kernel
theorem dL_law_475 : decode cL_law 475 = .ok (.aload_n 0, 1) := by decide +kernel
theorem dL_law_476 : decode cL_law 476 = .ok (.iload 4, 2) := by decide +kernel
theorem dL_law_478 : decode cL_law 478 = .ok (.iconst 2, 1) := by decide +kernel
theorem dL_law_479 : decode cL_law 479 = .ok (.iadd, 1) := by decide +kernel
theorem dL_law_480 : decode cL_law 480 = .ok (.iaload, 1) := by decide +kernel
theorem dL_law_481 : decode cL_law 481 = .ok (.aload_n 0, 1) := by decide +kernel
theorem dL_law_482 : decode cL_law 482 = .ok (.iload 4, 2) := by decide +kernel
theorem dL_law_484 : decode cL_law 484 = .ok (.iconst 3, 1) := by decide +kernel
theorem dL_law_485 : decode cL_law 485 = .ok (.iadd, 1) := by decide +kernel
theorem dL_law_486 : decode cL_law 486 = .ok (.iaload, 1) := by decide +kernel
theorem dL_law_487 : decode cL_law 487 = .ok (.invokevirtual 64, 3) := by decide +kernel
theorem dL_law_490 : decode cL_law 490 = .ok (.aload_n 2, 1) := by decide +kernel
theorem dL_law_491 : decode cL_law 491 = .ok (.aload_n 0, 1) := by decide +kernel
theorem dL_law_492 : decode cL_law 492 = .ok (.iload 4, 2) := by decide +kernel
theorem dL_law_494 : decode cL_law 494 = .ok (.iconst 1, 1) := by decide +kernel
theorem dL_law_495 : decode cL_law 495 = .ok (.iadd, 1) := by decide +kernel
theorem dL_law_496 : decode cL_law 496 = .ok (.iaload, 1) := by decide +kernel
theorem dL_law_497 : decode cL_law 497 = .ok (.aload_n 0, 1) := by decide +kernel
theorem dL_law_498 : decode cL_law 498 = .ok (.iload 4, 2) := by decide +kernel
theorem dL_law_500 : decode cL_law 500 = .ok (.iconst 2, 1) := by decide +kernel
theorem dL_law_501 : decode cL_law 501 = .ok (.iadd, 1) := by decide +kernel
theorem dL_law_502 : decode cL_law 502 = .ok (.iaload, 1) := by decide +kernel
theorem dL_law_503 : decode cL_law 503 = .ok (.aload_n 0, 1) := by decide +kernel
theorem dL_law_504 : decode cL_law 504 = .ok (.iload 4, 2) := by decide +kernel
theorem dL_law_506 : decode cL_law 506 = .ok (.iconst 3, 1) := by decide +kernel
theorem dL_law_507 : decode cL_law 507 = .ok (.iadd, 1) := by decide +kernel
theorem dL_law_508 : decode cL_law 508 = .ok (.iaload, 1) := by decide +kernel
theorem dL_law_509 : decode cL_law 509 = .ok (.invokevirtual 68, 3) := by decide +kernel
theorem dL_law_512 : decode cL_law 512 = .ok (.if_icmp .eq 495, 3) := by decide +kernel
theorem dL_law_515 : decode cL_law 515 = .ok (.iconst 0, 1) := by decide +kernel
theorem dL_law_516 : decode cL_law 516 = .ok (.ireturn, 1) := by decide +kernel
theorem dL_law_517 : decode cL_law 517 = .ok (.aload_n 1, 1) := by decide +kernel
theorem dL_law_518 : decode cL_law 518 = .ok (.aload_n 0, 1) := by decide +kernel
theorem dL_law_519 : decode cL_law 519 = .ok (.iload 4, 2) := by decide +kernel
theorem dL_law_521 : decode cL_law 521 = .ok (.iconst 1, 1) := by decide +kernel
theorem dL_law_522 : decode cL_law 522 = .ok (.iadd, 1) := by decide +kernel
theorem dL_law_523 : decode cL_law 523 = .ok (.iaload, 1) := by decide +kernel
theorem dL_law_524 : decode cL_law 524 = .ok (.aload_n 0, 1) := by decide +kernel
theorem dL_law_525 : decode cL_law 525 = .ok (.iload 4, 2) := by decide +kernel
theorem dL_law_527 : decode cL_law 527 = .ok (.iconst 2, 1) := by decide +kernel
theorem dL_law_528 : decode cL_law 528 = .ok (.iadd, 1) := by decide +kernel
theorem dL_law_529 : decode cL_law 529 = .ok (.iaload, 1) := by decide +kernel
theorem dL_law_530 : decode cL_law 530 = .ok (.invokevirtual 69, 3) := by decide +kernel
theorem dL_law_533 : decode cL_law 533 = .ok (.aload_n 2, 1) := by decide +kernel
theorem dL_law_534 : decode cL_law 534 = .ok (.aload_n 0, 1) := by decide +kernel
theorem dL_law_535 : decode cL_law 535 = .ok (.iload 4, 2) := by decide +kernel
theorem dL_law_537 : decode cL_law 537 = .ok (.iconst 1, 1) := by decide +kernel
theorem dL_law_538 : decode cL_law 538 = .ok (.iadd, 1) := by decide +kernel
theorem dL_law_539 : decode cL_law 539 = .ok (.iaload, 1) := by decide +kernel
theorem dL_law_540 : decode cL_law 540 = .ok (.aload_n 0, 1) := by decide +kernel
theorem dL_law_541 : decode cL_law 541 = .ok (.iload 4, 2) := by decide +kernel
theorem dL_law_543 : decode cL_law 543 = .ok (.iconst 2, 1) := by decide +kernel
theorem dL_law_544 : decode cL_law 544 = .ok (.iadd, 1) := by decide +kernel
theorem dL_law_545 : decode cL_law 545 = .ok (.iaload, 1) := by decide +kernel
theorem dL_law_546 : decode cL_law 546 = .ok (.invokevirtual 72, 3) := by decide +kernel
theorem dL_law_549 : decode cL_law 549 = .ok (.if_icmp .eq 458, 3) := by decide +kernel
theorem dL_law_552 : decode cL_law 552 = .ok (.iconst 0, 1) := by decide +kernel
theorem dL_law_553 : decode cL_law 553 = .ok (.ireturn, 1) := by decide +kernel
theorem dL_law_554 : decode cL_law 554 = .ok (.aload_n 1, 1) := by decide +kernel
theorem dL_law_555 : decode cL_law 555 = .ok (.aload_n 0, 1) := by decide +kernel
theorem dL_law_556 : decode cL_law 556 = .ok (.iload 4, 2) := by decide +kernel
theorem dL_law_558 : decode cL_law 558 = .ok (.iconst 1, 1) := by decide +kernel
theorem dL_law_559 : decode cL_law 559 = .ok (.iadd, 1) := by decide +kernel
theorem dL_law_560 : decode cL_law 560 = .ok (.iaload, 1) := by decide +kernel
theorem dL_law_561 : decode cL_law 561 = .ok (.aload_n 0, 1) := by decide +kernel
theorem dL_law_562 : decode cL_law 562 = .ok (.iload 4, 2) := by decide +kernel
theorem dL_law_564 : decode cL_law 564 = .ok (.iconst 2, 1) := by decide +kernel
theorem dL_law_565 : decode cL_law 565 = .ok (.iadd, 1) := by decide +kernel
theorem dL_law_566 : decode cL_law 566 = .ok (.iaload, 1) := by decide +kernel
theorem dL_law_567 : decode cL_law 567 = .ok (.aload_n 3, 1) := by decide +kernel
theorem dL_law_568 : decode cL_law 568 = .ok (.invokestatic 73, 3) := by decide +kernel
theorem dL_law_571 : decode cL_law 571 = .ok (.istore 5, 2) := by decide +kernel
theorem dL_law_573 : decode cL_law 573 = .ok (.aload_n 2, 1) := by decide +kernel
theorem dL_law_574 : decode cL_law 574 = .ok (.aload_n 0, 1) := by decide +kernel
theorem dL_law_575 : decode cL_law 575 = .ok (.iload 4, 2) := by decide +kernel
theorem dL_law_577 : decode cL_law 577 = .ok (.iconst 1, 1) := by decide +kernel
theorem dL_law_578 : decode cL_law 578 = .ok (.iadd, 1) := by decide +kernel
theorem dL_law_579 : decode cL_law 579 = .ok (.iaload, 1) := by decide +kernel
theorem dL_law_580 : decode cL_law 580 = .ok (.aload_n 0, 1) := by decide +kernel
theorem dL_law_581 : decode cL_law 581 = .ok (.iload 4, 2) := by decide +kernel
theorem dL_law_583 : decode cL_law 583 = .ok (.iconst 2, 1) := by decide +kernel
theorem dL_law_584 : decode cL_law 584 = .ok (.iadd, 1) := by decide +kernel
theorem dL_law_585 : decode cL_law 585 = .ok (.iaload, 1) := by decide +kernel
theorem dL_law_586 : decode cL_law 586 = .ok (.invokevirtual 78, 3) := by decide +kernel
theorem dL_law_589 : decode cL_law 589 = .ok (.istore 6, 2) := by decide +kernel
theorem dL_law_591 : decode cL_law 591 = .ok (.aload_n 2, 1) := by decide +kernel
theorem dL_law_592 : decode cL_law 592 = .ok (.invokevirtual 79, 3) := by decide +kernel
theorem dL_law_595 : decode cL_law 595 = .ok (.iload 5, 2) := by decide +kernel
theorem dL_law_597 : decode cL_law 597 = .ok (.if_icmp .eq 5, 3) := by decide +kernel
theorem dL_law_600 : decode cL_law 600 = .ok (.iconst 0, 1) := by decide +kernel
theorem dL_law_601 : decode cL_law 601 = .ok (.ireturn, 1) := by decide +kernel
theorem dL_law_602 : decode cL_law 602 = .ok (.iload 5, 2) := by decide +kernel
theorem dL_law_604 : decode cL_law 604 = .ok (.ifCond .ne 15, 3) := by decide +kernel
theorem dL_law_607 : decode cL_law 607 = .ok (.aload_n 3, 1) := by decide +kernel
theorem dL_law_608 : decode cL_law 608 = .ok (.iconst 0, 1) := by decide +kernel
theorem dL_law_609 : decode cL_law 609 = .ok (.laload, 1) := by decide +kernel
theorem dL_law_610 : decode cL_law 610 = .ok (.iload 6, 2) := by decide +kernel
theorem dL_law_612 : decode cL_law 612 = .ok (.i2l, 1) := by decide +kernel
theorem dL_law_613 : decode cL_law 613 = .ok (.lcmp, 1) := by decide +kernel
theorem dL_law_614 : decode cL_law 614 = .ok (.ifCond .eq 5, 3) := by decide +kernel
theorem dL_law_617 : decode cL_law 617 = .ok (.iconst 0, 1) := by decide +kernel
theorem dL_law_618 : decode cL_law 618 = .ok (.ireturn, 1) := by decide +kernel
theorem dL_law_619 : decode cL_law 619 = .ok (.goto 388, 3) := by decide +kernel
theorem dL_law_622 : decode cL_law 622 = .ok (.aload_n 1, 1) := by decide +kernel
theorem dL_law_623 : decode cL_law 623 = .ok (.aload_n 0, 1) := by decide +kernel
theorem dL_law_624 : decode cL_law 624 = .ok (.iload 4, 2) := by decide +kernel
theorem dL_law_626 : decode cL_law 626 = .ok (.iconst 1, 1) := by decide +kernel
theorem dL_law_627 : decode cL_law 627 = .ok (.iadd, 1) := by decide +kernel
theorem dL_law_628 : decode cL_law 628 = .ok (.iaload, 1) := by decide +kernel
theorem dL_law_629 : decode cL_law 629 = .ok (.aload_n 0, 1) := by decide +kernel
theorem dL_law_630 : decode cL_law 630 = .ok (.iload 4, 2) := by decide +kernel
theorem dL_law_632 : decode cL_law 632 = .ok (.iconst 2, 1) := by decide +kernel
theorem dL_law_633 : decode cL_law 633 = .ok (.iadd, 1) := by decide +kernel
theorem dL_law_634 : decode cL_law 634 = .ok (.iaload, 1) := by decide +kernel
theorem dL_law_635 : decode cL_law 635 = .ok (.aload_n 0, 1) := by decide +kernel
theorem dL_law_636 : decode cL_law 636 = .ok (.iload 4, 2) := by decide +kernel
theorem dL_law_638 : decode cL_law 638 = .ok (.iconst 3, 1) := by decide +kernel
theorem dL_law_639 : decode cL_law 639 = .ok (.iadd, 1) := by decide +kernel
theorem dL_law_640 : decode cL_law 640 = .ok (.iaload, 1) := by decide +kernel
theorem dL_law_641 : decode cL_law 641 = .ok (.aload_n 0, 1) := by decide +kernel
theorem dL_law_642 : decode cL_law 642 = .ok (.iload 4, 2) := by decide +kernel
theorem dL_law_644 : decode cL_law 644 = .ok (.iconst 4, 1) := by decide +kernel
theorem dL_law_645 : decode cL_law 645 = .ok (.iadd, 1) := by decide +kernel
theorem dL_law_646 : decode cL_law 646 = .ok (.iaload, 1) := by decide +kernel
theorem dL_law_647 : decode cL_law 647 = .ok (.invokevirtual 83, 3) := by decide +kernel
theorem dL_law_650 : decode cL_law 650 = .ok (.aload_n 2, 1) := by decide +kernel
theorem dL_law_651 : decode cL_law 651 = .ok (.aload_n 0, 1) := by decide +kernel
theorem dL_law_652 : decode cL_law 652 = .ok (.iload 4, 2) := by decide +kernel
theorem dL_law_654 : decode cL_law 654 = .ok (.iconst 1, 1) := by decide +kernel
theorem dL_law_655 : decode cL_law 655 = .ok (.iadd, 1) := by decide +kernel
theorem dL_law_656 : decode cL_law 656 = .ok (.iaload, 1) := by decide +kernel
theorem dL_law_657 : decode cL_law 657 = .ok (.aload_n 0, 1) := by decide +kernel
theorem dL_law_658 : decode cL_law 658 = .ok (.iload 4, 2) := by decide +kernel
theorem dL_law_660 : decode cL_law 660 = .ok (.iconst 2, 1) := by decide +kernel
theorem dL_law_661 : decode cL_law 661 = .ok (.iadd, 1) := by decide +kernel
theorem dL_law_662 : decode cL_law 662 = .ok (.iaload, 1) := by decide +kernel
theorem dL_law_663 : decode cL_law 663 = .ok (.aload_n 0, 1) := by decide +kernel
theorem dL_law_664 : decode cL_law 664 = .ok (.iload 4, 2) := by decide +kernel
theorem dL_law_666 : decode cL_law 666 = .ok (.iconst 3, 1) := by decide +kernel
theorem dL_law_667 : decode cL_law 667 = .ok (.iadd, 1) := by decide +kernel
theorem dL_law_668 : decode cL_law 668 = .ok (.iaload, 1) := by decide +kernel
theorem dL_law_669 : decode cL_law 669 = .ok (.aload_n 0, 1) := by decide +kernel
theorem dL_law_670 : decode cL_law 670 = .ok (.iload 4, 2) := by decide +kernel
theorem dL_law_672 : decode cL_law 672 = .ok (.iconst 4, 1) := by decide +kernel
theorem dL_law_673 : decode cL_law 673 = .ok (.iadd, 1) := by decide +kernel
theorem dL_law_674 : decode cL_law 674 = .ok (.iaload, 1) := by decide +kernel
theorem dL_law_675 : decode cL_law 675 = .ok (.invokevirtual 87, 3) := by decide +kernel
theorem dL_law_678 : decode cL_law 678 = .ok (.if_icmp .eq 329, 3) := by decide +kernel
theorem dL_law_681 : decode cL_law 681 = .ok (.iconst 0, 1) := by decide +kernel
theorem dL_law_682 : decode cL_law 682 = .ok (.ireturn, 1) := by decide +kernel
theorem dL_law_683 : decode cL_law 683 = .ok (.aload_n 1, 1) := by decide +kernel
theorem dL_law_684 : decode cL_law 684 = .ok (.aload_n 0, 1) := by decide +kernel
theorem dL_law_685 : decode cL_law 685 = .ok (.iload 4, 2) := by decide +kernel
theorem dL_law_687 : decode cL_law 687 = .ok (.iconst 1, 1) := by decide +kernel
theorem dL_law_688 : decode cL_law 688 = .ok (.iadd, 1) := by decide +kernel
theorem dL_law_689 : decode cL_law 689 = .ok (.iaload, 1) := by decide +kernel
theorem dL_law_690 : decode cL_law 690 = .ok (.invokevirtual 88, 3) := by decide +kernel
theorem dL_law_693 : decode cL_law 693 = .ok (.aload_n 2, 1) := by decide +kernel
theorem dL_law_694 : decode cL_law 694 = .ok (.aload_n 0, 1) := by decide +kernel
theorem dL_law_695 : decode cL_law 695 = .ok (.iload 4, 2) := by decide +kernel
theorem dL_law_697 : decode cL_law 697 = .ok (.iconst 1, 1) := by decide +kernel
theorem dL_law_698 : decode cL_law 698 = .ok (.iadd, 1) := by decide +kernel
theorem dL_law_699 : decode cL_law 699 = .ok (.iaload, 1) := by decide +kernel
theorem dL_law_700 : decode cL_law 700 = .ok (.invokevirtual 91, 3) := by decide +kernel
theorem dL_law_703 : decode cL_law 703 = .ok (.if_icmp .eq 304, 3) := by decide +kernel
theorem dL_law_706 : decode cL_law 706 = .ok (.iconst 0, 1) := by decide +kernel
theorem dL_law_707 : decode cL_law 707 = .ok (.ireturn, 1) := by decide +kernel
theorem dL_law_708 : decode cL_law 708 = .ok (.aload_n 1, 1) := by decide +kernel
theorem dL_law_709 : decode cL_law 709 = .ok (.aload_n 0, 1) := by decide +kernel
theorem dL_law_710 : decode cL_law 710 = .ok (.iload 4, 2) := by decide +kernel
theorem dL_law_712 : decode cL_law 712 = .ok (.iconst 1, 1) := by decide +kernel
theorem dL_law_713 : decode cL_law 713 = .ok (.iadd, 1) := by decide +kernel
theorem dL_law_714 : decode cL_law 714 = .ok (.iaload, 1) := by decide +kernel
theorem dL_law_715 : decode cL_law 715 = .ok (.aload_n 0, 1) := by decide +kernel
theorem dL_law_716 : decode cL_law 716 = .ok (.iload 4, 2) := by decide +kernel
theorem dL_law_718 : decode cL_law 718 = .ok (.iconst 2, 1) := by decide +kernel
theorem dL_law_719 : decode cL_law 719 = .ok (.iadd, 1) := by decide +kernel
theorem dL_law_720 : decode cL_law 720 = .ok (.iaload, 1) := by decide +kernel
theorem dL_law_721 : decode cL_law 721 = .ok (.aload_n 3, 1) := by decide +kernel
theorem dL_law_722 : decode cL_law 722 = .ok (.invokestatic 92, 3) := by decide +kernel
theorem dL_law_725 : decode cL_law 725 = .ok (.istore 5, 2) := by decide +kernel
theorem dL_law_727 : decode cL_law 727 = .ok (.aload_n 2, 1) := by decide +kernel
theorem dL_law_728 : decode cL_law 728 = .ok (.aload_n 0, 1) := by decide +kernel
theorem dL_law_729 : decode cL_law 729 = .ok (.iload 4, 2) := by decide +kernel
theorem dL_law_731 : decode cL_law 731 = .ok (.iconst 1, 1) := by decide +kernel
theorem dL_law_732 : decode cL_law 732 = .ok (.iadd, 1) := by decide +kernel
theorem dL_law_733 : decode cL_law 733 = .ok (.iaload, 1) := by decide +kernel
theorem dL_law_734 : decode cL_law 734 = .ok (.aload_n 0, 1) := by decide +kernel
theorem dL_law_735 : decode cL_law 735 = .ok (.iload 4, 2) := by decide +kernel
theorem dL_law_737 : decode cL_law 737 = .ok (.iconst 2, 1) := by decide +kernel
theorem dL_law_738 : decode cL_law 738 = .ok (.iadd, 1) := by decide +kernel
theorem dL_law_739 : decode cL_law 739 = .ok (.iaload, 1) := by decide +kernel
theorem dL_law_740 : decode cL_law 740 = .ok (.invokevirtual 94, 3) := by decide +kernel
theorem dL_law_743 : decode cL_law 743 = .ok (.istore 6, 2) := by decide +kernel
theorem dL_law_745 : decode cL_law 745 = .ok (.aload_n 2, 1) := by decide +kernel
theorem dL_law_746 : decode cL_law 746 = .ok (.invokevirtual 79, 3) := by decide +kernel
theorem dL_law_749 : decode cL_law 749 = .ok (.iload 5, 2) := by decide +kernel
theorem dL_law_751 : decode cL_law 751 = .ok (.if_icmp .eq 5, 3) := by decide +kernel
theorem dL_law_754 : decode cL_law 754 = .ok (.iconst 0, 1) := by decide +kernel
theorem dL_law_755 : decode cL_law 755 = .ok (.ireturn, 1) := by decide +kernel
theorem dL_law_756 : decode cL_law 756 = .ok (.iload 5, 2) := by decide +kernel
theorem dL_law_758 : decode cL_law 758 = .ok (.ifCond .ne 15, 3) := by decide +kernel
theorem dL_law_761 : decode cL_law 761 = .ok (.aload_n 3, 1) := by decide +kernel
theorem dL_law_762 : decode cL_law 762 = .ok (.iconst 0, 1) := by decide +kernel
theorem dL_law_763 : decode cL_law 763 = .ok (.laload, 1) := by decide +kernel
theorem dL_law_764 : decode cL_law 764 = .ok (.iload 6, 2) := by decide +kernel
theorem dL_law_766 : decode cL_law 766 = .ok (.i2l, 1) := by decide +kernel
theorem dL_law_767 : decode cL_law 767 = .ok (.lcmp, 1) := by decide +kernel
theorem dL_law_768 : decode cL_law 768 = .ok (.ifCond .eq 5, 3) := by decide +kernel
theorem dL_law_771 : decode cL_law 771 = .ok (.iconst 0, 1) := by decide +kernel
theorem dL_law_772 : decode cL_law 772 = .ok (.ireturn, 1) := by decide +kernel
theorem dL_law_773 : decode cL_law 773 = .ok (.goto 234, 3) := by decide +kernel
theorem dL_law_776 : decode cL_law 776 = .ok (.aload_n 1, 1) := by decide +kernel
theorem dL_law_777 : decode cL_law 777 = .ok (.aload_n 0, 1) := by decide +kernel
theorem dL_law_778 : decode cL_law 778 = .ok (.iload 4, 2) := by decide +kernel
theorem dL_law_780 : decode cL_law 780 = .ok (.iconst 1, 1) := by decide +kernel
theorem dL_law_781 : decode cL_law 781 = .ok (.iadd, 1) := by decide +kernel
theorem dL_law_782 : decode cL_law 782 = .ok (.iaload, 1) := by decide +kernel
theorem dL_law_783 : decode cL_law 783 = .ok (.aload_n 0, 1) := by decide +kernel
theorem dL_law_784 : decode cL_law 784 = .ok (.iload 4, 2) := by decide +kernel
theorem dL_law_786 : decode cL_law 786 = .ok (.iconst 2, 1) := by decide +kernel
theorem dL_law_787 : decode cL_law 787 = .ok (.iadd, 1) := by decide +kernel
theorem dL_law_788 : decode cL_law 788 = .ok (.iaload, 1) := by decide +kernel
theorem dL_law_789 : decode cL_law 789 = .ok (.aload_n 0, 1) := by decide +kernel
theorem dL_law_790 : decode cL_law 790 = .ok (.iload 4, 2) := by decide +kernel
theorem dL_law_792 : decode cL_law 792 = .ok (.iconst 3, 1) := by decide +kernel
theorem dL_law_793 : decode cL_law 793 = .ok (.iadd, 1) := by decide +kernel
theorem dL_law_794 : decode cL_law 794 = .ok (.iaload, 1) := by decide +kernel
theorem dL_law_795 : decode cL_law 795 = .ok (.invokevirtual 95, 3) := by decide +kernel
theorem dL_law_798 : decode cL_law 798 = .ok (.aload_n 2, 1) := by decide +kernel
theorem dL_law_799 : decode cL_law 799 = .ok (.aload_n 0, 1) := by decide +kernel
theorem dL_law_800 : decode cL_law 800 = .ok (.iload 4, 2) := by decide +kernel
theorem dL_law_802 : decode cL_law 802 = .ok (.iconst 1, 1) := by decide +kernel
theorem dL_law_803 : decode cL_law 803 = .ok (.iadd, 1) := by decide +kernel
theorem dL_law_804 : decode cL_law 804 = .ok (.iaload, 1) := by decide +kernel
theorem dL_law_805 : decode cL_law 805 = .ok (.aload_n 0, 1) := by decide +kernel
theorem dL_law_806 : decode cL_law 806 = .ok (.iload 4, 2) := by decide +kernel
theorem dL_law_808 : decode cL_law 808 = .ok (.iconst 2, 1) := by decide +kernel
theorem dL_law_809 : decode cL_law 809 = .ok (.iadd, 1) := by decide +kernel
theorem dL_law_810 : decode cL_law 810 = .ok (.iaload, 1) := by decide +kernel
theorem dL_law_811 : decode cL_law 811 = .ok (.aload_n 0, 1) := by decide +kernel
theorem dL_law_812 : decode cL_law 812 = .ok (.iload 4, 2) := by decide +kernel
theorem dL_law_814 : decode cL_law 814 = .ok (.iconst 3, 1) := by decide +kernel
theorem dL_law_815 : decode cL_law 815 = .ok (.iadd, 1) := by decide +kernel
theorem dL_law_816 : decode cL_law 816 = .ok (.iaload, 1) := by decide +kernel
theorem dL_law_817 : decode cL_law 817 = .ok (.invokevirtual 99, 3) := by decide +kernel
theorem dL_law_820 : decode cL_law 820 = .ok (.lcmp, 1) := by decide +kernel
theorem dL_law_821 : decode cL_law 821 = .ok (.ifCond .eq 186, 3) := by decide +kernel
theorem dL_law_824 : decode cL_law 824 = .ok (.iconst 0, 1) := by decide +kernel
theorem dL_law_825 : decode cL_law 825 = .ok (.ireturn, 1) := by decide +kernel
theorem dL_law_826 : decode cL_law 826 = .ok (.aload_n 1, 1) := by decide +kernel
theorem dL_law_827 : decode cL_law 827 = .ok (.aload_n 0, 1) := by decide +kernel
theorem dL_law_828 : decode cL_law 828 = .ok (.iload 4, 2) := by decide +kernel
theorem dL_law_830 : decode cL_law 830 = .ok (.iconst 1, 1) := by decide +kernel
theorem dL_law_831 : decode cL_law 831 = .ok (.iadd, 1) := by decide +kernel
theorem dL_law_832 : decode cL_law 832 = .ok (.iaload, 1) := by decide +kernel
theorem dL_law_833 : decode cL_law 833 = .ok (.aload_n 0, 1) := by decide +kernel
theorem dL_law_834 : decode cL_law 834 = .ok (.iload 4, 2) := by decide +kernel
theorem dL_law_836 : decode cL_law 836 = .ok (.iconst 2, 1) := by decide +kernel
theorem dL_law_837 : decode cL_law 837 = .ok (.iadd, 1) := by decide +kernel
theorem dL_law_838 : decode cL_law 838 = .ok (.iaload, 1) := by decide +kernel
theorem dL_law_839 : decode cL_law 839 = .ok (.aload_n 0, 1) := by decide +kernel
theorem dL_law_840 : decode cL_law 840 = .ok (.iload 4, 2) := by decide +kernel
theorem dL_law_842 : decode cL_law 842 = .ok (.iconst 3, 1) := by decide +kernel
theorem dL_law_843 : decode cL_law 843 = .ok (.iadd, 1) := by decide +kernel
theorem dL_law_844 : decode cL_law 844 = .ok (.iaload, 1) := by decide +kernel
theorem dL_law_845 : decode cL_law 845 = .ok (.invokevirtual 100, 3) := by decide +kernel
theorem dL_law_848 : decode cL_law 848 = .ok (.aload_n 2, 1) := by decide +kernel
theorem dL_law_849 : decode cL_law 849 = .ok (.aload_n 0, 1) := by decide +kernel
theorem dL_law_850 : decode cL_law 850 = .ok (.iload 4, 2) := by decide +kernel
theorem dL_law_852 : decode cL_law 852 = .ok (.iconst 1, 1) := by decide +kernel
theorem dL_law_853 : decode cL_law 853 = .ok (.iadd, 1) := by decide +kernel
theorem dL_law_854 : decode cL_law 854 = .ok (.iaload, 1) := by decide +kernel
theorem dL_law_855 : decode cL_law 855 = .ok (.aload_n 0, 1) := by decide +kernel
theorem dL_law_856 : decode cL_law 856 = .ok (.iload 4, 2) := by decide +kernel
theorem dL_law_858 : decode cL_law 858 = .ok (.iconst 2, 1) := by decide +kernel
theorem dL_law_859 : decode cL_law 859 = .ok (.iadd, 1) := by decide +kernel
theorem dL_law_860 : decode cL_law 860 = .ok (.iaload, 1) := by decide +kernel
theorem dL_law_861 : decode cL_law 861 = .ok (.aload_n 0, 1) := by decide +kernel
theorem dL_law_862 : decode cL_law 862 = .ok (.iload 4, 2) := by decide +kernel
theorem dL_law_864 : decode cL_law 864 = .ok (.iconst 3, 1) := by decide +kernel
theorem dL_law_865 : decode cL_law 865 = .ok (.iadd, 1) := by decide +kernel
theorem dL_law_866 : decode cL_law 866 = .ok (.iaload, 1) := by decide +kernel
theorem dL_law_867 : decode cL_law 867 = .ok (.invokevirtual 103, 3) := by decide +kernel
theorem dL_law_870 : decode cL_law 870 = .ok (.lcmp, 1) := by decide +kernel
theorem dL_law_871 : decode cL_law 871 = .ok (.ifCond .eq 136, 3) := by decide +kernel
theorem dL_law_874 : decode cL_law 874 = .ok (.iconst 0, 1) := by decide +kernel
theorem dL_law_875 : decode cL_law 875 = .ok (.ireturn, 1) := by decide +kernel
theorem dL_law_876 : decode cL_law 876 = .ok (.aload_n 1, 1) := by decide +kernel
theorem dL_law_877 : decode cL_law 877 = .ok (.invokevirtual 104, 3) := by decide +kernel
theorem dL_law_880 : decode cL_law 880 = .ok (.aload_n 2, 1) := by decide +kernel
theorem dL_law_881 : decode cL_law 881 = .ok (.invokevirtual 107, 3) := by decide +kernel
theorem dL_law_884 : decode cL_law 884 = .ok (.if_icmp .eq 123, 3) := by decide +kernel
theorem dL_law_887 : decode cL_law 887 = .ok (.iconst 0, 1) := by decide +kernel
theorem dL_law_888 : decode cL_law 888 = .ok (.ireturn, 1) := by decide +kernel
theorem dL_law_889 : decode cL_law 889 = .ok (.aload_n 1, 1) := by decide +kernel
theorem dL_law_890 : decode cL_law 890 = .ok (.aload_n 0, 1) := by decide +kernel
theorem dL_law_891 : decode cL_law 891 = .ok (.iload 4, 2) := by decide +kernel
theorem dL_law_893 : decode cL_law 893 = .ok (.iconst 1, 1) := by decide +kernel
theorem dL_law_894 : decode cL_law 894 = .ok (.iadd, 1) := by decide +kernel
theorem dL_law_895 : decode cL_law 895 = .ok (.iaload, 1) := by decide +kernel
theorem dL_law_896 : decode cL_law 896 = .ok (.aload_n 0, 1) := by decide +kernel
theorem dL_law_897 : decode cL_law 897 = .ok (.iload 4, 2) := by decide +kernel
theorem dL_law_899 : decode cL_law 899 = .ok (.iconst 2, 1) := by decide +kernel
theorem dL_law_900 : decode cL_law 900 = .ok (.iadd, 1) := by decide +kernel
theorem dL_law_901 : decode cL_law 901 = .ok (.iaload, 1) := by decide +kernel
theorem dL_law_902 : decode cL_law 902 = .ok (.invokevirtual 108, 3) := by decide +kernel
theorem dL_law_905 : decode cL_law 905 = .ok (.aload_n 2, 1) := by decide +kernel
theorem dL_law_906 : decode cL_law 906 = .ok (.aload_n 0, 1) := by decide +kernel
theorem dL_law_907 : decode cL_law 907 = .ok (.iload 4, 2) := by decide +kernel
theorem dL_law_909 : decode cL_law 909 = .ok (.iconst 1, 1) := by decide +kernel
theorem dL_law_910 : decode cL_law 910 = .ok (.iadd, 1) := by decide +kernel
theorem dL_law_911 : decode cL_law 911 = .ok (.iaload, 1) := by decide +kernel
theorem dL_law_912 : decode cL_law 912 = .ok (.aload_n 0, 1) := by decide +kernel
theorem dL_law_913 : decode cL_law 913 = .ok (.iload 4, 2) := by decide +kernel
theorem dL_law_915 : decode cL_law 915 = .ok (.iconst 2, 1) := by decide +kernel
theorem dL_law_916 : decode cL_law 916 = .ok (.iadd, 1) := by decide +kernel
theorem dL_law_917 : decode cL_law 917 = .ok (.iaload, 1) := by decide +kernel
theorem dL_law_918 : decode cL_law 918 = .ok (.invokevirtual 112, 3) := by decide +kernel
theorem dL_law_921 : decode cL_law 921 = .ok (.lcmp, 1) := by decide +kernel
theorem dL_law_922 : decode cL_law 922 = .ok (.ifCond .eq 85, 3) := by decide +kernel
theorem dL_law_925 : decode cL_law 925 = .ok (.iconst 0, 1) := by decide +kernel
theorem dL_law_926 : decode cL_law 926 = .ok (.ireturn, 1) := by decide +kernel
theorem dL_law_927 : decode cL_law 927 = .ok (.aload_n 1, 1) := by decide +kernel
theorem dL_law_928 : decode cL_law 928 = .ok (.aload_n 0, 1) := by decide +kernel
theorem dL_law_929 : decode cL_law 929 = .ok (.iload 4, 2) := by decide +kernel
theorem dL_law_931 : decode cL_law 931 = .ok (.iconst 1, 1) := by decide +kernel
theorem dL_law_932 : decode cL_law 932 = .ok (.iadd, 1) := by decide +kernel
theorem dL_law_933 : decode cL_law 933 = .ok (.iaload, 1) := by decide +kernel
theorem dL_law_934 : decode cL_law 934 = .ok (.aload_n 3, 1) := by decide +kernel
theorem dL_law_935 : decode cL_law 935 = .ok (.invokestatic 113, 3) := by decide +kernel
theorem dL_law_938 : decode cL_law 938 = .ok (.istore 5, 2) := by decide +kernel
theorem dL_law_940 : decode cL_law 940 = .ok (.aload_n 2, 1) := by decide +kernel
theorem dL_law_941 : decode cL_law 941 = .ok (.aload_n 0, 1) := by decide +kernel
theorem dL_law_942 : decode cL_law 942 = .ok (.iload 4, 2) := by decide +kernel
theorem dL_law_944 : decode cL_law 944 = .ok (.iconst 1, 1) := by decide +kernel
theorem dL_law_945 : decode cL_law 945 = .ok (.iadd, 1) := by decide +kernel
theorem dL_law_946 : decode cL_law 946 = .ok (.iaload, 1) := by decide +kernel
theorem dL_law_947 : decode cL_law 947 = .ok (.invokevirtual 116, 3) := by decide +kernel
theorem dL_law_950 : decode cL_law 950 = .ok (.lstore 6, 2) := by decide +kernel
theorem dL_law_952 : decode cL_law 952 = .ok (.aload_n 2, 1) := by decide +kernel
theorem dL_law_953 : decode cL_law 953 = .ok (.invokevirtual 79, 3) := by decide +kernel
theorem dL_law_956 : decode cL_law 956 = .ok (.iload 5, 2) := by decide +kernel
theorem dL_law_958 : decode cL_law 958 = .ok (.if_icmp .eq 5, 3) := by decide +kernel
theorem dL_law_961 : decode cL_law 961 = .ok (.iconst 0, 1) := by decide +kernel
theorem dL_law_962 : decode cL_law 962 = .ok (.ireturn, 1) := by decide +kernel
theorem dL_law_963 : decode cL_law 963 = .ok (.iload 5, 2) := by decide +kernel
theorem dL_law_965 : decode cL_law 965 = .ok (.ifCond .ne 14, 3) := by decide +kernel
theorem dL_law_968 : decode cL_law 968 = .ok (.aload_n 3, 1) := by decide +kernel
theorem dL_law_969 : decode cL_law 969 = .ok (.iconst 0, 1) := by decide +kernel
theorem dL_law_970 : decode cL_law 970 = .ok (.laload, 1) := by decide +kernel
theorem dL_law_971 : decode cL_law 971 = .ok (.lload 6, 2) := by decide +kernel
theorem dL_law_973 : decode cL_law 973 = .ok (.lcmp, 1) := by decide +kernel
theorem dL_law_974 : decode cL_law 974 = .ok (.ifCond .eq 5, 3) := by decide +kernel
theorem dL_law_977 : decode cL_law 977 = .ok (.iconst 0, 1) := by decide +kernel
theorem dL_law_978 : decode cL_law 978 = .ok (.ireturn, 1) := by decide +kernel
theorem dL_law_979 : decode cL_law 979 = .ok (.goto 28, 3) := by decide +kernel
theorem dL_law_982 : decode cL_law 982 = .ok (.aload_n 1, 1) := by decide +kernel
theorem dL_law_983 : decode cL_law 983 = .ok (.aload_n 0, 1) := by decide +kernel
theorem dL_law_984 : decode cL_law 984 = .ok (.iload 4, 2) := by decide +kernel
theorem dL_law_986 : decode cL_law 986 = .ok (.iconst 1, 1) := by decide +kernel
theorem dL_law_987 : decode cL_law 987 = .ok (.iadd, 1) := by decide +kernel
theorem dL_law_988 : decode cL_law 988 = .ok (.iaload, 1) := by decide +kernel
theorem dL_law_989 : decode cL_law 989 = .ok (.invokevirtual 117, 3) := by decide +kernel
theorem dL_law_992 : decode cL_law 992 = .ok (.aload_n 2, 1) := by decide +kernel
theorem dL_law_993 : decode cL_law 993 = .ok (.aload_n 0, 1) := by decide +kernel
theorem dL_law_994 : decode cL_law 994 = .ok (.iload 4, 2) := by decide +kernel
theorem dL_law_996 : decode cL_law 996 = .ok (.iconst 1, 1) := by decide +kernel
theorem dL_law_997 : decode cL_law 997 = .ok (.iadd, 1) := by decide +kernel
theorem dL_law_998 : decode cL_law 998 = .ok (.iaload, 1) := by decide +kernel
theorem dL_law_999 : decode cL_law 999 = .ok (.invokevirtual 120, 3) := by decide +kernel
theorem dL_law_1002 : decode cL_law 1002 = .ok (.if_icmp .eq 5, 3) := by decide +kernel
theorem dL_law_1005 : decode cL_law 1005 = .ok (.iconst 0, 1) := by decide +kernel
theorem dL_law_1006 : decode cL_law 1006 = .ok (.ireturn, 1) := by decide +kernel
theorem dL_law_1007 : decode cL_law 1007 = .ok (.iinc 4 6, 3) := by decide +kernel
theorem dL_law_1010 : decode cL_law 1010 = .ok (.goto (-987), 3) := by decide +kernel
theorem dL_law_1013 : decode cL_law 1013 = .ok (.iconst 1, 1) := by decide +kernel
theorem dL_law_1014 : decode cL_law 1014 = .ok (.ireturn, 1) := by decide +kernel
