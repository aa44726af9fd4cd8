theorem d158_275 : mm_dec q158 275 = some (.iconst 1) := by decide +kernel
theorem d158_276 : mm_dec q158 276 = some (.iadd) := by decide +kernel
theorem d158_277 : mm_dec q158 277 = some (.iastore) := by decide +kernel
theorem d158_278 : mm_dec q158 278 = some (.return_) := by decide +kernel
theorem d159_0 : mm_dec q159 0 = some (.aload_n 0) := by decide +kernel
theorem d159_1 : mm_dec q159 1 = some (.iload_n 1) := by decide +kernel
theorem d159_2 : mm_dec q159 2 = some (.putfield 123) := by decide +kernel
theorem d159_5 : mm_dec q159 5 = some (.aload_n 0) := by decide +kernel
theorem d159_6 : mm_dec q159 6 = some (.iconst 0) := by decide +kernel
theorem d159_7 : mm_dec q159 7 = some (.putfield 113) := by decide +kernel
theorem d159_10 : mm_dec q159 10 = some (.aload_n 0) := by decide +kernel
theorem d159_11 : mm_dec q159 11 = some (.iconst (-1)) := by decide +kernel
theorem d159_12 : mm_dec q159 12 = some (.putfield 120) := by decide +kernel
theorem d159_15 : mm_dec q159 15 = some (.aload_n 0) := by decide +kernel
theorem d159_16 : mm_dec q159 16 = some (.iconst 0) := by decide +kernel
theorem d159_17 : mm_dec q159 17 = some (.putfield 126) := by decide +kernel
theorem d159_20 : mm_dec q159 20 = some (.aload_n 0) := by decide +kernel
theorem d159_21 : mm_dec q159 21 = some (.getfield 19) := by decide +kernel
theorem d159_24 : mm_dec q159 24 = some (.iload_n 1) := by decide +kernel
theorem d159_25 : mm_dec q159 25 = some (.iconst 0) := by decide +kernel
theorem d159_26 : mm_dec q159 26 = some (.iastore) := by decide +kernel
theorem d159_27 : mm_dec q159 27 = some (.aload_n 0) := by decide +kernel
theorem d159_28 : mm_dec q159 28 = some (.getfield 22) := by decide +kernel
theorem d159_31 : mm_dec q159 31 = some (.iload_n 1) := by decide +kernel
theorem d159_32 : mm_dec q159 32 = some (.iconst 0) := by decide +kernel
theorem d159_33 : mm_dec q159 33 = some (.iastore) := by decide +kernel
theorem d159_34 : mm_dec q159 34 = some (.return_) := by decide +kernel
theorem d160_0 : mm_dec q160 0 = some (.aload_n 0) := by decide +kernel
theorem d160_1 : mm_dec q160 1 = some (.getfield 120) := by decide +kernel
theorem d160_4 : mm_dec q160 4 = some (.iconst (-1)) := by decide +kernel
theorem d160_5 : mm_dec q160 5 = some (.if_icmp .ne 15) := by decide +kernel
theorem d160_8 : mm_dec q160 8 = some (.aload_n 0) := by decide +kernel
theorem d160_9 : mm_dec q160 9 = some (.invokevirtual 132) := by decide +kernel
theorem d160_12 : mm_dec q160 12 = some (.iconst (-1)) := by decide +kernel
theorem d160_13 : mm_dec q160 13 = some (.if_icmp .eq 7) := by decide +kernel
theorem d160_16 : mm_dec q160 16 = some (.aload_n 0) := by decide +kernel
theorem d160_17 : mm_dec q160 17 = some (.invokevirtual 129) := by decide +kernel
theorem d160_20 : mm_dec q160 20 = some (.aload_n 0) := by decide +kernel
theorem d160_21 : mm_dec q160 21 = some (.getfield 120) := by decide +kernel
theorem d160_24 : mm_dec q160 24 = some (.ireturn) := by decide +kernel
theorem d161_0 : mm_dec q161 0 = some (.aload_n 0) := by decide +kernel
theorem d161_1 : mm_dec q161 1 = some (.iload_n 1) := by decide +kernel
theorem d161_2 : mm_dec q161 2 = some (.invokevirtual 184) := by decide +kernel
theorem d161_5 : mm_dec q161 5 = some (.aload_n 0) := by decide +kernel
theorem d161_6 : mm_dec q161 6 = some (.invokevirtual 187) := by decide +kernel
theorem d161_9 : mm_dec q161 9 = some (.aload_n 0) := by decide +kernel
theorem d161_10 : mm_dec q161 10 = some (.getfield 120) := by decide +kernel
theorem d161_13 : mm_dec q161 13 = some (.iconst (-1)) := by decide +kernel
theorem d161_14 : mm_dec q161 14 = some (.if_icmp .ne 29) := by decide +kernel
theorem d161_17 : mm_dec q161 17 = some (.aload_n 0) := by decide +kernel
theorem d161_18 : mm_dec q161 18 = some (.invokevirtual 132) := by decide +kernel
theorem d161_21 : mm_dec q161 21 = some (.bipush 59) := by decide +kernel
theorem d161_23 : mm_dec q161 23 = some (.if_icmp .ne 20) := by decide +kernel
theorem d161_26 : mm_dec q161 26 = some (.aload_n 0) := by decide +kernel
theorem d161_27 : mm_dec q161 27 = some (.dup) := by decide +kernel
theorem d161_28 : mm_dec q161 28 = some (.getfield 113) := by decide +kernel
theorem d161_31 : mm_dec q161 31 = some (.iconst 1) := by decide +kernel
theorem d161_32 : mm_dec q161 32 = some (.iadd) := by decide +kernel
theorem d161_33 : mm_dec q161 33 = some (.putfield 113) := by decide +kernel
theorem d161_36 : mm_dec q161 36 = some (.aload_n 0) := by decide +kernel
theorem d161_37 : mm_dec q161 37 = some (.invokevirtual 187) := by decide +kernel
theorem d161_40 : mm_dec q161 40 = some (.goto (-31)) := by decide +kernel
theorem d161_43 : mm_dec q161 43 = some (.aload_n 0) := by decide +kernel
theorem d161_44 : mm_dec q161 44 = some (.invokevirtual 190) := by decide +kernel
theorem d161_47 : mm_dec q161 47 = some (.ireturn) := by decide +kernel
theorem d162_0 : mm_dec q162 0 = some (.ldc2_w 193) := by decide +kernel
theorem d162_3 : mm_dec q162 3 = some (.ldc2_w 195) := by decide +kernel
theorem d162_6 : mm_dec q162 6 = some (.lload_n 0) := by decide +kernel
theorem d162_7 : mm_dec q162 7 = some (.invokestatic 197) := by decide +kernel
theorem d162_10 : mm_dec q162 10 = some (.invokestatic 203) := by decide +kernel
theorem d162_13 : mm_dec q162 13 = some (.l2i) := by decide +kernel
theorem d162_14 : mm_dec q162 14 = some (.ireturn) := by decide +kernel
theorem d163_0 : mm_dec q163 0 = some (.iload_n 0) := by decide +kernel
theorem d163_1 : mm_dec q163 1 = some (.tableswitch 143 2 10 #[51, 58, 65, 72, 89, 101, 113, 143, 125]) := by decide +kernel
theorem d163_52 : mm_dec q163 52 = some (.lload_n 1) := by decide +kernel
theorem d163_53 : mm_dec q163 53 = some (.lload_n 3) := by decide +kernel
theorem d163_54 : mm_dec q163 54 = some (.ladd) := by decide +kernel
theorem d163_55 : mm_dec q163 55 = some (.invokestatic 206) := by decide +kernel
theorem d163_58 : mm_dec q163 58 = some (.ireturn) := by decide +kernel
theorem d163_59 : mm_dec q163 59 = some (.lload_n 1) := by decide +kernel
theorem d163_60 : mm_dec q163 60 = some (.lload_n 3) := by decide +kernel
theorem d163_61 : mm_dec q163 61 = some (.lsub) := by decide +kernel
theorem d163_62 : mm_dec q163 62 = some (.invokestatic 206) := by decide +kernel
theorem d163_65 : mm_dec q163 65 = some (.ireturn) := by decide +kernel
theorem d163_66 : mm_dec q163 66 = some (.lload_n 1) := by decide +kernel
theorem d163_67 : mm_dec q163 67 = some (.lload_n 3) := by decide +kernel
theorem d163_68 : mm_dec q163 68 = some (.lmul) := by decide +kernel
theorem d163_69 : mm_dec q163 69 = some (.invokestatic 206) := by decide +kernel
theorem d163_72 : mm_dec q163 72 = some (.ireturn) := by decide +kernel
theorem d163_73 : mm_dec q163 73 = some (.lload_n 3) := by decide +kernel
theorem d163_74 : mm_dec q163 74 = some (.lconst 0) := by decide +kernel
theorem d163_75 : mm_dec q163 75 = some (.lcmp) := by decide +kernel
theorem d163_76 : mm_dec q163 76 = some (.ifCond .ne 7) := by decide +kernel
theorem d163_79 : mm_dec q163 79 = some (.iconst 0) := by decide +kernel
theorem d163_80 : mm_dec q163 80 = some (.goto 9) := by decide +kernel
theorem d163_83 : mm_dec q163 83 = some (.lload_n 1) := by decide +kernel
theorem d163_84 : mm_dec q163 84 = some (.lload_n 3) := by decide +kernel
theorem d163_85 : mm_dec q163 85 = some (.ldiv) := by decide +kernel
theorem d163_86 : mm_dec q163 86 = some (.invokestatic 206) := by decide +kernel
theorem d163_89 : mm_dec q163 89 = some (.ireturn) := by decide +kernel
theorem d163_90 : mm_dec q163 90 = some (.lload_n 1) := by decide +kernel
theorem d163_91 : mm_dec q163 91 = some (.lload_n 3) := by decide +kernel
theorem d163_92 : mm_dec q163 92 = some (.lcmp) := by decide +kernel
theorem d163_93 : mm_dec q163 93 = some (.ifCond .ne 7) := by decide +kernel
theorem d163_96 : mm_dec q163 96 = some (.iconst 1) := by decide +kernel
theorem d163_97 : mm_dec q163 97 = some (.goto 4) := by decide +kernel
theorem d163_100 : mm_dec q163 100 = some (.iconst 0) := by decide +kernel
theorem d163_101 : mm_dec q163 101 = some (.ireturn) := by decide +kernel
theorem d163_102 : mm_dec q163 102 = some (.lload_n 1) := by decide +kernel
theorem d163_103 : mm_dec q163 103 = some (.lload_n 3) := by decide +kernel
theorem d163_104 : mm_dec q163 104 = some (.lcmp) := by decide +kernel
theorem d163_105 : mm_dec q163 105 = some (.ifCond .ge 7) := by decide +kernel
theorem d163_108 : mm_dec q163 108 = some (.iconst 1) := by decide +kernel
theorem d163_109 : mm_dec q163 109 = some (.goto 4) := by decide +kernel
theorem d163_112 : mm_dec q163 112 = some (.iconst 0) := by decide +kernel
theorem d163_113 : mm_dec q163 113 = some (.ireturn) := by decide +kernel
theorem d163_114 : mm_dec q163 114 = some (.lload_n 1) := by decide +kernel
theorem d163_115 : mm_dec q163 115 = some (.lload_n 3) := by decide +kernel
theorem d163_116 : mm_dec q163 116 = some (.lcmp) := by decide +kernel
theorem d163_117 : mm_dec q163 117 = some (.ifCond .le 7) := by decide +kernel
theorem d163_120 : mm_dec q163 120 = some (.iconst 1) := by decide +kernel
theorem d163_121 : mm_dec q163 121 = some (.goto 4) := by decide +kernel
theorem d163_124 : mm_dec q163 124 = some (.iconst 0) := by decide +kernel
theorem d163_125 : mm_dec q163 125 = some (.ireturn) := by decide +kernel
theorem d163_126 : mm_dec q163 126 = some (.lload_n 1) := by decide +kernel
theorem d163_127 : mm_dec q163 127 = some (.lconst 0) := by decide +kernel
theorem d163_128 : mm_dec q163 128 = some (.lcmp) := by decide +kernel
theorem d163_129 : mm_dec q163 129 = some (.ifCond .eq 13) := by decide +kernel
theorem d163_132 : mm_dec q163 132 = some (.lload_n 3) := by decide +kernel
theorem d163_133 : mm_dec q163 133 = some (.lconst 0) := by decide +kernel
theorem d163_134 : mm_dec q163 134 = some (.lcmp) := by decide +kernel
theorem d163_135 : mm_dec q163 135 = some (.ifCond .eq 7) := by decide +kernel
theorem d163_138 : mm_dec q163 138 = some (.iconst 1) := by decide +kernel
theorem d163_139 : mm_dec q163 139 = some (.goto 4) := by decide +kernel
theorem d163_142 : mm_dec q163 142 = some (.iconst 0) := by decide +kernel
theorem d163_143 : mm_dec q163 143 = some (.ireturn) := by decide +kernel
theorem d163_144 : mm_dec q163 144 = some (.lload_n 1) := by decide +kernel
theorem d163_145 : mm_dec q163 145 = some (.lconst 0) := by decide +kernel
theorem d163_146 : mm_dec q163 146 = some (.lcmp) := by decide +kernel
theorem d163_147 : mm_dec q163 147 = some (.ifCond .ne 9) := by decide +kernel
theorem d163_150 : mm_dec q163 150 = some (.lload_n 3) := by decide +kernel
theorem d163_151 : mm_dec q163 151 = some (.lconst 0) := by decide +kernel
theorem d163_152 : mm_dec q163 152 = some (.lcmp) := by decide +kernel
theorem d163_153 : mm_dec q163 153 = some (.ifCond .eq 7) := by decide +kernel
theorem d163_156 : mm_dec q163 156 = some (.iconst 1) := by decide +kernel
theorem d163_157 : mm_dec q163 157 = some (.goto 4) := by decide +kernel
theorem d163_160 : mm_dec q163 160 = some (.iconst 0) := by decide +kernel
theorem d163_161 : mm_dec q163 161 = some (.ireturn) := by decide +kernel
theorem d164_0 : mm_dec q164 0 = some (.iconst 0) := by decide +kernel
theorem d164_1 : mm_dec q164 1 = some (.istore 4) := by decide +kernel
theorem d164_3 : mm_dec q164 3 = some (.sipush 340) := by decide +kernel
theorem d164_6 : mm_dec q164 6 = some (.iload_n 1) := by decide +kernel
theorem d164_7 : mm_dec q164 7 = some (.imul) := by decide +kernel
theorem d164_8 : mm_dec q164 8 = some (.iload_n 2) := by decide +kernel
theorem d164_9 : mm_dec q164 9 = some (.iadd) := by decide +kernel
theorem d164_10 : mm_dec q164 10 = some (.istore 5) := by decide +kernel
theorem d164_12 : mm_dec q164 12 = some (.iload 5) := by decide +kernel
theorem d164_14 : mm_dec q164 14 = some (.sipush 340) := by decide +kernel
theorem d164_17 : mm_dec q164 17 = some (.iload_n 1) := by decide +kernel
theorem d164_18 : mm_dec q164 18 = some (.imul) := by decide +kernel
theorem d164_19 : mm_dec q164 19 = some (.iload_n 3) := by decide +kernel
theorem d164_20 : mm_dec q164 20 = some (.iadd) := by decide +kernel
theorem d164_21 : mm_dec q164 21 = some (.if_icmp .ge 150) := by decide +kernel
theorem d164_24 : mm_dec q164 24 = some (.aload_n 0) := by decide +kernel
theorem d164_25 : mm_dec q164 25 = some (.getfield 13) := by decide +kernel
theorem d164_28 : mm_dec q164 28 = some (.iload 5) := by decide +kernel
theorem d164_30 : mm_dec q164 30 = some (.iaload) := by decide +kernel
theorem d164_31 : mm_dec q164 31 = some (.ifCond .eq 14) := by decide +kernel
theorem d164_34 : mm_dec q164 34 = some (.aload_n 0) := by decide +kernel
theorem d164_35 : mm_dec q164 35 = some (.getfield 13) := by decide +kernel
theorem d164_38 : mm_dec q164 38 = some (.iload 5) := by decide +kernel
theorem d164_40 : mm_dec q164 40 = some (.iaload) := by decide +kernel
theorem d164_41 : mm_dec q164 41 = some (.iconst 1) := by decide +kernel
theorem d164_42 : mm_dec q164 42 = some (.if_icmp .ne 48) := by decide +kernel
theorem d164_45 : mm_dec q164 45 = some (.aload_n 0) := by decide +kernel
theorem d164_46 : mm_dec q164 46 = some (.getfield 37) := by decide +kernel
theorem d164_49 : mm_dec q164 49 = some (.iload 4) := by decide +kernel
theorem d164_51 : mm_dec q164 51 = some (.aload_n 0) := by decide +kernel
theorem d164_52 : mm_dec q164 52 = some (.getfield 13) := by decide +kernel
theorem d164_55 : mm_dec q164 55 = some (.iload 5) := by decide +kernel
theorem d164_57 : mm_dec q164 57 = some (.iaload) := by decide +kernel
theorem d164_58 : mm_dec q164 58 = some (.ifCond .ne 13) := by decide +kernel
theorem d164_61 : mm_dec q164 61 = some (.aload_n 0) := by decide +kernel
theorem d164_62 : mm_dec q164 62 = some (.getfield 16) := by decide +kernel
theorem d164_65 : mm_dec q164 65 = some (.iload 5) := by decide +kernel
theorem d164_67 : mm_dec q164 67 = some (.iaload) := by decide +kernel
theorem d164_68 : mm_dec q164 68 = some (.goto 15) := by decide +kernel
theorem d164_71 : mm_dec q164 71 = some (.aload_n 0) := by decide +kernel
theorem d164_72 : mm_dec q164 72 = some (.getfield 34) := by decide +kernel
theorem d164_75 : mm_dec q164 75 = some (.aload_n 0) := by decide +kernel
theorem d164_76 : mm_dec q164 76 = some (.getfield 16) := by decide +kernel
theorem d164_79 : mm_dec q164 79 = some (.iload 5) := by decide +kernel
theorem d164_81 : mm_dec q164 81 = some (.iaload) := by decide +kernel
theorem d164_82 : mm_dec q164 82 = some (.iaload) := by decide +kernel
theorem d164_83 : mm_dec q164 83 = some (.iastore) := by decide +kernel
theorem d164_84 : mm_dec q164 84 = some (.iinc 4 1) := by decide +kernel
theorem d164_87 : mm_dec q164 87 = some (.goto 78) := by decide +kernel
theorem d164_90 : mm_dec q164 90 = some (.aload_n 0) := by decide +kernel
theorem d164_91 : mm_dec q164 91 = some (.getfield 13) := by decide +kernel
theorem d164_94 : mm_dec q164 94 = some (.iload 5) := by decide +kernel
theorem d164_96 : mm_dec q164 96 = some (.iaload) := by decide +kernel
theorem d164_97 : mm_dec q164 97 = some (.bipush 9) := by decide +kernel
theorem d164_99 : mm_dec q164 99 = some (.if_icmp .ne 26) := by decide +kernel
theorem d164_102 : mm_dec q164 102 = some (.aload_n 0) := by decide +kernel
theorem d164_103 : mm_dec q164 103 = some (.getfield 37) := by decide +kernel
theorem d164_106 : mm_dec q164 106 = some (.iload 4) := by decide +kernel
theorem d164_108 : mm_dec q164 108 = some (.iconst 1) := by decide +kernel
theorem d164_109 : mm_dec q164 109 = some (.isub) := by decide +kernel
theorem d164_110 : mm_dec q164 110 = some (.iconst 1) := by decide +kernel
theorem d164_111 : mm_dec q164 111 = some (.aload_n 0) := by decide +kernel
theorem d164_112 : mm_dec q164 112 = some (.getfield 37) := by decide +kernel
theorem d164_115 : mm_dec q164 115 = some (.iload 4) := by decide +kernel
theorem d164_117 : mm_dec q164 117 = some (.iconst 1) := by decide +kernel
theorem d164_118 : mm_dec q164 118 = some (.isub) := by decide +kernel
theorem d164_119 : mm_dec q164 119 = some (.iaload) := by decide +kernel
theorem d164_120 : mm_dec q164 120 = some (.isub) := by decide +kernel
theorem d164_121 : mm_dec q164 121 = some (.iastore) := by decide +kernel
theorem d164_122 : mm_dec q164 122 = some (.goto 43) := by decide +kernel
theorem d164_125 : mm_dec q164 125 = some (.iinc 4 (-1)) := by decide +kernel
theorem d164_128 : mm_dec q164 128 = some (.aload_n 0) := by decide +kernel
theorem d164_129 : mm_dec q164 129 = some (.getfield 37) := by decide +kernel
theorem d164_132 : mm_dec q164 132 = some (.iload 4) := by decide +kernel
theorem d164_134 : mm_dec q164 134 = some (.iconst 1) := by decide +kernel
theorem d164_135 : mm_dec q164 135 = some (.isub) := by decide +kernel
theorem d164_136 : mm_dec q164 136 = some (.aload_n 0) := by decide +kernel
theorem d164_137 : mm_dec q164 137 = some (.getfield 13) := by decide +kernel
theorem d164_140 : mm_dec q164 140 = some (.iload 5) := by decide +kernel
theorem d164_142 : mm_dec q164 142 = some (.iaload) := by decide +kernel
theorem d164_143 : mm_dec q164 143 = some (.aload_n 0) := by decide +kernel
theorem d164_144 : mm_dec q164 144 = some (.getfield 37) := by decide +kernel
theorem d164_147 : mm_dec q164 147 = some (.iload 4) := by decide +kernel
theorem d164_149 : mm_dec q164 149 = some (.iconst 1) := by decide +kernel
theorem d164_150 : mm_dec q164 150 = some (.isub) := by decide +kernel
theorem d164_151 : mm_dec q164 151 = some (.iaload) := by decide +kernel
theorem d164_152 : mm_dec q164 152 = some (.i2l) := by decide +kernel
theorem d164_153 : mm_dec q164 153 = some (.aload_n 0) := by decide +kernel
theorem d164_154 : mm_dec q164 154 = some (.getfield 37) := by decide +kernel
theorem d164_157 : mm_dec q164 157 = some (.iload 4) := by decide +kernel
theorem d164_159 : mm_dec q164 159 = some (.iaload) := by decide +kernel
theorem d164_160 : mm_dec q164 160 = some (.i2l) := by decide +kernel
theorem d164_161 : mm_dec q164 161 = some (.invokestatic 210) := by decide +kernel
theorem d164_164 : mm_dec q164 164 = some (.iastore) := by decide +kernel
theorem d164_165 : mm_dec q164 165 = some (.iinc 5 1) := by decide +kernel
theorem d164_168 : mm_dec q164 168 = some (.goto (-156)) := by decide +kernel
theorem d164_171 : mm_dec q164 171 = some (.aload_n 0) := by decide +kernel
theorem d164_172 : mm_dec q164 172 = some (.getfield 37) := by decide +kernel
theorem d164_175 : mm_dec q164 175 = some (.iconst 0) := by decide +kernel
theorem d164_176 : mm_dec q164 176 = some (.iaload) := by decide +kernel
theorem d164_177 : mm_dec q164 177 = some (.ireturn) := by decide +kernel
theorem d165_0 : mm_dec q165 0 = some (.bipush 90) := by decide +kernel
theorem d165_2 : mm_dec q165 2 = some (.iload_n 1) := by decide +kernel
theorem d165_3 : mm_dec q165 3 = some (.imul) := by decide +kernel
theorem d165_4 : mm_dec q165 4 = some (.istore_n 2) := by decide +kernel
theorem d165_5 : mm_dec q165 5 = some (.iload_n 2) := by decide +kernel
theorem d165_6 : mm_dec q165 6 = some (.bipush 90) := by decide +kernel
theorem d165_8 : mm_dec q165 8 = some (.iload_n 1) := by decide +kernel
theorem d165_9 : mm_dec q165 9 = some (.imul) := by decide +kernel
theorem d165_10 : mm_dec q165 10 = some (.aload_n 0) := by decide +kernel
theorem d165_11 : mm_dec q165 11 = some (.getfield 22) := by decide +kernel
theorem d165_14 : mm_dec q165 14 = some (.iload_n 1) := by decide +kernel
theorem d165_15 : mm_dec q165 15 = some (.iaload) := by decide +kernel
theorem d165_16 : mm_dec q165 16 = some (.iadd) := by decide +kernel
theorem d165_17 : mm_dec q165 17 = some (.if_icmp .ge 62) := by decide +kernel
theorem d165_20 : mm_dec q165 20 = some (.aload_n 0) := by decide +kernel
theorem d165_21 : mm_dec q165 21 = some (.getfield 25) := by decide +kernel
theorem d165_24 : mm_dec q165 24 = some (.iload_n 2) := by decide +kernel
theorem d165_25 : mm_dec q165 25 = some (.iaload) := by decide +kernel
theorem d165_26 : mm_dec q165 26 = some (.aload_n 0) := by decide +kernel
theorem d165_27 : mm_dec q165 27 = some (.getfield 28) := by decide +kernel
theorem d165_30 : mm_dec q165 30 = some (.iload_n 2) := by decide +kernel
theorem d165_31 : mm_dec q165 31 = some (.iaload) := by decide +kernel
theorem d165_32 : mm_dec q165 32 = some (.if_icmp .eq 23) := by decide +kernel
theorem d165_35 : mm_dec q165 35 = some (.aload_n 0) := by decide +kernel
theorem d165_36 : mm_dec q165 36 = some (.iload_n 1) := by decide +kernel
theorem d165_37 : mm_dec q165 37 = some (.aload_n 0) := by decide +kernel
theorem d165_38 : mm_dec q165 38 = some (.getfield 25) := by decide +kernel
theorem d165_41 : mm_dec q165 41 = some (.iload_n 2) := by decide +kernel
theorem d165_42 : mm_dec q165 42 = some (.iaload) := by decide +kernel
theorem d165_43 : mm_dec q165 43 = some (.aload_n 0) := by decide +kernel
theorem d165_44 : mm_dec q165 44 = some (.getfield 28) := by decide +kernel
theorem d165_47 : mm_dec q165 47 = some (.iload_n 2) := by decide +kernel
theorem d165_48 : mm_dec q165 48 = some (.iaload) := by decide +kernel
theorem d165_49 : mm_dec q165 49 = some (.invokevirtual 214) := by decide +kernel
theorem d165_52 : mm_dec q165 52 = some (.ifCond .eq 21) := by decide +kernel
theorem d165_55 : mm_dec q165 55 = some (.aload_n 0) := by decide +kernel
theorem d165_56 : mm_dec q165 56 = some (.iload_n 1) := by decide +kernel
theorem d165_57 : mm_dec q165 57 = some (.aload_n 0) := by decide +kernel
theorem d165_58 : mm_dec q165 58 = some (.getfield 28) := by decide +kernel
theorem d165_61 : mm_dec q165 61 = some (.iload_n 2) := by decide +kernel
theorem d165_62 : mm_dec q165 62 = some (.iaload) := by decide +kernel
theorem d165_63 : mm_dec q165 63 = some (.aload_n 0) := by decide +kernel
theorem d165_64 : mm_dec q165 64 = some (.getfield 31) := by decide +kernel
theorem d165_67 : mm_dec q165 67 = some (.iload_n 2) := by decide +kernel
theorem d165_68 : mm_dec q165 68 = some (.iaload) := by decide +kernel
theorem d165_69 : mm_dec q165 69 = some (.invokevirtual 214) := by decide +kernel
theorem d165_72 : mm_dec q165 72 = some (.ireturn) := by decide +kernel
theorem d165_73 : mm_dec q165 73 = some (.iinc 2 1) := by decide +kernel
theorem d165_76 : mm_dec q165 76 = some (.goto (-71)) := by decide +kernel
theorem d165_79 : mm_dec q165 79 = some (.iconst 0) := by decide +kernel
theorem d165_80 : mm_dec q165 80 = some (.ireturn) := by decide +kernel
theorem d166_0 : mm_dec q166 0 = some (.aload_n 0) := by decide +kernel
theorem d166_1 : mm_dec q166 1 = some (.invokevirtual 132) := by decide +kernel
theorem d166_4 : mm_dec q166 4 = some (.invokestatic 135) := by decide +kernel
theorem d166_7 : mm_dec q166 7 = some (.ifCond .ne 9) := by decide +kernel
theorem d166_10 : mm_dec q166 10 = some (.aload_n 0) := by decide +kernel
theorem d166_11 : mm_dec q166 11 = some (.invokevirtual 129) := by decide +kernel
theorem d166_14 : mm_dec q166 14 = some (.iload_n 1) := by decide +kernel
theorem d166_15 : mm_dec q166 15 = some (.ireturn) := by decide +kernel
theorem d166_16 : mm_dec q166 16 = some (.aload_n 0) := by decide +kernel
theorem d166_17 : mm_dec q166 17 = some (.invokevirtual 116) := by decide +kernel
theorem d166_20 : mm_dec q166 20 = some (.bipush 48) := by decide +kernel
theorem d166_22 : mm_dec q166 22 = some (.isub) := by decide +kernel
theorem d166_23 : mm_dec q166 23 = some (.istore_n 3) := by decide +kernel
theorem d166_24 : mm_dec q166 24 = some (.aload_n 0) := by decide +kernel
theorem d166_25 : mm_dec q166 25 = some (.dup) := by decide +kernel
theorem d166_26 : mm_dec q166 26 = some (.getfield 113) := by decide +kernel
theorem d166_29 : mm_dec q166 29 = some (.iconst 1) := by decide +kernel
theorem d166_30 : mm_dec q166 30 = some (.iadd) := by decide +kernel
theorem d166_31 : mm_dec q166 31 = some (.putfield 113) := by decide +kernel
theorem d166_34 : mm_dec q166 34 = some (.aload_n 0) := by decide +kernel
theorem d166_35 : mm_dec q166 35 = some (.invokevirtual 116) := by decide +kernel
theorem d166_38 : mm_dec q166 38 = some (.invokestatic 135) := by decide +kernel
theorem d166_41 : mm_dec q166 41 = some (.ifCond .eq 26) := by decide +kernel
theorem d166_44 : mm_dec q166 44 = some (.bipush 10) := by decide +kernel
theorem d166_46 : mm_dec q166 46 = some (.iload_n 3) := by decide +kernel
theorem d166_47 : mm_dec q166 47 = some (.imul) := by decide +kernel
theorem d166_48 : mm_dec q166 48 = some (.aload_n 0) := by decide +kernel
theorem d166_49 : mm_dec q166 49 = some (.invokevirtual 116) := by decide +kernel
theorem d166_52 : mm_dec q166 52 = some (.iadd) := by decide +kernel
theorem d166_53 : mm_dec q166 53 = some (.bipush 48) := by decide +kernel
theorem d166_55 : mm_dec q166 55 = some (.isub) := by decide +kernel
theorem d166_56 : mm_dec q166 56 = some (.istore_n 3) := by decide +kernel
theorem d166_57 : mm_dec q166 57 = some (.aload_n 0) := by decide +kernel
theorem d166_58 : mm_dec q166 58 = some (.dup) := by decide +kernel
theorem d166_59 : mm_dec q166 59 = some (.getfield 113) := by decide +kernel
theorem d166_62 : mm_dec q166 62 = some (.iconst 1) := by decide +kernel
theorem d166_63 : mm_dec q166 63 = some (.iadd) := by decide +kernel
theorem d166_64 : mm_dec q166 64 = some (.putfield 113) := by decide +kernel
theorem d166_67 : mm_dec q166 67 = some (.aload_n 0) := by decide +kernel
theorem d166_68 : mm_dec q166 68 = some (.invokevirtual 116) := by decide +kernel
theorem d166_71 : mm_dec q166 71 = some (.invokestatic 135) := by decide +kernel
theorem d166_74 : mm_dec q166 74 = some (.ifCond .eq 10) := by decide +kernel
theorem d166_77 : mm_dec q166 77 = some (.aload_n 0) := by decide +kernel
theorem d166_78 : mm_dec q166 78 = some (.invokevirtual 129) := by decide +kernel
theorem d166_81 : mm_dec q166 81 = some (.goto 26) := by decide +kernel
theorem d166_84 : mm_dec q166 84 = some (.iload_n 3) := by decide +kernel
theorem d166_85 : mm_dec q166 85 = some (.iload_n 1) := by decide +kernel
theorem d166_86 : mm_dec q166 86 = some (.iload_n 2) := by decide +kernel
theorem d166_87 : mm_dec q166 87 = some (.invokestatic 218) := by decide +kernel
theorem d166_90 : mm_dec q166 90 = some (.ifCond .ne 17) := by decide +kernel
theorem d166_93 : mm_dec q166 93 = some (.aload_n 0) := by decide +kernel
theorem d166_94 : mm_dec q166 94 = some (.dup) := by decide +kernel
theorem d166_95 : mm_dec q166 95 = some (.getfield 113) := by decide +kernel
theorem d166_98 : mm_dec q166 98 = some (.iconst 1) := by decide +kernel
theorem d166_99 : mm_dec q166 99 = some (.isub) := by decide +kernel
theorem d166_100 : mm_dec q166 100 = some (.putfield 113) := by decide +kernel
theorem d166_103 : mm_dec q166 103 = some (.aload_n 0) := by decide +kernel
theorem d166_104 : mm_dec q166 104 = some (.invokevirtual 129) := by decide +kernel
theorem d166_107 : mm_dec q166 107 = some (.iload_n 3) := by decide +kernel
theorem d166_108 : mm_dec q166 108 = some (.ireturn) := by decide +kernel
theorem d167_0 : mm_dec q167 0 = some (.iload_n 0) := by decide +kernel
theorem d167_1 : mm_dec q167 1 = some (.bipush 98) := by decide +kernel
theorem d167_3 : mm_dec q167 3 = some (.if_icmp .ne 35) := by decide +kernel
theorem d167_6 : mm_dec q167 6 = some (.iload_n 1) := by decide +kernel
theorem d167_7 : mm_dec q167 7 = some (.bipush 104) := by decide +kernel
theorem d167_9 : mm_dec q167 9 = some (.if_icmp .ne 7) := by decide +kernel
theorem d167_12 : mm_dec q167 12 = some (.iconst 0) := by decide +kernel
theorem d167_13 : mm_dec q167 13 = some (.goto 24) := by decide +kernel
theorem d167_16 : mm_dec q167 16 = some (.iload_n 1) := by decide +kernel
theorem d167_17 : mm_dec q167 17 = some (.bipush 107) := by decide +kernel
theorem d167_19 : mm_dec q167 19 = some (.if_icmp .ne 7) := by decide +kernel
theorem d167_22 : mm_dec q167 22 = some (.iconst 1) := by decide +kernel
theorem d167_23 : mm_dec q167 23 = some (.goto 14) := by decide +kernel
theorem d167_26 : mm_dec q167 26 = some (.iload_n 1) := by decide +kernel
theorem d167_27 : mm_dec q167 27 = some (.bipush 114) := by decide +kernel
theorem d167_29 : mm_dec q167 29 = some (.if_icmp .ne 7) := by decide +kernel
theorem d167_32 : mm_dec q167 32 = some (.iconst 2) := by decide +kernel
theorem d167_33 : mm_dec q167 33 = some (.goto 4) := by decide +kernel
theorem d167_36 : mm_dec q167 36 = some (.iconst (-1)) := by decide +kernel
theorem d167_37 : mm_dec q167 37 = some (.ireturn) := by decide +kernel
theorem d167_38 : mm_dec q167 38 = some (.iload_n 1) := by decide +kernel
theorem d167_39 : mm_dec q167 39 = some (.bipush 102) := by decide +kernel
theorem d167_41 : mm_dec q167 41 = some (.if_icmp .ne 7) := by decide +kernel
theorem d167_44 : mm_dec q167 44 = some (.iconst 0) := by decide +kernel
theorem d167_45 : mm_dec q167 45 = some (.goto 45) := by decide +kernel
theorem d167_48 : mm_dec q167 48 = some (.iload_n 1) := by decide +kernel
theorem d167_49 : mm_dec q167 49 = some (.bipush 108) := by decide +kernel
theorem d167_51 : mm_dec q167 51 = some (.if_icmp .ne 7) := by decide +kernel
theorem d167_54 : mm_dec q167 54 = some (.iconst 1) := by decide +kernel
theorem d167_55 : mm_dec q167 55 = some (.goto 35) := by decide +kernel
theorem d167_58 : mm_dec q167 58 = some (.iload_n 1) := by decide +kernel
theorem d167_59 : mm_dec q167 59 = some (.bipush 113) := by decide +kernel
theorem d167_61 : mm_dec q167 61 = some (.if_icmp .ne 7) := by decide +kernel
theorem d167_64 : mm_dec q167 64 = some (.iconst 2) := by decide +kernel
theorem d167_65 : mm_dec q167 65 = some (.goto 25) := by decide +kernel
theorem d167_68 : mm_dec q167 68 = some (.iload_n 1) := by decide +kernel
theorem d167_69 : mm_dec q167 69 = some (.iload_n 0) := by decide +kernel
theorem d167_70 : mm_dec q167 70 = some (.bipush 112) := by decide +kernel
theorem d167_72 : mm_dec q167 72 = some (.if_icmp .ne 8) := by decide +kernel
theorem d167_75 : mm_dec q167 75 = some (.bipush 100) := by decide +kernel
theorem d167_77 : mm_dec q167 77 = some (.goto 5) := by decide +kernel
theorem d167_80 : mm_dec q167 80 = some (.bipush 118) := by decide +kernel
theorem d167_82 : mm_dec q167 82 = some (.if_icmp .ne 7) := by decide +kernel
theorem d167_85 : mm_dec q167 85 = some (.iconst 3) := by decide +kernel
theorem d167_86 : mm_dec q167 86 = some (.goto 4) := by decide +kernel
theorem d167_89 : mm_dec q167 89 = some (.iconst (-1)) := by decide +kernel
theorem d167_90 : mm_dec q167 90 = some (.ireturn) := by decide +kernel
theorem d168_0 : mm_dec q168 0 = some (.iload_n 0) := by decide +kernel
theorem d168_1 : mm_dec q168 1 = some (.bipush 98) := by decide +kernel
theorem d168_3 : mm_dec q168 3 = some (.if_icmp .ne 15) := by decide +kernel
theorem d168_6 : mm_dec q168 6 = some (.iload_n 1) := by decide +kernel
theorem d168_7 : mm_dec q168 7 = some (.ifCond .ne 7) := by decide +kernel
theorem d168_10 : mm_dec q168 10 = some (.iconst 5) := by decide +kernel
theorem d168_11 : mm_dec q168 11 = some (.goto 17) := by decide +kernel
theorem d168_14 : mm_dec q168 14 = some (.iconst 0) := by decide +kernel
theorem d168_15 : mm_dec q168 15 = some (.goto 13) := by decide +kernel
theorem d168_18 : mm_dec q168 18 = some (.iload_n 1) := by decide +kernel
theorem d168_19 : mm_dec q168 19 = some (.iconst 2) := by decide +kernel
theorem d168_20 : mm_dec q168 20 = some (.if_icmp .ne 7) := by decide +kernel
theorem d168_23 : mm_dec q168 23 = some (.iconst 1) := by decide +kernel
theorem d168_24 : mm_dec q168 24 = some (.goto 4) := by decide +kernel
theorem d168_27 : mm_dec q168 27 = some (.iconst 0) := by decide +kernel
theorem d168_28 : mm_dec q168 28 = some (.ireturn) := by decide +kernel
theorem d169_0 : mm_dec q169 0 = some (.iload_n 0) := by decide +kernel
theorem d169_1 : mm_dec q169 1 = some (.bipush 98) := by decide +kernel
theorem d169_3 : mm_dec q169 3 = some (.if_icmp .ne 26) := by decide +kernel
theorem d169_6 : mm_dec q169 6 = some (.iload_n 1) := by decide +kernel
theorem d169_7 : mm_dec q169 7 = some (.ifCond .ne 8) := by decide +kernel
theorem d169_10 : mm_dec q169 10 = some (.bipush 60) := by decide +kernel
theorem d169_12 : mm_dec q169 12 = some (.goto 38) := by decide +kernel
theorem d169_15 : mm_dec q169 15 = some (.iload_n 1) := by decide +kernel
theorem d169_16 : mm_dec q169 16 = some (.iconst 1) := by decide +kernel
theorem d169_17 : mm_dec q169 17 = some (.if_icmp .ne 7) := by decide +kernel
theorem d169_20 : mm_dec q169 20 = some (.iconst 1) := by decide +kernel
theorem d169_21 : mm_dec q169 21 = some (.goto 29) := by decide +kernel
theorem d169_24 : mm_dec q169 24 = some (.bipush 9) := by decide +kernel
theorem d169_26 : mm_dec q169 26 = some (.goto 24) := by decide +kernel
theorem d169_29 : mm_dec q169 29 = some (.iload_n 1) := by decide +kernel
theorem d169_30 : mm_dec q169 30 = some (.ifCond .ne 8) := by decide +kernel
theorem d169_33 : mm_dec q169 33 = some (.bipush 59) := by decide +kernel
theorem d169_35 : mm_dec q169 35 = some (.goto 15) := by decide +kernel
theorem d169_38 : mm_dec q169 38 = some (.iload_n 1) := by decide +kernel
theorem d169_39 : mm_dec q169 39 = some (.iconst 3) := by decide +kernel
theorem d169_40 : mm_dec q169 40 = some (.if_icmp .ne 8) := by decide +kernel
theorem d169_43 : mm_dec q169 43 = some (.bipush 9) := by decide +kernel
theorem d169_45 : mm_dec q169 45 = some (.goto 5) := by decide +kernel
theorem d169_48 : mm_dec q169 48 = some (.bipush 60) := by decide +kernel
theorem d169_50 : mm_dec q169 50 = some (.ireturn) := by decide +kernel
theorem d170_0 : mm_dec q170 0 = some (.iload_n 0) := by decide +kernel
theorem d170_1 : mm_dec q170 1 = some (.bipush 98) := by decide +kernel
theorem d170_3 : mm_dec q170 3 = some (.if_icmp .ne 24) := by decide +kernel
theorem d170_6 : mm_dec q170 6 = some (.iload_n 1) := by decide +kernel
theorem d170_7 : mm_dec q170 7 = some (.ifCond .ne 8) := by decide +kernel
theorem d170_10 : mm_dec q170 10 = some (.bipush 20) := by decide +kernel
theorem d170_12 : mm_dec q170 12 = some (.goto 14) := by decide +kernel
theorem d170_15 : mm_dec q170 15 = some (.iload_n 1) := by decide +kernel
theorem d170_16 : mm_dec q170 16 = some (.iconst 1) := by decide +kernel
theorem d170_17 : mm_dec q170 17 = some (.if_icmp .ne 7) := by decide +kernel
theorem d170_20 : mm_dec q170 20 = some (.iconst 0) := by decide +kernel
theorem d170_21 : mm_dec q170 21 = some (.goto 5) := by decide +kernel
theorem d170_24 : mm_dec q170 24 = some (.bipush 9) := by decide +kernel
theorem d170_26 : mm_dec q170 26 = some (.ireturn) := by decide +kernel
theorem d170_27 : mm_dec q170 27 = some (.iload_n 0) := by decide +kernel
theorem d170_28 : mm_dec q170 28 = some (.bipush 103) := by decide +kernel
theorem d170_30 : mm_dec q170 30 = some (.if_icmp .ne 25) := by decide +kernel
theorem d170_33 : mm_dec q170 33 = some (.iload_n 1) := by decide +kernel
theorem d170_34 : mm_dec q170 34 = some (.iconst 1) := by decide +kernel
theorem d170_35 : mm_dec q170 35 = some (.if_icmp .ne 8) := by decide +kernel
theorem d170_38 : mm_dec q170 38 = some (.bipush 10) := by decide +kernel
theorem d170_40 : mm_dec q170 40 = some (.goto 14) := by decide +kernel
theorem d170_43 : mm_dec q170 43 = some (.iload_n 1) := by decide +kernel
theorem d170_44 : mm_dec q170 44 = some (.iconst 2) := by decide +kernel
theorem d170_45 : mm_dec q170 45 = some (.if_icmp .ne 8) := by decide +kernel
theorem d170_48 : mm_dec q170 48 = some (.bipush 60) := by decide +kernel
theorem d170_50 : mm_dec q170 50 = some (.goto 4) := by decide +kernel
theorem d170_53 : mm_dec q170 53 = some (.iconst 0) := by decide +kernel
theorem d170_54 : mm_dec q170 54 = some (.ireturn) := by decide +kernel
theorem d170_55 : mm_dec q170 55 = some (.iload_n 1) := by decide +kernel
theorem d170_56 : mm_dec q170 56 = some (.iconst 1) := by decide +kernel
theorem d170_57 : mm_dec q170 57 = some (.if_icmp .ne 7) := by decide +kernel
theorem d170_60 : mm_dec q170 60 = some (.iconst 5) := by decide +kernel
theorem d170_61 : mm_dec q170 61 = some (.goto 23) := by decide +kernel
theorem d170_64 : mm_dec q170 64 = some (.iload_n 1) := by decide +kernel
theorem d170_65 : mm_dec q170 65 = some (.iconst 2) := by decide +kernel
theorem d170_66 : mm_dec q170 66 = some (.if_icmp .ne 8) := by decide +kernel
theorem d170_69 : mm_dec q170 69 = some (.bipush 20) := by decide +kernel
theorem d170_71 : mm_dec q170 71 = some (.goto 13) := by decide +kernel
theorem d170_74 : mm_dec q170 74 = some (.iload_n 1) := by decide +kernel
theorem d170_75 : mm_dec q170 75 = some (.iconst 3) := by decide +kernel
theorem d170_76 : mm_dec q170 76 = some (.if_icmp .ne 7) := by decide +kernel
theorem d170_79 : mm_dec q170 79 = some (.iconst 1) := by decide +kernel
theorem d170_80 : mm_dec q170 80 = some (.goto 4) := by decide +kernel
theorem d170_83 : mm_dec q170 83 = some (.iconst 0) := by decide +kernel
theorem d170_84 : mm_dec q170 84 = some (.ireturn) := by decide +kernel
theorem d171_0 : mm_dec q171 0 = some (.iconst 0) := by decide +kernel
theorem d171_1 : mm_dec q171 1 = some (.istore 5) := by decide +kernel
theorem d171_3 : mm_dec q171 3 = some (.iload 5) := by decide +kernel
theorem d171_5 : mm_dec q171 5 = some (.iload 4) := by decide +kernel
theorem d171_7 : mm_dec q171 7 = some (.if_icmp .ge 21) := by decide +kernel
theorem d171_10 : mm_dec q171 10 = some (.aload_n 2) := by decide +kernel
theorem d171_11 : mm_dec q171 11 = some (.iload_n 3) := by decide +kernel
theorem d171_12 : mm_dec q171 12 = some (.iload 5) := by decide +kernel
theorem d171_14 : mm_dec q171 14 = some (.iadd) := by decide +kernel
theorem d171_15 : mm_dec q171 15 = some (.iload_n 1) := by decide +kernel
theorem d171_16 : mm_dec q171 16 = some (.iload 5) := by decide +kernel
theorem d171_18 : mm_dec q171 18 = some (.invokestatic 222) := by decide +kernel
theorem d171_21 : mm_dec q171 21 = some (.iastore) := by decide +kernel
theorem d171_22 : mm_dec q171 22 = some (.iinc 5 1) := by decide +kernel
theorem d171_25 : mm_dec q171 25 = some (.goto (-22)) := by decide +kernel
theorem d171_28 : mm_dec q171 28 = some (.iconst 0) := by decide +kernel
theorem d171_29 : mm_dec q171 29 = some (.istore 5) := by decide +kernel
theorem d171_31 : mm_dec q171 31 = some (.iload_n 1) := by decide +kernel
theorem d171_32 : mm_dec q171 32 = some (.aload_n 0) := by decide +kernel
theorem d171_33 : mm_dec q171 33 = some (.invokevirtual 132) := by decide +kernel
theorem d171_36 : mm_dec q171 36 = some (.invokestatic 226) := by decide +kernel
theorem d171_39 : mm_dec q171 39 = some (.istore 6) := by decide +kernel
theorem d171_41 : mm_dec q171 41 = some (.aload_n 0) := by decide +kernel
theorem d171_42 : mm_dec q171 42 = some (.getfield 120) := by decide +kernel
theorem d171_45 : mm_dec q171 45 = some (.iconst (-1)) := by decide +kernel
theorem d171_46 : mm_dec q171 46 = some (.if_icmp .ne 85) := by decide +kernel
theorem d171_49 : mm_dec q171 49 = some (.iload 6) := by decide +kernel
theorem d171_51 : mm_dec q171 51 = some (.iconst (-1)) := by decide +kernel
theorem d171_52 : mm_dec q171 52 = some (.if_icmp .eq 79) := by decide +kernel
theorem d171_55 : mm_dec q171 55 = some (.iload 5) := by decide +kernel
theorem d171_57 : mm_dec q171 57 = some (.iload 6) := by decide +kernel
theorem d171_59 : mm_dec q171 59 = some (.invokestatic 229) := by decide +kernel
theorem d171_62 : mm_dec q171 62 = some (.ifCond .ne 69) := by decide +kernel
theorem d171_65 : mm_dec q171 65 = some (.iload 5) := by decide +kernel
theorem d171_67 : mm_dec q171 67 = some (.iconst 1) := by decide +kernel
theorem d171_68 : mm_dec q171 68 = some (.iload 6) := by decide +kernel
theorem d171_70 : mm_dec q171 70 = some (.ishl) := by decide +kernel
theorem d171_71 : mm_dec q171 71 = some (.ior) := by decide +kernel
theorem d171_72 : mm_dec q171 72 = some (.istore 5) := by decide +kernel
theorem d171_74 : mm_dec q171 74 = some (.aload_n 0) := by decide +kernel
theorem d171_75 : mm_dec q171 75 = some (.dup) := by decide +kernel
theorem d171_76 : mm_dec q171 76 = some (.getfield 113) := by decide +kernel
theorem d171_79 : mm_dec q171 79 = some (.iconst 1) := by decide +kernel
theorem d171_80 : mm_dec q171 80 = some (.iadd) := by decide +kernel
theorem d171_81 : mm_dec q171 81 = some (.putfield 113) := by decide +kernel
theorem d171_84 : mm_dec q171 84 = some (.aload_n 2) := by decide +kernel
theorem d171_85 : mm_dec q171 85 = some (.iload_n 3) := by decide +kernel
theorem d171_86 : mm_dec q171 86 = some (.iload 6) := by decide +kernel
theorem d171_88 : mm_dec q171 88 = some (.iadd) := by decide +kernel
theorem d171_89 : mm_dec q171 89 = some (.aload_n 0) := by decide +kernel
theorem d171_90 : mm_dec q171 90 = some (.iload_n 1) := by decide +kernel
theorem d171_91 : mm_dec q171 91 = some (.iload 6) := by decide +kernel
theorem d171_93 : mm_dec q171 93 = some (.invokestatic 233) := by decide +kernel
theorem d171_96 : mm_dec q171 96 = some (.iload_n 1) := by decide +kernel
theorem d171_97 : mm_dec q171 97 = some (.iload 6) := by decide +kernel
theorem d171_99 : mm_dec q171 99 = some (.invokestatic 236) := by decide +kernel
theorem d171_102 : mm_dec q171 102 = some (.invokevirtual 239) := by decide +kernel
theorem d171_105 : mm_dec q171 105 = some (.iastore) := by decide +kernel
theorem d171_106 : mm_dec q171 106 = some (.aload_n 0) := by decide +kernel
theorem d171_107 : mm_dec q171 107 = some (.getfield 120) := by decide +kernel
theorem d171_110 : mm_dec q171 110 = some (.iconst (-1)) := by decide +kernel
theorem d171_111 : mm_dec q171 111 = some (.if_icmp .ne 14) := by decide +kernel
theorem d171_114 : mm_dec q171 114 = some (.iload_n 1) := by decide +kernel
theorem d171_115 : mm_dec q171 115 = some (.aload_n 0) := by decide +kernel
theorem d171_116 : mm_dec q171 116 = some (.invokevirtual 132) := by decide +kernel
theorem d171_119 : mm_dec q171 119 = some (.invokestatic 226) := by decide +kernel
theorem d171_122 : mm_dec q171 122 = some (.goto 4) := by decide +kernel
theorem d171_125 : mm_dec q171 125 = some (.iconst (-1)) := by decide +kernel
theorem d171_126 : mm_dec q171 126 = some (.istore 6) := by decide +kernel
theorem d171_128 : mm_dec q171 128 = some (.goto (-87)) := by decide +kernel
theorem d171_131 : mm_dec q171 131 = some (.return_) := by decide +kernel
theorem d172_0 : mm_dec q172 0 = some (.aload_n 0) := by decide +kernel
theorem d172_1 : mm_dec q172 1 = some (.invokevirtual 132) := by decide +kernel
theorem d172_4 : mm_dec q172 4 = some (.istore_n 1) := by decide +kernel
theorem d172_5 : mm_dec q172 5 = some (.iload_n 1) := by decide +kernel
theorem d172_6 : mm_dec q172 6 = some (.bipush 112) := by decide +kernel
theorem d172_8 : mm_dec q172 8 = some (.if_icmp .ne 51) := by decide +kernel
theorem d172_11 : mm_dec q172 11 = some (.aload_n 0) := by decide +kernel
theorem d172_12 : mm_dec q172 12 = some (.getfield 242) := by decide +kernel
theorem d172_15 : mm_dec q172 15 = some (.bipush 6) := by decide +kernel
theorem d172_17 : mm_dec q172 17 = some (.if_icmp .ge 42) := by decide +kernel
theorem d172_20 : mm_dec q172 20 = some (.aload_n 0) := by decide +kernel
theorem d172_21 : mm_dec q172 21 = some (.dup) := by decide +kernel
theorem d172_22 : mm_dec q172 22 = some (.getfield 113) := by decide +kernel
theorem d172_25 : mm_dec q172 25 = some (.iconst 1) := by decide +kernel
theorem d172_26 : mm_dec q172 26 = some (.iadd) := by decide +kernel
theorem d172_27 : mm_dec q172 27 = some (.putfield 113) := by decide +kernel
theorem d172_30 : mm_dec q172 30 = some (.aload_n 0) := by decide +kernel
theorem d172_31 : mm_dec q172 31 = some (.iload_n 1) := by decide +kernel
theorem d172_32 : mm_dec q172 32 = some (.aload_n 0) := by decide +kernel
theorem d172_33 : mm_dec q172 33 = some (.getfield 40) := by decide +kernel
theorem d172_36 : mm_dec q172 36 = some (.iconst 4) := by decide +kernel
theorem d172_37 : mm_dec q172 37 = some (.aload_n 0) := by decide +kernel
theorem d172_38 : mm_dec q172 38 = some (.getfield 242) := by decide +kernel
theorem d172_41 : mm_dec q172 41 = some (.imul) := by decide +kernel
theorem d172_42 : mm_dec q172 42 = some (.iconst 4) := by decide +kernel
theorem d172_43 : mm_dec q172 43 = some (.invokevirtual 245) := by decide +kernel
theorem d172_46 : mm_dec q172 46 = some (.aload_n 0) := by decide +kernel
theorem d172_47 : mm_dec q172 47 = some (.dup) := by decide +kernel
theorem d172_48 : mm_dec q172 48 = some (.getfield 242) := by decide +kernel
theorem d172_51 : mm_dec q172 51 = some (.iconst 1) := by decide +kernel
theorem d172_52 : mm_dec q172 52 = some (.iadd) := by decide +kernel
theorem d172_53 : mm_dec q172 53 = some (.putfield 242) := by decide +kernel
theorem d172_56 : mm_dec q172 56 = some (.goto 102) := by decide +kernel
theorem d172_59 : mm_dec q172 59 = some (.iload_n 1) := by decide +kernel
theorem d172_60 : mm_dec q172 60 = some (.bipush 103) := by decide +kernel
theorem d172_62 : mm_dec q172 62 = some (.if_icmp .ne 39) := by decide +kernel
theorem d172_65 : mm_dec q172 65 = some (.aload_n 0) := by decide +kernel
theorem d172_66 : mm_dec q172 66 = some (.getfield 249) := by decide +kernel
theorem d172_69 : mm_dec q172 69 = some (.ifCond .ne 32) := by decide +kernel
theorem d172_72 : mm_dec q172 72 = some (.aload_n 0) := by decide +kernel
theorem d172_73 : mm_dec q172 73 = some (.dup) := by decide +kernel
theorem d172_74 : mm_dec q172 74 = some (.getfield 113) := by decide +kernel
theorem d172_77 : mm_dec q172 77 = some (.iconst 1) := by decide +kernel
theorem d172_78 : mm_dec q172 78 = some (.iadd) := by decide +kernel
theorem d172_79 : mm_dec q172 79 = some (.putfield 113) := by decide +kernel
theorem d172_82 : mm_dec q172 82 = some (.aload_n 0) := by decide +kernel
theorem d172_83 : mm_dec q172 83 = some (.iconst 1) := by decide +kernel
theorem d172_84 : mm_dec q172 84 = some (.putfield 249) := by decide +kernel
theorem d172_87 : mm_dec q172 87 = some (.aload_n 0) := by decide +kernel
theorem d172_88 : mm_dec q172 88 = some (.iload_n 1) := by decide +kernel
theorem d172_89 : mm_dec q172 89 = some (.aload_n 0) := by decide +kernel
theorem d172_90 : mm_dec q172 90 = some (.getfield 43) := by decide +kernel
theorem d172_93 : mm_dec q172 93 = some (.iconst 0) := by decide +kernel
theorem d172_94 : mm_dec q172 94 = some (.iconst 4) := by decide +kernel
theorem d172_95 : mm_dec q172 95 = some (.invokevirtual 245) := by decide +kernel
theorem d172_98 : mm_dec q172 98 = some (.goto 60) := by decide +kernel
theorem d172_101 : mm_dec q172 101 = some (.iload_n 1) := by decide +kernel
theorem d172_102 : mm_dec q172 102 = some (.bipush 98) := by decide +kernel
theorem d172_104 : mm_dec q172 104 = some (.if_icmp .ne 50) := by decide +kernel
theorem d172_107 : mm_dec q172 107 = some (.aload_n 0) := by decide +kernel
theorem d172_108 : mm_dec q172 108 = some (.getfield 253) := by decide +kernel
theorem d172_111 : mm_dec q172 111 = some (.iconst 2) := by decide +kernel
theorem d172_112 : mm_dec q172 112 = some (.if_icmp .ge 42) := by decide +kernel
theorem d172_115 : mm_dec q172 115 = some (.aload_n 0) := by decide +kernel
theorem d172_116 : mm_dec q172 116 = some (.dup) := by decide +kernel
theorem d172_117 : mm_dec q172 117 = some (.getfield 113) := by decide +kernel
theorem d172_120 : mm_dec q172 120 = some (.iconst 1) := by decide +kernel
theorem d172_121 : mm_dec q172 121 = some (.iadd) := by decide +kernel
theorem d172_122 : mm_dec q172 122 = some (.putfield 113) := by decide +kernel
theorem d172_125 : mm_dec q172 125 = some (.aload_n 0) := by decide +kernel
theorem d172_126 : mm_dec q172 126 = some (.iload_n 1) := by decide +kernel
theorem d172_127 : mm_dec q172 127 = some (.aload_n 0) := by decide +kernel
theorem d172_128 : mm_dec q172 128 = some (.getfield 46) := by decide +kernel
theorem d172_131 : mm_dec q172 131 = some (.iconst 3) := by decide +kernel
theorem d172_132 : mm_dec q172 132 = some (.aload_n 0) := by decide +kernel
theorem d172_133 : mm_dec q172 133 = some (.getfield 253) := by decide +kernel
theorem d172_136 : mm_dec q172 136 = some (.imul) := by decide +kernel
theorem d172_137 : mm_dec q172 137 = some (.iconst 3) := by decide +kernel
theorem d172_138 : mm_dec q172 138 = some (.invokevirtual 245) := by decide +kernel
theorem d172_141 : mm_dec q172 141 = some (.aload_n 0) := by decide +kernel
theorem d172_142 : mm_dec q172 142 = some (.dup) := by decide +kernel
theorem d172_143 : mm_dec q172 143 = some (.getfield 253) := by decide +kernel
theorem d172_146 : mm_dec q172 146 = some (.iconst 1) := by decide +kernel
theorem d172_147 : mm_dec q172 147 = some (.iadd) := by decide +kernel
theorem d172_148 : mm_dec q172 148 = some (.putfield 253) := by decide +kernel
theorem d172_151 : mm_dec q172 151 = some (.goto 7) := by decide +kernel
theorem d172_154 : mm_dec q172 154 = some (.aload_n 0) := by decide +kernel
theorem d172_155 : mm_dec q172 155 = some (.invokevirtual 129) := by decide +kernel
theorem d172_158 : mm_dec q172 158 = some (.return_) := by decide +kernel
theorem d173_0 : mm_dec q173 0 = some (.aload_n 0) := by decide +kernel
theorem d173_1 : mm_dec q173 1 = some (.iconst 0) := by decide +kernel
theorem d173_2 : mm_dec q173 2 = some (.putfield 113) := by decide +kernel
theorem d173_5 : mm_dec q173 5 = some (.aload_n 0) := by decide +kernel
theorem d173_6 : mm_dec q173 6 = some (.iconst (-1)) := by decide +kernel
theorem d173_7 : mm_dec q173 7 = some (.putfield 120) := by decide +kernel
theorem d173_10 : mm_dec q173 10 = some (.aload_n 0) := by decide +kernel
theorem d173_11 : mm_dec q173 11 = some (.iconst 0) := by decide +kernel
theorem d173_12 : mm_dec q173 12 = some (.putfield 242) := by decide +kernel
theorem d173_15 : mm_dec q173 15 = some (.aload_n 0) := by decide +kernel
theorem d173_16 : mm_dec q173 16 = some (.iconst 0) := by decide +kernel
theorem d173_17 : mm_dec q173 17 = some (.putfield 253) := by decide +kernel
theorem d173_20 : mm_dec q173 20 = some (.aload_n 0) := by decide +kernel
theorem d173_21 : mm_dec q173 21 = some (.iconst 0) := by decide +kernel
theorem d173_22 : mm_dec q173 22 = some (.putfield 249) := by decide +kernel
theorem d173_25 : mm_dec q173 25 = some (.iconst 1) := by decide +kernel
theorem d173_26 : mm_dec q173 26 = some (.istore_n 1) := by decide +kernel
theorem d173_27 : mm_dec q173 27 = some (.iload_n 1) := by decide +kernel
theorem d173_28 : mm_dec q173 28 = some (.ifCond .eq 59) := by decide +kernel
theorem d173_31 : mm_dec q173 31 = some (.aload_n 0) := by decide +kernel
theorem d173_32 : mm_dec q173 32 = some (.getfield 120) := by decide +kernel
theorem d173_35 : mm_dec q173 35 = some (.iconst (-1)) := by decide +kernel
theorem d173_36 : mm_dec q173 36 = some (.if_icmp .ne 51) := by decide +kernel
theorem d173_39 : mm_dec q173 39 = some (.aload_n 0) := by decide +kernel
theorem d173_40 : mm_dec q173 40 = some (.invokevirtual 256) := by decide +kernel
theorem d173_43 : mm_dec q173 43 = some (.aload_n 0) := by decide +kernel
theorem d173_44 : mm_dec q173 44 = some (.getfield 120) := by decide +kernel
theorem d173_47 : mm_dec q173 47 = some (.iconst (-1)) := by decide +kernel
theorem d173_48 : mm_dec q173 48 = some (.if_icmp .ne 16) := by decide +kernel
theorem d173_51 : mm_dec q173 51 = some (.aload_n 0) := by decide +kernel
theorem d173_52 : mm_dec q173 52 = some (.invokevirtual 132) := by decide +kernel
theorem d173_55 : mm_dec q173 55 = some (.bipush 59) := by decide +kernel
theorem d173_57 : mm_dec q173 57 = some (.if_icmp .ne 7) := by decide +kernel
theorem d173_60 : mm_dec q173 60 = some (.iconst 1) := by decide +kernel
theorem d173_61 : mm_dec q173 61 = some (.goto 4) := by decide +kernel
theorem d173_64 : mm_dec q173 64 = some (.iconst 0) := by decide +kernel
theorem d173_65 : mm_dec q173 65 = some (.istore_n 1) := by decide +kernel
theorem d173_66 : mm_dec q173 66 = some (.aload_n 0) := by decide +kernel
theorem d173_67 : mm_dec q173 67 = some (.dup) := by decide +kernel
theorem d173_68 : mm_dec q173 68 = some (.getfield 113) := by decide +kernel
theorem d173_71 : mm_dec q173 71 = some (.iload_n 1) := by decide +kernel
theorem d173_72 : mm_dec q173 72 = some (.ifCond .eq 7) := by decide +kernel
theorem d173_75 : mm_dec q173 75 = some (.iconst 1) := by decide +kernel
theorem d173_76 : mm_dec q173 76 = some (.goto 4) := by decide +kernel
theorem d173_79 : mm_dec q173 79 = some (.iconst 0) := by decide +kernel
theorem d173_80 : mm_dec q173 80 = some (.iadd) := by decide +kernel
theorem d173_81 : mm_dec q173 81 = some (.putfield 113) := by decide +kernel
theorem d173_84 : mm_dec q173 84 = some (.goto (-57)) := by decide +kernel
theorem d173_87 : mm_dec q173 87 = some (.aload_n 0) := by decide +kernel
theorem d173_88 : mm_dec q173 88 = some (.getfield 120) := by decide +kernel
theorem d173_91 : mm_dec q173 91 = some (.iconst (-1)) := by decide +kernel
theorem d173_92 : mm_dec q173 92 = some (.if_icmp .ne 29) := by decide +kernel
theorem d173_95 : mm_dec q173 95 = some (.aload_n 0) := by decide +kernel
theorem d173_96 : mm_dec q173 96 = some (.invokevirtual 132) := by decide +kernel
theorem d173_99 : mm_dec q173 99 = some (.iconst (-1)) := by decide +kernel
theorem d173_100 : mm_dec q173 100 = some (.if_icmp .ne 17) := by decide +kernel
theorem d173_103 : mm_dec q173 103 = some (.aload_n 0) := by decide +kernel
theorem d173_104 : mm_dec q173 104 = some (.getfield 242) := by decide +kernel
theorem d173_107 : mm_dec q173 107 = some (.ifCond .eq 10) := by decide +kernel
theorem d173_110 : mm_dec q173 110 = some (.aload_n 0) := by decide +kernel
theorem d173_111 : mm_dec q173 111 = some (.getfield 253) := by decide +kernel
theorem d173_114 : mm_dec q173 114 = some (.ifCond .ne 7) := by decide +kernel
theorem d173_117 : mm_dec q173 117 = some (.aload_n 0) := by decide +kernel
theorem d173_118 : mm_dec q173 118 = some (.invokevirtual 129) := by decide +kernel
theorem d173_121 : mm_dec q173 121 = some (.aload_n 0) := by decide +kernel
theorem d173_122 : mm_dec q173 122 = some (.getfield 120) := by decide +kernel
theorem d173_125 : mm_dec q173 125 = some (.ireturn) := by decide +kernel
theorem d174_0 : mm_dec q174 0 = some (.iload_n 1) := by decide +kernel
theorem d174_1 : mm_dec q174 1 = some (.ifCond .ne 10) := by decide +kernel
theorem d174_4 : mm_dec q174 4 = some (.aload_n 0) := by decide +kernel
theorem d174_5 : mm_dec q174 5 = some (.invokevirtual 259) := by decide +kernel
theorem d174_8 : mm_dec q174 8 = some (.goto 18) := by decide +kernel
theorem d174_11 : mm_dec q174 11 = some (.iload_n 1) := by decide +kernel
theorem d174_12 : mm_dec q174 12 = some (.iconst 1) := by decide +kernel
theorem d174_13 : mm_dec q174 13 = some (.if_icmp .ne 11) := by decide +kernel
theorem d174_16 : mm_dec q174 16 = some (.aload_n 0) := by decide +kernel
theorem d174_17 : mm_dec q174 17 = some (.iconst 4) := by decide +kernel
theorem d174_18 : mm_dec q174 18 = some (.invokevirtual 262) := by decide +kernel
theorem d174_21 : mm_dec q174 21 = some (.goto 5) := by decide +kernel
theorem d174_24 : mm_dec q174 24 = some (.bipush (-2)) := by decide +kernel
theorem d174_26 : mm_dec q174 26 = some (.ireturn) := by decide +kernel
theorem d175_0 : mm_dec q175 0 = some (.aload_n 0) := by decide +kernel
theorem d175_1 : mm_dec q175 1 = some (.aload_n 0) := by decide +kernel
theorem d175_2 : mm_dec q175 2 = some (.getfield 242) := by decide +kernel
theorem d175_5 : mm_dec q175 5 = some (.putfield 265) := by decide +kernel
theorem d175_8 : mm_dec q175 8 = some (.aload_n 0) := by decide +kernel
theorem d175_9 : mm_dec q175 9 = some (.aload_n 0) := by decide +kernel
theorem d175_10 : mm_dec q175 10 = some (.getfield 253) := by decide +kernel
theorem d175_13 : mm_dec q175 13 = some (.putfield 268) := by decide +kernel
theorem d175_16 : mm_dec q175 16 = some (.aload_n 0) := by decide +kernel
theorem d175_17 : mm_dec q175 17 = some (.aload_n 0) := by decide +kernel
theorem d175_18 : mm_dec q175 18 = some (.getfield 249) := by decide +kernel
theorem d175_21 : mm_dec q175 21 = some (.putfield 271) := by decide +kernel
theorem d175_24 : mm_dec q175 24 = some (.iconst 0) := by decide +kernel
theorem d175_25 : mm_dec q175 25 = some (.istore_n 1) := by decide +kernel
theorem d175_26 : mm_dec q175 26 = some (.iload_n 1) := by decide +kernel
theorem d175_27 : mm_dec q175 27 = some (.bipush 24) := by decide +kernel
theorem d175_29 : mm_dec q175 29 = some (.if_icmp .ge 21) := by decide +kernel
theorem d175_32 : mm_dec q175 32 = some (.aload_n 0) := by decide +kernel
theorem d175_33 : mm_dec q175 33 = some (.getfield 49) := by decide +kernel
theorem d175_36 : mm_dec q175 36 = some (.iload_n 1) := by decide +kernel
theorem d175_37 : mm_dec q175 37 = some (.aload_n 0) := by decide +kernel
theorem d175_38 : mm_dec q175 38 = some (.getfield 40) := by decide +kernel
theorem d175_41 : mm_dec q175 41 = some (.iload_n 1) := by decide +kernel
theorem d175_42 : mm_dec q175 42 = some (.iaload) := by decide +kernel
theorem d175_43 : mm_dec q175 43 = some (.iastore) := by decide +kernel
theorem d175_44 : mm_dec q175 44 = some (.iinc 1 1) := by decide +kernel
theorem d175_47 : mm_dec q175 47 = some (.goto (-21)) := by decide +kernel
theorem d175_50 : mm_dec q175 50 = some (.iconst 0) := by decide +kernel
theorem d175_51 : mm_dec q175 51 = some (.istore_n 1) := by decide +kernel
theorem d175_52 : mm_dec q175 52 = some (.iload_n 1) := by decide +kernel
theorem d175_53 : mm_dec q175 53 = some (.iconst 4) := by decide +kernel
theorem d175_54 : mm_dec q175 54 = some (.if_icmp .ge 21) := by decide +kernel
theorem d175_57 : mm_dec q175 57 = some (.aload_n 0) := by decide +kernel
theorem d175_58 : mm_dec q175 58 = some (.getfield 52) := by decide +kernel
theorem d175_61 : mm_dec q175 61 = some (.iload_n 1) := by decide +kernel
theorem d175_62 : mm_dec q175 62 = some (.aload_n 0) := by decide +kernel
theorem d175_63 : mm_dec q175 63 = some (.getfield 43) := by decide +kernel
theorem d175_66 : mm_dec q175 66 = some (.iload_n 1) := by decide +kernel
theorem d175_67 : mm_dec q175 67 = some (.iaload) := by decide +kernel
theorem d175_68 : mm_dec q175 68 = some (.iastore) := by decide +kernel
theorem d175_69 : mm_dec q175 69 = some (.iinc 1 1) := by decide +kernel
theorem d175_72 : mm_dec q175 72 = some (.goto (-20)) := by decide +kernel
theorem d175_75 : mm_dec q175 75 = some (.iconst 0) := by decide +kernel
theorem d175_76 : mm_dec q175 76 = some (.istore_n 1) := by decide +kernel
theorem d175_77 : mm_dec q175 77 = some (.iload_n 1) := by decide +kernel
theorem d175_78 : mm_dec q175 78 = some (.bipush 6) := by decide +kernel
theorem d175_80 : mm_dec q175 80 = some (.if_icmp .ge 21) := by decide +kernel
theorem d175_83 : mm_dec q175 83 = some (.aload_n 0) := by decide +kernel
theorem d175_84 : mm_dec q175 84 = some (.getfield 55) := by decide +kernel
theorem d175_87 : mm_dec q175 87 = some (.iload_n 1) := by decide +kernel
theorem d175_88 : mm_dec q175 88 = some (.aload_n 0) := by decide +kernel
theorem d175_89 : mm_dec q175 89 = some (.getfield 46) := by decide +kernel
theorem d175_92 : mm_dec q175 92 = some (.iload_n 1) := by decide +kernel
theorem d175_93 : mm_dec q175 93 = some (.iaload) := by decide +kernel
theorem d175_94 : mm_dec q175 94 = some (.iastore) := by decide +kernel
theorem d175_95 : mm_dec q175 95 = some (.iinc 1 1) := by decide +kernel
theorem d175_98 : mm_dec q175 98 = some (.goto (-21)) := by decide +kernel
theorem d175_101 : mm_dec q175 101 = some (.iconst 0) := by decide +kernel
theorem d175_102 : mm_dec q175 102 = some (.istore_n 1) := by decide +kernel
theorem d175_103 : mm_dec q175 103 = some (.iload_n 1) := by decide +kernel
theorem d175_104 : mm_dec q175 104 = some (.bipush 6) := by decide +kernel
theorem d175_106 : mm_dec q175 106 = some (.if_icmp .ge 16) := by decide +kernel
theorem d175_109 : mm_dec q175 109 = some (.aload_n 0) := by decide +kernel
theorem d175_110 : mm_dec q175 110 = some (.getfield 58) := by decide +kernel
theorem d175_113 : mm_dec q175 113 = some (.iload_n 1) := by decide +kernel
theorem d175_114 : mm_dec q175 114 = some (.iconst (-1)) := by decide +kernel
theorem d175_115 : mm_dec q175 115 = some (.iastore) := by decide +kernel
theorem d175_116 : mm_dec q175 116 = some (.iinc 1 1) := by decide +kernel
theorem d175_119 : mm_dec q175 119 = some (.goto (-16)) := by decide +kernel
theorem d175_122 : mm_dec q175 122 = some (.iconst 0) := by decide +kernel
theorem d175_123 : mm_dec q175 123 = some (.istore_n 1) := by decide +kernel
theorem d175_124 : mm_dec q175 124 = some (.iload_n 1) := by decide +kernel
theorem d175_125 : mm_dec q175 125 = some (.iconst 2) := by decide +kernel
theorem d175_126 : mm_dec q175 126 = some (.if_icmp .ge 23) := by decide +kernel
theorem d175_129 : mm_dec q175 129 = some (.aload_n 0) := by decide +kernel
theorem d175_130 : mm_dec q175 130 = some (.getfield 61) := by decide +kernel
theorem d175_133 : mm_dec q175 133 = some (.iload_n 1) := by decide +kernel
theorem d175_134 : mm_dec q175 134 = some (.iconst 0) := by decide +kernel
theorem d175_135 : mm_dec q175 135 = some (.iastore) := by decide +kernel
theorem d175_136 : mm_dec q175 136 = some (.aload_n 0) := by decide +kernel
theorem d175_137 : mm_dec q175 137 = some (.getfield 64) := by decide +kernel
theorem d175_140 : mm_dec q175 140 = some (.iload_n 1) := by decide +kernel
theorem d175_141 : mm_dec q175 141 = some (.iconst 0) := by decide +kernel
theorem d175_142 : mm_dec q175 142 = some (.iastore) := by decide +kernel
theorem d175_143 : mm_dec q175 143 = some (.iinc 1 1) := by decide +kernel
theorem d175_146 : mm_dec q175 146 = some (.goto (-22)) := by decide +kernel
theorem d175_149 : mm_dec q175 149 = some (.aload_n 0) := by decide +kernel
theorem d175_150 : mm_dec q175 150 = some (.iconst 0) := by decide +kernel
theorem d175_151 : mm_dec q175 151 = some (.putfield 274) := by decide +kernel
theorem d175_154 : mm_dec q175 154 = some (.aload_n 0) := by decide +kernel
theorem d175_155 : mm_dec q175 155 = some (.iconst 0) := by decide +kernel
theorem d175_156 : mm_dec q175 156 = some (.putfield 277) := by decide +kernel
theorem d175_159 : mm_dec q175 159 = some (.aload_n 0) := by decide +kernel
theorem d175_160 : mm_dec q175 160 = some (.iconst 0) := by decide +kernel
theorem d175_161 : mm_dec q175 161 = some (.putfield 280) := by decide +kernel
theorem d175_164 : mm_dec q175 164 = some (.aload_n 0) := by decide +kernel
theorem d175_165 : mm_dec q175 165 = some (.iconst 0) := by decide +kernel
theorem d175_166 : mm_dec q175 166 = some (.putfield 283) := by decide +kernel
theorem d175_169 : mm_dec q175 169 = some (.aload_n 0) := by decide +kernel
theorem d175_170 : mm_dec q175 170 = some (.getfield 265) := by decide +kernel
theorem d175_173 : mm_dec q175 173 = some (.ireturn) := by decide +kernel
theorem d176_0 : mm_dec q176 0 = some (.iload_n 1) := by decide +kernel
theorem d176_1 : mm_dec q176 1 = some (.ifCond .ne 21) := by decide +kernel
theorem d176_4 : mm_dec q176 4 = some (.aload_n 0) := by decide +kernel
theorem d176_5 : mm_dec q176 5 = some (.invokevirtual 259) := by decide +kernel
theorem d176_8 : mm_dec q176 8 = some (.iconst (-1)) := by decide +kernel
theorem d176_9 : mm_dec q176 9 = some (.if_icmp .ne 13) := by decide +kernel
theorem d176_12 : mm_dec q176 12 = some (.aload_n 0) := by decide +kernel
theorem d176_13 : mm_dec q176 13 = some (.iconst 0) := by decide +kernel
theorem d176_14 : mm_dec q176 14 = some (.putfield 110) := by decide +kernel
theorem d176_17 : mm_dec q176 17 = some (.aload_n 0) := by decide +kernel
theorem d176_18 : mm_dec q176 18 = some (.invokevirtual 286) := by decide +kernel
theorem d176_21 : mm_dec q176 21 = some (.ireturn) := by decide +kernel
theorem d176_22 : mm_dec q176 22 = some (.iload_n 1) := by decide +kernel
theorem d176_23 : mm_dec q176 23 = some (.iconst 1) := by decide +kernel
theorem d176_24 : mm_dec q176 24 = some (.if_icmp .ne 45) := by decide +kernel
theorem d176_27 : mm_dec q176 27 = some (.aload_n 0) := by decide +kernel
theorem d176_28 : mm_dec q176 28 = some (.getfield 289) := by decide +kernel
theorem d176_31 : mm_dec q176 31 = some (.iconst 4) := by decide +kernel
theorem d176_32 : mm_dec q176 32 = some (.if_icmp .ge 37) := by decide +kernel
theorem d176_35 : mm_dec q176 35 = some (.aload_n 0) := by decide +kernel
theorem d176_36 : mm_dec q176 36 = some (.aload_n 0) := by decide +kernel
theorem d176_37 : mm_dec q176 37 = some (.getfield 289) := by decide +kernel
theorem d176_40 : mm_dec q176 40 = some (.invokevirtual 262) := by decide +kernel
theorem d176_43 : mm_dec q176 43 = some (.iconst (-1)) := by decide +kernel
theorem d176_44 : mm_dec q176 44 = some (.if_icmp .ne 25) := by decide +kernel
theorem d176_47 : mm_dec q176 47 = some (.aload_n 0) := by decide +kernel
theorem d176_48 : mm_dec q176 48 = some (.iconst 0) := by decide +kernel
theorem d176_49 : mm_dec q176 49 = some (.putfield 110) := by decide +kernel
theorem d176_52 : mm_dec q176 52 = some (.aload_n 0) := by decide +kernel
theorem d176_53 : mm_dec q176 53 = some (.dup) := by decide +kernel
theorem d176_54 : mm_dec q176 54 = some (.getfield 289) := by decide +kernel
theorem d176_57 : mm_dec q176 57 = some (.iconst 1) := by decide +kernel
theorem d176_58 : mm_dec q176 58 = some (.iadd) := by decide +kernel
theorem d176_59 : mm_dec q176 59 = some (.putfield 289) := by decide +kernel
theorem d176_62 : mm_dec q176 62 = some (.aload_n 0) := by decide +kernel
theorem d176_63 : mm_dec q176 63 = some (.getfield 289) := by decide +kernel
theorem d176_66 : mm_dec q176 66 = some (.iconst 1) := by decide +kernel
theorem d176_67 : mm_dec q176 67 = some (.isub) := by decide +kernel
theorem d176_68 : mm_dec q176 68 = some (.ireturn) := by decide +kernel
theorem d176_69 : mm_dec q176 69 = some (.iconst (-1)) := by decide +kernel
theorem d176_70 : mm_dec q176 70 = some (.ireturn) := by decide +kernel
theorem d177_0 : mm_dec q177 0 = some (.iload_n 1) := by decide +kernel
theorem d177_1 : mm_dec q177 1 = some (.iconst 0) := by decide +kernel
theorem d177_2 : mm_dec q177 2 = some (.aload_n 0) := by decide +kernel
theorem d177_3 : mm_dec q177 3 = some (.getfield 265) := by decide +kernel
theorem d177_6 : mm_dec q177 6 = some (.iconst 1) := by decide +kernel
theorem d177_7 : mm_dec q177 7 = some (.isub) := by decide +kernel
theorem d177_8 : mm_dec q177 8 = some (.invokestatic 218) := by decide +kernel
theorem d177_11 : mm_dec q177 11 = some (.ireturn) := by decide +kernel
theorem d178_0 : mm_dec q178 0 = some (.iload_n 1) := by decide +kernel
theorem d178_1 : mm_dec q178 1 = some (.iconst 0) := by decide +kernel
theorem d178_2 : mm_dec q178 2 = some (.aload_n 0) := by decide +kernel
theorem d178_3 : mm_dec q178 3 = some (.getfield 268) := by decide +kernel
theorem d178_6 : mm_dec q178 6 = some (.iconst 1) := by decide +kernel
theorem d178_7 : mm_dec q178 7 = some (.isub) := by decide +kernel
theorem d178_8 : mm_dec q178 8 = some (.invokestatic 218) := by decide +kernel
theorem d178_11 : mm_dec q178 11 = some (.ireturn) := by decide +kernel
theorem d179_0 : mm_dec q179 0 = some (.iload_n 2) := by decide +kernel
theorem d179_1 : mm_dec q179 1 = some (.aload_n 0) := by decide +kernel
theorem d179_2 : mm_dec q179 2 = some (.iload_n 1) := by decide +kernel
theorem d179_3 : mm_dec q179 3 = some (.iconst 0) := by decide +kernel
theorem d179_4 : mm_dec q179 4 = some (.iadd) := by decide +kernel
theorem d179_5 : mm_dec q179 5 = some (.iaload) := by decide +kernel
theorem d179_6 : mm_dec q179 6 = some (.isub) := by decide +kernel
theorem d179_7 : mm_dec q179 7 = some (.aload_n 0) := by decide +kernel
theorem d179_8 : mm_dec q179 8 = some (.iload_n 1) := by decide +kernel
theorem d179_9 : mm_dec q179 9 = some (.iconst 2) := by decide +kernel
theorem d179_10 : mm_dec q179 10 = some (.iadd) := by decide +kernel
theorem d179_11 : mm_dec q179 11 = some (.iaload) := by decide +kernel
theorem d179_12 : mm_dec q179 12 = some (.invokestatic 292) := by decide +kernel
theorem d179_15 : mm_dec q179 15 = some (.aload_n 0) := by decide +kernel
theorem d179_16 : mm_dec q179 16 = some (.iload_n 1) := by decide +kernel
theorem d179_17 : mm_dec q179 17 = some (.iconst 1) := by decide +kernel
theorem d179_18 : mm_dec q179 18 = some (.iadd) := by decide +kernel
theorem d179_19 : mm_dec q179 19 = some (.iaload) := by decide +kernel
theorem d179_20 : mm_dec q179 20 = some (.if_icmp .ge 7) := by decide +kernel
theorem d179_23 : mm_dec q179 23 = some (.iconst 1) := by decide +kernel
theorem d179_24 : mm_dec q179 24 = some (.goto 4) := by decide +kernel
theorem d179_27 : mm_dec q179 27 = some (.iconst 0) := by decide +kernel
theorem d179_28 : mm_dec q179 28 = some (.ireturn) := by decide +kernel
theorem d180_0 : mm_dec q180 0 = some (.aload_n 0) := by decide +kernel
theorem d180_1 : mm_dec q180 1 = some (.getfield 295) := by decide +kernel
theorem d180_4 : mm_dec q180 4 = some (.iload_n 1) := by decide +kernel
theorem d180_5 : mm_dec q180 5 = some (.invokestatic 229) := by decide +kernel
theorem d180_8 : mm_dec q180 8 = some (.ifCond .eq 5) := by decide +kernel
theorem d180_11 : mm_dec q180 11 = some (.iconst 1) := by decide +kernel
theorem d180_12 : mm_dec q180 12 = some (.ireturn) := by decide +kernel
theorem d180_13 : mm_dec q180 13 = some (.aload_n 0) := by decide +kernel
theorem d180_14 : mm_dec q180 14 = some (.getfield 298) := by decide +kernel
theorem d180_17 : mm_dec q180 17 = some (.iload_n 1) := by decide +kernel
theorem d180_18 : mm_dec q180 18 = some (.invokestatic 229) := by decide +kernel
theorem d180_21 : mm_dec q180 21 = some (.ifCond .eq 5) := by decide +kernel
theorem d180_24 : mm_dec q180 24 = some (.iconst 0) := by decide +kernel
theorem d180_25 : mm_dec q180 25 = some (.ireturn) := by decide +kernel
theorem d180_26 : mm_dec q180 26 = some (.aload_n 0) := by decide +kernel
theorem d180_27 : mm_dec q180 27 = some (.getfield 58) := by decide +kernel
theorem d180_30 : mm_dec q180 30 = some (.iload_n 1) := by decide +kernel
theorem d180_31 : mm_dec q180 31 = some (.iaload) := by decide +kernel
theorem d180_32 : mm_dec q180 32 = some (.iconst (-1)) := by decide +kernel
theorem d180_33 : mm_dec q180 33 = some (.if_icmp .ne 18) := by decide +kernel
theorem d180_36 : mm_dec q180 36 = some (.aload_n 0) := by decide +kernel
theorem d180_37 : mm_dec q180 37 = some (.getfield 49) := by decide +kernel
theorem d180_40 : mm_dec q180 40 = some (.iconst 4) := by decide +kernel
theorem d180_41 : mm_dec q180 41 = some (.iload_n 1) := by decide +kernel
theorem d180_42 : mm_dec q180 42 = some (.imul) := by decide +kernel
theorem d180_43 : mm_dec q180 43 = some (.aload_n 0) := by decide +kernel
theorem d180_44 : mm_dec q180 44 = some (.getfield 274) := by decide +kernel
theorem d180_47 : mm_dec q180 47 = some (.invokestatic 301) := by decide +kernel
theorem d180_50 : mm_dec q180 50 = some (.ireturn) := by decide +kernel
theorem d180_51 : mm_dec q180 51 = some (.aload_n 0) := by decide +kernel
theorem d180_52 : mm_dec q180 52 = some (.getfield 34) := by decide +kernel
theorem d180_55 : mm_dec q180 55 = some (.iconst 0) := by decide +kernel
theorem d180_56 : mm_dec q180 56 = some (.aload_n 0) := by decide +kernel
theorem d180_57 : mm_dec q180 57 = some (.getfield 274) := by decide +kernel
theorem d180_60 : mm_dec q180 60 = some (.iastore) := by decide +kernel
theorem d180_61 : mm_dec q180 61 = some (.aload_n 0) := by decide +kernel
theorem d180_62 : mm_dec q180 62 = some (.getfield 34) := by decide +kernel
theorem d180_65 : mm_dec q180 65 = some (.iconst 1) := by decide +kernel
theorem d180_66 : mm_dec q180 66 = some (.aload_n 0) := by decide +kernel
theorem d180_67 : mm_dec q180 67 = some (.getfield 274) := by decide +kernel
theorem d180_70 : mm_dec q180 70 = some (.aload_n 0) := by decide +kernel
theorem d180_71 : mm_dec q180 71 = some (.getfield 55) := by decide +kernel
theorem d180_74 : mm_dec q180 74 = some (.iconst 0) := by decide +kernel
theorem d180_75 : mm_dec q180 75 = some (.iaload) := by decide +kernel
theorem d180_76 : mm_dec q180 76 = some (.idiv) := by decide +kernel
theorem d180_77 : mm_dec q180 77 = some (.iastore) := by decide +kernel
theorem d180_78 : mm_dec q180 78 = some (.aload_n 0) := by decide +kernel
theorem d180_79 : mm_dec q180 79 = some (.getfield 34) := by decide +kernel
theorem d180_82 : mm_dec q180 82 = some (.iconst 2) := by decide +kernel
theorem d180_83 : mm_dec q180 83 = some (.aload_n 0) := by decide +kernel
theorem d180_84 : mm_dec q180 84 = some (.getfield 274) := by decide +kernel
theorem d180_87 : mm_dec q180 87 = some (.aload_n 0) := by decide +kernel
theorem d180_88 : mm_dec q180 88 = some (.getfield 55) := by decide +kernel
theorem d180_91 : mm_dec q180 91 = some (.iconst 0) := by decide +kernel
theorem d180_92 : mm_dec q180 92 = some (.iaload) := by decide +kernel
theorem d180_93 : mm_dec q180 93 = some (.irem) := by decide +kernel
theorem d180_94 : mm_dec q180 94 = some (.iastore) := by decide +kernel
theorem d180_95 : mm_dec q180 95 = some (.aload_n 0) := by decide +kernel
theorem d180_96 : mm_dec q180 96 = some (.getfield 34) := by decide +kernel
theorem d180_99 : mm_dec q180 99 = some (.iconst 3) := by decide +kernel
theorem d180_100 : mm_dec q180 100 = some (.aload_n 0) := by decide +kernel
theorem d180_101 : mm_dec q180 101 = some (.getfield 61) := by decide +kernel
theorem d180_104 : mm_dec q180 104 = some (.iconst 0) := by decide +kernel
theorem d180_105 : mm_dec q180 105 = some (.iaload) := by decide +kernel
theorem d180_106 : mm_dec q180 106 = some (.iastore) := by decide +kernel
theorem d180_107 : mm_dec q180 107 = some (.aload_n 0) := by decide +kernel
theorem d180_108 : mm_dec q180 108 = some (.getfield 34) := by decide +kernel
theorem d180_111 : mm_dec q180 111 = some (.iconst 4) := by decide +kernel
theorem d180_112 : mm_dec q180 112 = some (.aload_n 0) := by decide +kernel
theorem d180_113 : mm_dec q180 113 = some (.getfield 49) := by decide +kernel
theorem d180_116 : mm_dec q180 116 = some (.iconst 4) := by decide +kernel
theorem d180_117 : mm_dec q180 117 = some (.iload_n 1) := by decide +kernel
theorem d180_118 : mm_dec q180 118 = some (.imul) := by decide +kernel
theorem d180_119 : mm_dec q180 119 = some (.iconst 3) := by decide +kernel
theorem d180_120 : mm_dec q180 120 = some (.iadd) := by decide +kernel
theorem d180_121 : mm_dec q180 121 = some (.iaload) := by decide +kernel
theorem d180_122 : mm_dec q180 122 = some (.iastore) := by decide +kernel
theorem d180_123 : mm_dec q180 123 = some (.aload_n 0) := by decide +kernel
theorem d180_124 : mm_dec q180 124 = some (.getfield 34) := by decide +kernel
theorem d180_127 : mm_dec q180 127 = some (.iconst 5) := by decide +kernel
theorem d180_128 : mm_dec q180 128 = some (.iload_n 1) := by decide +kernel
theorem d180_129 : mm_dec q180 129 = some (.iastore) := by decide +kernel
theorem d180_130 : mm_dec q180 130 = some (.aload_n 0) := by decide +kernel
theorem d180_131 : mm_dec q180 131 = some (.aload_n 0) := by decide +kernel
theorem d180_132 : mm_dec q180 132 = some (.getfield 58) := by decide +kernel
theorem d180_135 : mm_dec q180 135 = some (.iload_n 1) := by decide +kernel
theorem d180_136 : mm_dec q180 136 = some (.iaload) := by decide +kernel
theorem d180_137 : mm_dec q180 137 = some (.invokevirtual 305) := by decide +kernel
theorem d180_140 : mm_dec q180 140 = some (.ifCond .le 7) := by decide +kernel
theorem d180_143 : mm_dec q180 143 = some (.iconst 1) := by decide +kernel
theorem d180_144 : mm_dec q180 144 = some (.goto 4) := by decide +kernel
theorem d180_147 : mm_dec q180 147 = some (.iconst 0) := by decide +kernel
theorem d180_148 : mm_dec q180 148 = some (.ireturn) := by decide +kernel
theorem d181_0 : mm_dec q181 0 = some (.aload_n 0) := by decide +kernel
theorem d181_1 : mm_dec q181 1 = some (.getfield 271) := by decide +kernel
theorem d181_4 : mm_dec q181 4 = some (.ifCond .eq 19) := by decide +kernel
theorem d181_7 : mm_dec q181 7 = some (.aload_n 0) := by decide +kernel
theorem d181_8 : mm_dec q181 8 = some (.getfield 52) := by decide +kernel
theorem d181_11 : mm_dec q181 11 = some (.iconst 0) := by decide +kernel
theorem d181_12 : mm_dec q181 12 = some (.iload_n 1) := by decide +kernel
theorem d181_13 : mm_dec q181 13 = some (.invokestatic 301) := by decide +kernel
theorem d181_16 : mm_dec q181 16 = some (.ifCond .eq 7) := by decide +kernel
theorem d181_19 : mm_dec q181 19 = some (.iconst 1) := by decide +kernel
theorem d181_20 : mm_dec q181 20 = some (.goto 4) := by decide +kernel
theorem d181_23 : mm_dec q181 23 = some (.iconst 0) := by decide +kernel
theorem d181_24 : mm_dec q181 24 = some (.ireturn) := by decide +kernel
theorem d182_0 : mm_dec q182 0 = some (.aload_n 0) := by decide +kernel
theorem d182_1 : mm_dec q182 1 = some (.iload_n 1) := by decide +kernel
theorem d182_2 : mm_dec q182 2 = some (.invokevirtual 308) := by decide +kernel
theorem d182_5 : mm_dec q182 5 = some (.ifCond .eq 37) := by decide +kernel
theorem d182_8 : mm_dec q182 8 = some (.aload_n 0) := by decide +kernel
theorem d182_9 : mm_dec q182 9 = some (.aload_n 0) := by decide +kernel
theorem d182_10 : mm_dec q182 10 = some (.getfield 274) := by decide +kernel
theorem d182_13 : mm_dec q182 13 = some (.invokevirtual 311) := by decide +kernel
theorem d182_16 : mm_dec q182 16 = some (.ifCond .eq 22) := by decide +kernel
theorem d182_19 : mm_dec q182 19 = some (.aload_n 0) := by decide +kernel
theorem d182_20 : mm_dec q182 20 = some (.getfield 49) := by decide +kernel
theorem d182_23 : mm_dec q182 23 = some (.iconst 4) := by decide +kernel
theorem d182_24 : mm_dec q182 24 = some (.iload_n 1) := by decide +kernel
theorem d182_25 : mm_dec q182 25 = some (.imul) := by decide +kernel
theorem d182_26 : mm_dec q182 26 = some (.iconst 3) := by decide +kernel
theorem d182_27 : mm_dec q182 27 = some (.iadd) := by decide +kernel
theorem d182_28 : mm_dec q182 28 = some (.iaload) := by decide +kernel
theorem d182_29 : mm_dec q182 29 = some (.aload_n 0) := by decide +kernel
theorem d182_30 : mm_dec q182 30 = some (.getfield 52) := by decide +kernel
theorem d182_33 : mm_dec q182 33 = some (.iconst 3) := by decide +kernel
theorem d182_34 : mm_dec q182 34 = some (.iaload) := by decide +kernel
theorem d182_35 : mm_dec q182 35 = some (.if_icmp .gt 7) := by decide +kernel
theorem d182_38 : mm_dec q182 38 = some (.iconst 1) := by decide +kernel
theorem d182_39 : mm_dec q182 39 = some (.goto 4) := by decide +kernel
theorem d182_42 : mm_dec q182 42 = some (.iconst 0) := by decide +kernel
theorem d182_43 : mm_dec q182 43 = some (.ireturn) := by decide +kernel
theorem d183_0 : mm_dec q183 0 = some (.iconst 0) := by decide +kernel
theorem d183_1 : mm_dec q183 1 = some (.istore_n 1) := by decide +kernel
theorem d183_2 : mm_dec q183 2 = some (.iload_n 1) := by decide +kernel
theorem d183_3 : mm_dec q183 3 = some (.aload_n 0) := by decide +kernel
theorem d183_4 : mm_dec q183 4 = some (.getfield 265) := by decide +kernel
theorem d183_7 : mm_dec q183 7 = some (.if_icmp .ge 19) := by decide +kernel
theorem d183_10 : mm_dec q183 10 = some (.aload_n 0) := by decide +kernel
theorem d183_11 : mm_dec q183 11 = some (.iload_n 1) := by decide +kernel
theorem d183_12 : mm_dec q183 12 = some (.invokevirtual 314) := by decide +kernel
theorem d183_15 : mm_dec q183 15 = some (.ifCond .eq 5) := by decide +kernel
theorem d183_18 : mm_dec q183 18 = some (.iconst 1) := by decide +kernel
theorem d183_19 : mm_dec q183 19 = some (.ireturn) := by decide +kernel
theorem d183_20 : mm_dec q183 20 = some (.iinc 1 1) := by decide +kernel
theorem d183_23 : mm_dec q183 23 = some (.goto (-21)) := by decide +kernel
theorem d183_26 : mm_dec q183 26 = some (.iconst 0) := by decide +kernel
theorem d183_27 : mm_dec q183 27 = some (.ireturn) := by decide +kernel
theorem d184_0 : mm_dec q184 0 = some (.aload_n 0) := by decide +kernel
theorem d184_1 : mm_dec q184 1 = some (.aload_n 0) := by decide +kernel
theorem d184_2 : mm_dec q184 2 = some (.invokevirtual 317) := by decide +kernel
theorem d184_5 : mm_dec q184 5 = some (.ifCond .ne 7) := by decide +kernel
theorem d184_8 : mm_dec q184 8 = some (.iload_n 1) := by decide +kernel
theorem d184_9 : mm_dec q184 9 = some (.ifCond .eq 7) := by decide +kernel
theorem d184_12 : mm_dec q184 12 = some (.iconst 1) := by decide +kernel
theorem d184_13 : mm_dec q184 13 = some (.goto 4) := by decide +kernel
theorem d184_16 : mm_dec q184 16 = some (.iconst 0) := by decide +kernel
theorem d184_17 : mm_dec q184 17 = some (.putfield 321) := by decide +kernel
theorem d184_20 : mm_dec q184 20 = some (.iconst 0) := by decide +kernel
theorem d184_21 : mm_dec q184 21 = some (.istore_n 2) := by decide +kernel
theorem d184_22 : mm_dec q184 22 = some (.iload_n 2) := by decide +kernel
theorem d184_23 : mm_dec q184 23 = some (.aload_n 0) := by decide +kernel
theorem d184_24 : mm_dec q184 24 = some (.getfield 268) := by decide +kernel
theorem d184_27 : mm_dec q184 27 = some (.if_icmp .ge 151) := by decide +kernel
theorem d184_30 : mm_dec q184 30 = some (.aload_n 0) := by decide +kernel
theorem d184_31 : mm_dec q184 31 = some (.getfield 55) := by decide +kernel
theorem d184_34 : mm_dec q184 34 = some (.iconst 3) := by decide +kernel
theorem d184_35 : mm_dec q184 35 = some (.iload_n 2) := by decide +kernel
theorem d184_36 : mm_dec q184 36 = some (.imul) := by decide +kernel
theorem d184_37 : mm_dec q184 37 = some (.iaload) := by decide +kernel
theorem d184_38 : mm_dec q184 38 = some (.istore_n 3) := by decide +kernel
theorem d184_39 : mm_dec q184 39 = some (.aload_n 0) := by decide +kernel
theorem d184_40 : mm_dec q184 40 = some (.getfield 274) := by decide +kernel
theorem d184_43 : mm_dec q184 43 = some (.iload_n 3) := by decide +kernel
theorem d184_44 : mm_dec q184 44 = some (.irem) := by decide +kernel
theorem d184_45 : mm_dec q184 45 = some (.ifCond .ne 35) := by decide +kernel
theorem d184_48 : mm_dec q184 48 = some (.aload_n 0) := by decide +kernel
theorem d184_49 : mm_dec q184 49 = some (.getfield 274) := by decide +kernel
theorem d184_52 : mm_dec q184 52 = some (.iload_n 3) := by decide +kernel
theorem d184_53 : mm_dec q184 53 = some (.idiv) := by decide +kernel
theorem d184_54 : mm_dec q184 54 = some (.bipush 12) := by decide +kernel
theorem d184_56 : mm_dec q184 56 = some (.irem) := by decide +kernel
theorem d184_57 : mm_dec q184 57 = some (.istore 4) := by decide +kernel
theorem d184_59 : mm_dec q184 59 = some (.aload_n 0) := by decide +kernel
theorem d184_60 : mm_dec q184 60 = some (.getfield 61) := by decide +kernel
theorem d184_63 : mm_dec q184 63 = some (.iload_n 2) := by decide +kernel
theorem d184_64 : mm_dec q184 64 = some (.dup2) := by decide +kernel
theorem d184_65 : mm_dec q184 65 = some (.iaload) := by decide +kernel
theorem d184_66 : mm_dec q184 66 = some (.iload 4) := by decide +kernel
theorem d184_68 : mm_dec q184 68 = some (.ifCond .ne 8) := by decide +kernel
theorem d184_71 : mm_dec q184 71 = some (.bipush 12) := by decide +kernel
theorem d184_73 : mm_dec q184 73 = some (.goto 5) := by decide +kernel
theorem d184_76 : mm_dec q184 76 = some (.iload 4) := by decide +kernel
theorem d184_78 : mm_dec q184 78 = some (.iadd) := by decide +kernel
theorem d184_79 : mm_dec q184 79 = some (.iastore) := by decide +kernel
theorem d184_80 : mm_dec q184 80 = some (.aload_n 0) := by decide +kernel
theorem d184_81 : mm_dec q184 81 = some (.getfield 67) := by decide +kernel
theorem d184_84 : mm_dec q184 84 = some (.iload_n 2) := by decide +kernel
theorem d184_85 : mm_dec q184 85 = some (.aload_n 0) := by decide +kernel
theorem d184_86 : mm_dec q184 86 = some (.getfield 61) := by decide +kernel
theorem d184_89 : mm_dec q184 89 = some (.iload_n 2) := by decide +kernel
theorem d184_90 : mm_dec q184 90 = some (.iaload) := by decide +kernel
theorem d184_91 : mm_dec q184 91 = some (.ifCond .le 33) := by decide +kernel
theorem d184_94 : mm_dec q184 94 = some (.aload_n 0) := by decide +kernel
theorem d184_95 : mm_dec q184 95 = some (.getfield 321) := by decide +kernel
theorem d184_98 : mm_dec q184 98 = some (.aload_n 0) := by decide +kernel
theorem d184_99 : mm_dec q184 99 = some (.getfield 55) := by decide +kernel
theorem d184_102 : mm_dec q184 102 = some (.iconst 3) := by decide +kernel
theorem d184_103 : mm_dec q184 103 = some (.iload_n 2) := by decide +kernel
theorem d184_104 : mm_dec q184 104 = some (.imul) := by decide +kernel
theorem d184_105 : mm_dec q184 105 = some (.iconst 1) := by decide +kernel
theorem d184_106 : mm_dec q184 106 = some (.iadd) := by decide +kernel
theorem d184_107 : mm_dec q184 107 = some (.iaload) := by decide +kernel
theorem d184_108 : mm_dec q184 108 = some (.iconst 1) := by decide +kernel
theorem d184_109 : mm_dec q184 109 = some (.if_icmp .ne 7) := by decide +kernel
theorem d184_112 : mm_dec q184 112 = some (.iconst 1) := by decide +kernel
theorem d184_113 : mm_dec q184 113 = some (.goto 4) := by decide +kernel
theorem d184_116 : mm_dec q184 116 = some (.iconst 0) := by decide +kernel
theorem d184_117 : mm_dec q184 117 = some (.if_icmp .ne 7) := by decide +kernel
theorem d184_120 : mm_dec q184 120 = some (.iconst 1) := by decide +kernel
theorem d184_121 : mm_dec q184 121 = some (.goto 4) := by decide +kernel
theorem d184_124 : mm_dec q184 124 = some (.iconst 0) := by decide +kernel
theorem d184_125 : mm_dec q184 125 = some (.bastore) := by decide +kernel
theorem d184_126 : mm_dec q184 126 = some (.aload_n 0) := by decide +kernel
theorem d184_127 : mm_dec q184 127 = some (.getfield 61) := by decide +kernel
theorem d184_130 : mm_dec q184 130 = some (.iload_n 2) := by decide +kernel
theorem d184_131 : mm_dec q184 131 = some (.dup2) := by decide +kernel
theorem d184_132 : mm_dec q184 132 = some (.iaload) := by decide +kernel
theorem d184_133 : mm_dec q184 133 = some (.aload_n 0) := by decide +kernel
theorem d184_134 : mm_dec q184 134 = some (.getfield 67) := by decide +kernel
theorem d184_137 : mm_dec q184 137 = some (.iload_n 2) := by decide +kernel
theorem d184_138 : mm_dec q184 138 = some (.baload) := by decide +kernel
theorem d184_139 : mm_dec q184 139 = some (.ifCond .eq 7) := by decide +kernel
theorem d184_142 : mm_dec q184 142 = some (.iconst 1) := by decide +kernel
theorem d184_143 : mm_dec q184 143 = some (.goto 4) := by decide +kernel
theorem d184_146 : mm_dec q184 146 = some (.iconst 0) := by decide +kernel
theorem d184_147 : mm_dec q184 147 = some (.isub) := by decide +kernel
theorem d184_148 : mm_dec q184 148 = some (.iastore) := by decide +kernel
theorem d184_149 : mm_dec q184 149 = some (.aload_n 0) := by decide +kernel
theorem d184_150 : mm_dec q184 150 = some (.getfield 64) := by decide +kernel
theorem d184_153 : mm_dec q184 153 = some (.iload_n 2) := by decide +kernel
theorem d184_154 : mm_dec q184 154 = some (.dup2) := by decide +kernel
theorem d184_155 : mm_dec q184 155 = some (.iaload) := by decide +kernel
theorem d184_156 : mm_dec q184 156 = some (.aload_n 0) := by decide +kernel
theorem d184_157 : mm_dec q184 157 = some (.getfield 67) := by decide +kernel
theorem d184_160 : mm_dec q184 160 = some (.iload_n 2) := by decide +kernel
theorem d184_161 : mm_dec q184 161 = some (.baload) := by decide +kernel
theorem d184_162 : mm_dec q184 162 = some (.ifCond .eq 7) := by decide +kernel
theorem d184_165 : mm_dec q184 165 = some (.iconst 1) := by decide +kernel
theorem d184_166 : mm_dec q184 166 = some (.goto 4) := by decide +kernel
theorem d184_169 : mm_dec q184 169 = some (.iconst 0) := by decide +kernel
theorem d184_170 : mm_dec q184 170 = some (.iadd) := by decide +kernel
theorem d184_171 : mm_dec q184 171 = some (.iastore) := by decide +kernel
theorem d184_172 : mm_dec q184 172 = some (.iinc 2 1) := by decide +kernel
theorem d184_175 : mm_dec q184 175 = some (.goto (-153)) := by decide +kernel
theorem d184_178 : mm_dec q184 178 = some (.aload_n 0) := by decide +kernel
theorem d184_179 : mm_dec q184 179 = some (.dup) := by decide +kernel
theorem d184_180 : mm_dec q184 180 = some (.getfield 274) := by decide +kernel
theorem d184_183 : mm_dec q184 183 = some (.iconst 1) := by decide +kernel
theorem d184_184 : mm_dec q184 184 = some (.iadd) := by decide +kernel
theorem d184_185 : mm_dec q184 185 = some (.putfield 274) := by decide +kernel
theorem d184_188 : mm_dec q184 188 = some (.return_) := by decide +kernel
theorem d185_0 : mm_dec q185 0 = some (.aload_n 0) := by decide +kernel
theorem d185_1 : mm_dec q185 1 = some (.aload_n 0) := by decide +kernel
theorem d185_2 : mm_dec q185 2 = some (.iload_n 1) := by decide +kernel
theorem d185_3 : mm_dec q185 3 = some (.invokevirtual 324) := by decide +kernel
theorem d185_6 : mm_dec q185 6 = some (.ifCond .eq 17) := by decide +kernel
theorem d185_9 : mm_dec q185 9 = some (.iload_n 2) := by decide +kernel
theorem d185_10 : mm_dec q185 10 = some (.iconst 0) := by decide +kernel
theorem d185_11 : mm_dec q185 11 = some (.bipush 6) := by decide +kernel
theorem d185_13 : mm_dec q185 13 = some (.invokestatic 218) := by decide +kernel
theorem d185_16 : mm_dec q185 16 = some (.ifCond .eq 7) := by decide +kernel
theorem d185_19 : mm_dec q185 19 = some (.iconst 0) := by decide +kernel
theorem d185_20 : mm_dec q185 20 = some (.goto 4) := by decide +kernel
theorem d185_23 : mm_dec q185 23 = some (.iconst 1) := by decide +kernel
theorem d185_24 : mm_dec q185 24 = some (.putfield 102) := by decide +kernel
theorem d185_27 : mm_dec q185 27 = some (.aload_n 0) := by decide +kernel
theorem d185_28 : mm_dec q185 28 = some (.getfield 102) := by decide +kernel
theorem d185_31 : mm_dec q185 31 = some (.iconst 1) := by decide +kernel
theorem d185_32 : mm_dec q185 32 = some (.if_icmp .ne 5) := by decide +kernel
theorem d185_35 : mm_dec q185 35 = some (.iconst 0) := by decide +kernel
theorem d185_36 : mm_dec q185 36 = some (.ireturn) := by decide +kernel
theorem d185_37 : mm_dec q185 37 = some (.iload_n 2) := by decide +kernel
theorem d185_38 : mm_dec q185 38 = some (.iconst 4) := by decide +kernel
theorem d185_39 : mm_dec q185 39 = some (.if_icmp .ge 16) := by decide +kernel
theorem d185_42 : mm_dec q185 42 = some (.aload_n 0) := by decide +kernel
theorem d185_43 : mm_dec q185 43 = some (.getfield 49) := by decide +kernel
theorem d185_46 : mm_dec q185 46 = some (.iconst 4) := by decide +kernel
theorem d185_47 : mm_dec q185 47 = some (.iload_n 1) := by decide +kernel
theorem d185_48 : mm_dec q185 48 = some (.imul) := by decide +kernel
theorem d185_49 : mm_dec q185 49 = some (.iload_n 2) := by decide +kernel
theorem d185_50 : mm_dec q185 50 = some (.iadd) := by decide +kernel
theorem d185_51 : mm_dec q185 51 = some (.iaload) := by decide +kernel
theorem d185_52 : mm_dec q185 52 = some (.goto 51) := by decide +kernel
theorem d185_55 : mm_dec q185 55 = some (.iload_n 2) := by decide +kernel
theorem d185_56 : mm_dec q185 56 = some (.iconst 4) := by decide +kernel
theorem d185_57 : mm_dec q185 57 = some (.if_icmp .ne 12) := by decide +kernel
theorem d185_60 : mm_dec q185 60 = some (.aload_n 0) := by decide +kernel
theorem d185_61 : mm_dec q185 61 = some (.getfield 58) := by decide +kernel
theorem d185_64 : mm_dec q185 64 = some (.iload_n 1) := by decide +kernel
theorem d185_65 : mm_dec q185 65 = some (.iaload) := by decide +kernel
theorem d185_66 : mm_dec q185 66 = some (.goto 37) := by decide +kernel
theorem d185_69 : mm_dec q185 69 = some (.iload_n 2) := by decide +kernel
theorem d185_70 : mm_dec q185 70 = some (.iconst 5) := by decide +kernel
theorem d185_71 : mm_dec q185 71 = some (.if_icmp .ne 19) := by decide +kernel
theorem d185_74 : mm_dec q185 74 = some (.aload_n 0) := by decide +kernel
theorem d185_75 : mm_dec q185 75 = some (.iload_n 1) := by decide +kernel
theorem d185_76 : mm_dec q185 76 = some (.invokevirtual 308) := by decide +kernel
theorem d185_79 : mm_dec q185 79 = some (.ifCond .eq 7) := by decide +kernel
theorem d185_82 : mm_dec q185 82 = some (.iconst 1) := by decide +kernel
theorem d185_83 : mm_dec q185 83 = some (.goto 20) := by decide +kernel
theorem d185_86 : mm_dec q185 86 = some (.iconst 0) := by decide +kernel
theorem d185_87 : mm_dec q185 87 = some (.goto 16) := by decide +kernel
theorem d185_90 : mm_dec q185 90 = some (.aload_n 0) := by decide +kernel
theorem d185_91 : mm_dec q185 91 = some (.iload_n 1) := by decide +kernel
theorem d185_92 : mm_dec q185 92 = some (.invokevirtual 314) := by decide +kernel
theorem d185_95 : mm_dec q185 95 = some (.ifCond .eq 7) := by decide +kernel
theorem d185_98 : mm_dec q185 98 = some (.iconst 1) := by decide +kernel
theorem d185_99 : mm_dec q185 99 = some (.goto 4) := by decide +kernel
theorem d185_102 : mm_dec q185 102 = some (.iconst 0) := by decide +kernel
theorem d185_103 : mm_dec q185 103 = some (.ireturn) := by decide +kernel
theorem d186_0 : mm_dec q186 0 = some (.aload_n 0) := by decide +kernel
theorem d186_1 : mm_dec q186 1 = some (.iload_n 1) := by decide +kernel
theorem d186_2 : mm_dec q186 2 = some (.invokevirtual 327) := by decide +kernel
theorem d186_5 : mm_dec q186 5 = some (.ifCond .eq 12) := by decide +kernel
theorem d186_8 : mm_dec q186 8 = some (.iload_n 2) := by decide +kernel
theorem d186_9 : mm_dec q186 9 = some (.iconst 0) := by decide +kernel
theorem d186_10 : mm_dec q186 10 = some (.iconst 4) := by decide +kernel
theorem d186_11 : mm_dec q186 11 = some (.invokestatic 218) := by decide +kernel
theorem d186_14 : mm_dec q186 14 = some (.ifCond .ne 5) := by decide +kernel
theorem d186_17 : mm_dec q186 17 = some (.iconst (-1)) := by decide +kernel
theorem d186_18 : mm_dec q186 18 = some (.ireturn) := by decide +kernel
theorem d186_19 : mm_dec q186 19 = some (.iload_n 2) := by decide +kernel
theorem d186_20 : mm_dec q186 20 = some (.iconst 3) := by decide +kernel
theorem d186_21 : mm_dec q186 21 = some (.if_icmp .ge 16) := by decide +kernel
theorem d186_24 : mm_dec q186 24 = some (.aload_n 0) := by decide +kernel
theorem d186_25 : mm_dec q186 25 = some (.getfield 55) := by decide +kernel
theorem d186_28 : mm_dec q186 28 = some (.iconst 3) := by decide +kernel
theorem d186_29 : mm_dec q186 29 = some (.iload_n 1) := by decide +kernel
theorem d186_30 : mm_dec q186 30 = some (.imul) := by decide +kernel
theorem d186_31 : mm_dec q186 31 = some (.iload_n 2) := by decide +kernel
theorem d186_32 : mm_dec q186 32 = some (.iadd) := by decide +kernel
theorem d186_33 : mm_dec q186 33 = some (.iaload) := by decide +kernel
theorem d186_34 : mm_dec q186 34 = some (.goto 23) := by decide +kernel
theorem d186_37 : mm_dec q186 37 = some (.iload_n 2) := by decide +kernel
theorem d186_38 : mm_dec q186 38 = some (.iconst 3) := by decide +kernel
theorem d186_39 : mm_dec q186 39 = some (.if_icmp .ne 12) := by decide +kernel
theorem d186_42 : mm_dec q186 42 = some (.aload_n 0) := by decide +kernel
theorem d186_43 : mm_dec q186 43 = some (.getfield 61) := by decide +kernel
theorem d186_46 : mm_dec q186 46 = some (.iload_n 1) := by decide +kernel
theorem d186_47 : mm_dec q186 47 = some (.iaload) := by decide +kernel
theorem d186_48 : mm_dec q186 48 = some (.goto 9) := by decide +kernel
theorem d186_51 : mm_dec q186 51 = some (.aload_n 0) := by decide +kernel
theorem d186_52 : mm_dec q186 52 = some (.getfield 64) := by decide +kernel
theorem d186_55 : mm_dec q186 55 = some (.iload_n 1) := by decide +kernel
theorem d186_56 : mm_dec q186 56 = some (.iaload) := by decide +kernel
theorem d186_57 : mm_dec q186 57 = some (.ireturn) := by decide +kernel
theorem d187_0 : mm_dec q187 0 = some (.aload_n 0) := by decide +kernel
theorem d187_1 : mm_dec q187 1 = some (.getfield 265) := by decide +kernel
theorem d187_4 : mm_dec q187 4 = some (.ifCond .eq 7) := by decide +kernel
theorem d187_7 : mm_dec q187 7 = some (.iload_n 1) := by decide +kernel
theorem d187_8 : mm_dec q187 8 = some (.ifCond .ge 7) := by decide +kernel
theorem d187_11 : mm_dec q187 11 = some (.iconst (-1)) := by decide +kernel
theorem d187_12 : mm_dec q187 12 = some (.goto 16) := by decide +kernel
theorem d187_15 : mm_dec q187 15 = some (.aload_n 0) := by decide +kernel
theorem d187_16 : mm_dec q187 16 = some (.iload_n 1) := by decide +kernel
theorem d187_17 : mm_dec q187 17 = some (.invokevirtual 311) := by decide +kernel
theorem d187_20 : mm_dec q187 20 = some (.ifCond .eq 7) := by decide +kernel
theorem d187_23 : mm_dec q187 23 = some (.iconst 1) := by decide +kernel
theorem d187_24 : mm_dec q187 24 = some (.goto 4) := by decide +kernel
theorem d187_27 : mm_dec q187 27 = some (.iconst 0) := by decide +kernel
theorem d187_28 : mm_dec q187 28 = some (.ireturn) := by decide +kernel
theorem d188_0 : mm_dec q188 0 = some (.aload_n 0) := by decide +kernel
theorem d188_1 : mm_dec q188 1 = some (.iload_n 1) := by decide +kernel
theorem d188_2 : mm_dec q188 2 = some (.invokevirtual 324) := by decide +kernel
theorem d188_5 : mm_dec q188 5 = some (.ifCond .eq 54) := by decide +kernel
theorem d188_8 : mm_dec q188 8 = some (.iload_n 2) := by decide +kernel
theorem d188_9 : mm_dec q188 9 = some (.iconst 0) := by decide +kernel
theorem d188_10 : mm_dec q188 10 = some (.iconst 3) := by decide +kernel
theorem d188_11 : mm_dec q188 11 = some (.invokestatic 218) := by decide +kernel
theorem d188_14 : mm_dec q188 14 = some (.ifCond .eq 45) := by decide +kernel
theorem d188_17 : mm_dec q188 17 = some (.iload_n 3) := by decide +kernel
theorem d188_18 : mm_dec q188 18 = some (.iload_n 2) := by decide +kernel
theorem d188_19 : mm_dec q188 19 = some (.iconst 3) := by decide +kernel
theorem d188_20 : mm_dec q188 20 = some (.if_icmp .ne 7) := by decide +kernel
theorem d188_23 : mm_dec q188 23 = some (.iconst (-1)) := by decide +kernel
theorem d188_24 : mm_dec q188 24 = some (.goto 9) := by decide +kernel
theorem d188_27 : mm_dec q188 27 = some (.bipush 112) := by decide +kernel
theorem d188_29 : mm_dec q188 29 = some (.iload_n 2) := by decide +kernel
theorem d188_30 : mm_dec q188 30 = some (.invokestatic 233) := by decide +kernel
theorem d188_33 : mm_dec q188 33 = some (.iload_n 2) := by decide +kernel
theorem d188_34 : mm_dec q188 34 = some (.iconst 3) := by decide +kernel
theorem d188_35 : mm_dec q188 35 = some (.if_icmp .ne 12) := by decide +kernel
theorem d188_38 : mm_dec q188 38 = some (.aload_n 0) := by decide +kernel
theorem d188_39 : mm_dec q188 39 = some (.getfield 289) := by decide +kernel
theorem d188_42 : mm_dec q188 42 = some (.iconst 1) := by decide +kernel
theorem d188_43 : mm_dec q188 43 = some (.isub) := by decide +kernel
theorem d188_44 : mm_dec q188 44 = some (.goto 9) := by decide +kernel
theorem d188_47 : mm_dec q188 47 = some (.bipush 112) := by decide +kernel
theorem d188_49 : mm_dec q188 49 = some (.iload_n 2) := by decide +kernel
theorem d188_50 : mm_dec q188 50 = some (.invokestatic 236) := by decide +kernel
theorem d188_53 : mm_dec q188 53 = some (.invokestatic 218) := by decide +kernel
theorem d188_56 : mm_dec q188 56 = some (.ifCond .ne 5) := by decide +kernel
theorem d188_59 : mm_dec q188 59 = some (.iconst 0) := by decide +kernel
theorem d188_60 : mm_dec q188 60 = some (.ireturn) := by decide +kernel
theorem d188_61 : mm_dec q188 61 = some (.iload_n 2) := by decide +kernel
theorem d188_62 : mm_dec q188 62 = some (.iconst 3) := by decide +kernel
theorem d188_63 : mm_dec q188 63 = some (.if_icmp .ne 13) := by decide +kernel
theorem d188_66 : mm_dec q188 66 = some (.aload_n 0) := by decide +kernel
theorem d188_67 : mm_dec q188 67 = some (.getfield 58) := by decide +kernel
theorem d188_70 : mm_dec q188 70 = some (.iload_n 1) := by decide +kernel
theorem d188_71 : mm_dec q188 71 = some (.iload_n 3) := by decide +kernel
theorem d188_72 : mm_dec q188 72 = some (.iastore) := by decide +kernel
theorem d188_73 : mm_dec q188 73 = some (.goto 14) := by decide +kernel
theorem d188_76 : mm_dec q188 76 = some (.aload_n 0) := by decide +kernel
theorem d188_77 : mm_dec q188 77 = some (.getfield 49) := by decide +kernel
theorem d188_80 : mm_dec q188 80 = some (.iconst 4) := by decide +kernel
theorem d188_81 : mm_dec q188 81 = some (.iload_n 1) := by decide +kernel
theorem d188_82 : mm_dec q188 82 = some (.imul) := by decide +kernel
theorem d188_83 : mm_dec q188 83 = some (.iload_n 2) := by decide +kernel
theorem d188_84 : mm_dec q188 84 = some (.iadd) := by decide +kernel
theorem d188_85 : mm_dec q188 85 = some (.iload_n 3) := by decide +kernel
theorem d188_86 : mm_dec q188 86 = some (.iastore) := by decide +kernel
theorem d188_87 : mm_dec q188 87 = some (.iconst 1) := by decide +kernel
theorem d188_88 : mm_dec q188 88 = some (.ireturn) := by decide +kernel
theorem d189_0 : mm_dec q189 0 = some (.iload_n 1) := by decide +kernel
theorem d189_1 : mm_dec q189 1 = some (.iconst 0) := by decide +kernel
theorem d189_2 : mm_dec q189 2 = some (.bipush 100) := by decide +kernel
theorem d189_4 : mm_dec q189 4 = some (.invokestatic 218) := by decide +kernel
theorem d189_7 : mm_dec q189 7 = some (.ifCond .ne 5) := by decide +kernel
theorem d189_10 : mm_dec q189 10 = some (.iconst 0) := by decide +kernel
theorem d189_11 : mm_dec q189 11 = some (.ireturn) := by decide +kernel
theorem d189_12 : mm_dec q189 12 = some (.aload_n 0) := by decide +kernel
theorem d189_13 : mm_dec q189 13 = some (.iload_n 1) := by decide +kernel
theorem d189_14 : mm_dec q189 14 = some (.putfield 330) := by decide +kernel
theorem d189_17 : mm_dec q189 17 = some (.iconst 1) := by decide +kernel
theorem d189_18 : mm_dec q189 18 = some (.ireturn) := by decide +kernel
theorem d190_0 : mm_dec q190 0 = some (.aload_n 0) := by decide +kernel
theorem d190_1 : mm_dec q190 1 = some (.lload_n 1) := by decide +kernel
theorem d190_2 : mm_dec q190 2 = some (.putfield 333) := by decide +kernel
theorem d190_5 : mm_dec q190 5 = some (.iconst 1) := by decide +kernel
theorem d190_6 : mm_dec q190 6 = some (.ireturn) := by decide +kernel
theorem d191_0 : mm_dec q191 0 = some (.aload_n 0) := by decide +kernel
theorem d191_1 : mm_dec q191 1 = some (.getfield 277) := by decide +kernel
theorem d191_4 : mm_dec q191 4 = some (.bipush 60) := by decide +kernel
theorem d191_6 : mm_dec q191 6 = some (.if_icmp .ne 83) := by decide +kernel
theorem d191_9 : mm_dec q191 9 = some (.iconst 2) := by decide +kernel
theorem d191_10 : mm_dec q191 10 = some (.istore_n 1) := by decide +kernel
theorem d191_11 : mm_dec q191 11 = some (.iload_n 1) := by decide +kernel
theorem d191_12 : mm_dec q191 12 = some (.bipush 120) := by decide +kernel
theorem d191_14 : mm_dec q191 14 = some (.if_icmp .ge 37) := by decide +kernel
theorem d191_17 : mm_dec q191 17 = some (.aload_n 0) := by decide +kernel
theorem d191_18 : mm_dec q191 18 = some (.getfield 71) := by decide +kernel
theorem d191_21 : mm_dec q191 21 = some (.iload_n 1) := by decide +kernel
theorem d191_22 : mm_dec q191 22 = some (.iconst 2) := by decide +kernel
theorem d191_23 : mm_dec q191 23 = some (.isub) := by decide +kernel
theorem d191_24 : mm_dec q191 24 = some (.aload_n 0) := by decide +kernel
theorem d191_25 : mm_dec q191 25 = some (.getfield 71) := by decide +kernel
theorem d191_28 : mm_dec q191 28 = some (.iload_n 1) := by decide +kernel
theorem d191_29 : mm_dec q191 29 = some (.iaload) := by decide +kernel
theorem d191_30 : mm_dec q191 30 = some (.iastore) := by decide +kernel
theorem d191_31 : mm_dec q191 31 = some (.aload_n 0) := by decide +kernel
theorem d191_32 : mm_dec q191 32 = some (.getfield 74) := by decide +kernel
theorem d191_35 : mm_dec q191 35 = some (.iload_n 1) := by decide +kernel
theorem d191_36 : mm_dec q191 36 = some (.iconst 2) := by decide +kernel
theorem d191_37 : mm_dec q191 37 = some (.isub) := by decide +kernel
theorem d191_38 : mm_dec q191 38 = some (.aload_n 0) := by decide +kernel
theorem d191_39 : mm_dec q191 39 = some (.getfield 74) := by decide +kernel
theorem d191_42 : mm_dec q191 42 = some (.iload_n 1) := by decide +kernel
theorem d191_43 : mm_dec q191 43 = some (.iaload) := by decide +kernel
theorem d191_44 : mm_dec q191 44 = some (.iastore) := by decide +kernel
theorem d191_45 : mm_dec q191 45 = some (.iinc 1 1) := by decide +kernel
theorem d191_48 : mm_dec q191 48 = some (.goto (-37)) := by decide +kernel
theorem d191_51 : mm_dec q191 51 = some (.iconst 1) := by decide +kernel
theorem d191_52 : mm_dec q191 52 = some (.istore_n 1) := by decide +kernel
theorem d191_53 : mm_dec q191 53 = some (.iload_n 1) := by decide +kernel
theorem d191_54 : mm_dec q191 54 = some (.bipush 60) := by decide +kernel
theorem d191_56 : mm_dec q191 56 = some (.if_icmp .ge 23) := by decide +kernel
theorem d191_59 : mm_dec q191 59 = some (.aload_n 0) := by decide +kernel
theorem d191_60 : mm_dec q191 60 = some (.getfield 77) := by decide +kernel
theorem d191_63 : mm_dec q191 63 = some (.iload_n 1) := by decide +kernel
theorem d191_64 : mm_dec q191 64 = some (.iconst 1) := by decide +kernel
theorem d191_65 : mm_dec q191 65 = some (.isub) := by decide +kernel
theorem d191_66 : mm_dec q191 66 = some (.aload_n 0) := by decide +kernel
theorem d191_67 : mm_dec q191 67 = some (.getfield 77) := by decide +kernel
theorem d191_70 : mm_dec q191 70 = some (.iload_n 1) := by decide +kernel
theorem d191_71 : mm_dec q191 71 = some (.laload) := by decide +kernel
theorem d191_72 : mm_dec q191 72 = some (.lastore) := by decide +kernel
theorem d191_73 : mm_dec q191 73 = some (.iinc 1 1) := by decide +kernel
theorem d191_76 : mm_dec q191 76 = some (.goto (-23)) := by decide +kernel
theorem d191_79 : mm_dec q191 79 = some (.aload_n 0) := by decide +kernel
theorem d191_80 : mm_dec q191 80 = some (.dup) := by decide +kernel
theorem d191_81 : mm_dec q191 81 = some (.getfield 277) := by decide +kernel
theorem d191_84 : mm_dec q191 84 = some (.iconst 1) := by decide +kernel
theorem d191_85 : mm_dec q191 85 = some (.isub) := by decide +kernel
theorem d191_86 : mm_dec q191 86 = some (.putfield 277) := by decide +kernel
theorem d191_89 : mm_dec q191 89 = some (.iconst 0) := by decide +kernel
theorem d191_90 : mm_dec q191 90 = some (.istore_n 1) := by decide +kernel
theorem d191_91 : mm_dec q191 91 = some (.iload_n 1) := by decide +kernel
theorem d191_92 : mm_dec q191 92 = some (.iconst 2) := by decide +kernel
theorem d191_93 : mm_dec q191 93 = some (.if_icmp .ge 47) := by decide +kernel
theorem d191_96 : mm_dec q191 96 = some (.aload_n 0) := by decide +kernel
theorem d191_97 : mm_dec q191 97 = some (.getfield 71) := by decide +kernel
theorem d191_100 : mm_dec q191 100 = some (.iconst 2) := by decide +kernel
theorem d191_101 : mm_dec q191 101 = some (.aload_n 0) := by decide +kernel
theorem d191_102 : mm_dec q191 102 = some (.getfield 277) := by decide +kernel
theorem d191_105 : mm_dec q191 105 = some (.imul) := by decide +kernel
theorem d191_106 : mm_dec q191 106 = some (.iload_n 1) := by decide +kernel
theorem d191_107 : mm_dec q191 107 = some (.iadd) := by decide +kernel
theorem d191_108 : mm_dec q191 108 = some (.aload_n 0) := by decide +kernel
theorem d191_109 : mm_dec q191 109 = some (.getfield 61) := by decide +kernel
theorem d191_112 : mm_dec q191 112 = some (.iload_n 1) := by decide +kernel
theorem d191_113 : mm_dec q191 113 = some (.iaload) := by decide +kernel
theorem d191_114 : mm_dec q191 114 = some (.iastore) := by decide +kernel
theorem d191_115 : mm_dec q191 115 = some (.aload_n 0) := by decide +kernel
theorem d191_116 : mm_dec q191 116 = some (.getfield 74) := by decide +kernel
theorem d191_119 : mm_dec q191 119 = some (.iconst 2) := by decide +kernel
theorem d191_120 : mm_dec q191 120 = some (.aload_n 0) := by decide +kernel
theorem d191_121 : mm_dec q191 121 = some (.getfield 277) := by decide +kernel
theorem d191_124 : mm_dec q191 124 = some (.imul) := by decide +kernel
theorem d191_125 : mm_dec q191 125 = some (.iload_n 1) := by decide +kernel
theorem d191_126 : mm_dec q191 126 = some (.iadd) := by decide +kernel
theorem d191_127 : mm_dec q191 127 = some (.aload_n 0) := by decide +kernel
theorem d191_128 : mm_dec q191 128 = some (.getfield 64) := by decide +kernel
theorem d191_131 : mm_dec q191 131 = some (.iload_n 1) := by decide +kernel
theorem d191_132 : mm_dec q191 132 = some (.iaload) := by decide +kernel
theorem d191_133 : mm_dec q191 133 = some (.iastore) := by decide +kernel
theorem d191_134 : mm_dec q191 134 = some (.iinc 1 1) := by decide +kernel
theorem d191_137 : mm_dec q191 137 = some (.goto (-46)) := by decide +kernel
theorem d191_140 : mm_dec q191 140 = some (.aload_n 0) := by decide +kernel
theorem d191_141 : mm_dec q191 141 = some (.getfield 77) := by decide +kernel
theorem d191_144 : mm_dec q191 144 = some (.aload_n 0) := by decide +kernel
theorem d191_145 : mm_dec q191 145 = some (.getfield 277) := by decide +kernel
theorem d191_148 : mm_dec q191 148 = some (.aload_n 0) := by decide +kernel
theorem d191_149 : mm_dec q191 149 = some (.getfield 333) := by decide +kernel
theorem d191_152 : mm_dec q191 152 = some (.lastore) := by decide +kernel
theorem d191_153 : mm_dec q191 153 = some (.aload_n 0) := by decide +kernel
theorem d191_154 : mm_dec q191 154 = some (.dup) := by decide +kernel
theorem d191_155 : mm_dec q191 155 = some (.getfield 277) := by decide +kernel
theorem d191_158 : mm_dec q191 158 = some (.iconst 1) := by decide +kernel
theorem d191_159 : mm_dec q191 159 = some (.iadd) := by decide +kernel
theorem d191_160 : mm_dec q191 160 = some (.putfield 277) := by decide +kernel
theorem d191_163 : mm_dec q191 163 = some (.return_) := by decide +kernel
theorem d192_0 : mm_dec q192 0 = some (.aload_n 0) := by decide +kernel
theorem d192_1 : mm_dec q192 1 = some (.getfield 265) := by decide +kernel
theorem d192_4 : mm_dec q192 4 = some (.ifCond .le 18) := by decide +kernel
theorem d192_7 : mm_dec q192 7 = some (.iload_n 1) := by decide +kernel
theorem d192_8 : mm_dec q192 8 = some (.iconst 1) := by decide +kernel
theorem d192_9 : mm_dec q192 9 = some (.sipush 240) := by decide +kernel
theorem d192_12 : mm_dec q192 12 = some (.invokestatic 218) := by decide +kernel
theorem d192_15 : mm_dec q192 15 = some (.ifCond .eq 7) := by decide +kernel
theorem d192_18 : mm_dec q192 18 = some (.iconst 1) := by decide +kernel
theorem d192_19 : mm_dec q192 19 = some (.goto 4) := by decide +kernel
theorem d192_22 : mm_dec q192 22 = some (.iconst 0) := by decide +kernel
theorem d192_23 : mm_dec q192 23 = some (.ireturn) := by decide +kernel
theorem d193_0 : mm_dec q193 0 = some (.aload_n 0) := by decide +kernel
theorem d193_1 : mm_dec q193 1 = some (.iload_n 1) := by decide +kernel
theorem d193_2 : mm_dec q193 2 = some (.invokevirtual 337) := by decide +kernel
theorem d193_5 : mm_dec q193 5 = some (.ifCond .ne 5) := by decide +kernel
theorem d193_8 : mm_dec q193 8 = some (.iconst (-1)) := by decide +kernel
theorem d193_9 : mm_dec q193 9 = some (.ireturn) := by decide +kernel
theorem d193_10 : mm_dec q193 10 = some (.iconst 0) := by decide +kernel
theorem d193_11 : mm_dec q193 11 = some (.istore_n 2) := by decide +kernel
theorem d193_12 : mm_dec q193 12 = some (.iload_n 2) := by decide +kernel
theorem d193_13 : mm_dec q193 13 = some (.iload_n 1) := by decide +kernel
theorem d193_14 : mm_dec q193 14 = some (.if_icmp .ge 69) := by decide +kernel
theorem d193_17 : mm_dec q193 17 = some (.aload_n 0) := by decide +kernel
theorem d193_18 : mm_dec q193 18 = some (.invokevirtual 340) := by decide +kernel
theorem d193_21 : mm_dec q193 21 = some (.iconst 0) := by decide +kernel
theorem d193_22 : mm_dec q193 22 = some (.istore_n 3) := by decide +kernel
theorem d193_23 : mm_dec q193 23 = some (.aload_n 0) := by decide +kernel
theorem d193_24 : mm_dec q193 24 = some (.getfield 330) := by decide +kernel
theorem d193_27 : mm_dec q193 27 = some (.ifCond .le 45) := by decide +kernel
theorem d193_30 : mm_dec q193 30 = some (.aload_n 0) := by decide +kernel
theorem d193_31 : mm_dec q193 31 = some (.aload_n 0) := by decide +kernel
theorem d193_32 : mm_dec q193 32 = some (.getfield 333) := by decide +kernel
theorem d193_35 : mm_dec q193 35 = some (.ldc2_w 343) := by decide +kernel
theorem d193_38 : mm_dec q193 38 = some (.lmul) := by decide +kernel
theorem d193_39 : mm_dec q193 39 = some (.ldc2_w 345) := by decide +kernel
theorem d193_42 : mm_dec q193 42 = some (.ladd) := by decide +kernel
theorem d193_43 : mm_dec q193 43 = some (.putfield 333) := by decide +kernel
theorem d193_46 : mm_dec q193 46 = some (.aload_n 0) := by decide +kernel
theorem d193_47 : mm_dec q193 47 = some (.getfield 333) := by decide +kernel
theorem d193_50 : mm_dec q193 50 = some (.bipush 33) := by decide +kernel
theorem d193_52 : mm_dec q193 52 = some (.lushr) := by decide +kernel
theorem d193_53 : mm_dec q193 53 = some (.ldc2_w 347) := by decide +kernel
theorem d193_56 : mm_dec q193 56 = some (.lrem) := by decide +kernel
theorem d193_57 : mm_dec q193 57 = some (.aload_n 0) := by decide +kernel
theorem d193_58 : mm_dec q193 58 = some (.getfield 330) := by decide +kernel
theorem d193_61 : mm_dec q193 61 = some (.i2l) := by decide +kernel
theorem d193_62 : mm_dec q193 62 = some (.lcmp) := by decide +kernel
theorem d193_63 : mm_dec q193 63 = some (.ifCond .ge 7) := by decide +kernel
theorem d193_66 : mm_dec q193 66 = some (.iconst 1) := by decide +kernel
theorem d193_67 : mm_dec q193 67 = some (.goto 4) := by decide +kernel
theorem d193_70 : mm_dec q193 70 = some (.iconst 0) := by decide +kernel
theorem d193_71 : mm_dec q193 71 = some (.istore_n 3) := by decide +kernel
theorem d193_72 : mm_dec q193 72 = some (.aload_n 0) := by decide +kernel
theorem d193_73 : mm_dec q193 73 = some (.iload_n 3) := by decide +kernel
theorem d193_74 : mm_dec q193 74 = some (.invokevirtual 349) := by decide +kernel
theorem d193_77 : mm_dec q193 77 = some (.iinc 2 1) := by decide +kernel
theorem d193_80 : mm_dec q193 80 = some (.goto (-68)) := by decide +kernel
theorem d193_83 : mm_dec q193 83 = some (.aload_n 0) := by decide +kernel
theorem d193_84 : mm_dec q193 84 = some (.getfield 274) := by decide +kernel
theorem d193_87 : mm_dec q193 87 = some (.ireturn) := by decide +kernel
theorem d194_0 : mm_dec q194 0 = some (.aload_n 0) := by decide +kernel
theorem d194_1 : mm_dec q194 1 = some (.getfield 277) := by decide +kernel
theorem d194_4 : mm_dec q194 4 = some (.ifCond .ne 5) := by decide +kernel
theorem d194_7 : mm_dec q194 7 = some (.iconst (-1)) := by decide +kernel
theorem d194_8 : mm_dec q194 8 = some (.ireturn) := by decide +kernel
theorem d194_9 : mm_dec q194 9 = some (.aload_n 0) := by decide +kernel
theorem d194_10 : mm_dec q194 10 = some (.dup) := by decide +kernel
theorem d194_11 : mm_dec q194 11 = some (.getfield 277) := by decide +kernel
theorem d194_14 : mm_dec q194 14 = some (.iconst 1) := by decide +kernel
theorem d194_15 : mm_dec q194 15 = some (.isub) := by decide +kernel
theorem d194_16 : mm_dec q194 16 = some (.putfield 277) := by decide +kernel
theorem d194_19 : mm_dec q194 19 = some (.iconst 0) := by decide +kernel
theorem d194_20 : mm_dec q194 20 = some (.istore_n 1) := by decide +kernel
theorem d194_21 : mm_dec q194 21 = some (.iload_n 1) := by decide +kernel
theorem d194_22 : mm_dec q194 22 = some (.iconst 2) := by decide +kernel
theorem d194_23 : mm_dec q194 23 = some (.if_icmp .ge 47) := by decide +kernel
theorem d194_26 : mm_dec q194 26 = some (.aload_n 0) := by decide +kernel
theorem d194_27 : mm_dec q194 27 = some (.getfield 61) := by decide +kernel
theorem d194_30 : mm_dec q194 30 = some (.iload_n 1) := by decide +kernel
theorem d194_31 : mm_dec q194 31 = some (.aload_n 0) := by decide +kernel
theorem d194_32 : mm_dec q194 32 = some (.getfield 71) := by decide +kernel
theorem d194_35 : mm_dec q194 35 = some (.iconst 2) := by decide +kernel
theorem d194_36 : mm_dec q194 36 = some (.aload_n 0) := by decide +kernel
theorem d194_37 : mm_dec q194 37 = some (.getfield 277) := by decide +kernel
theorem d194_40 : mm_dec q194 40 = some (.imul) := by decide +kernel
theorem d194_41 : mm_dec q194 41 = some (.iload_n 1) := by decide +kernel
theorem d194_42 : mm_dec q194 42 = some (.iadd) := by decide +kernel
theorem d194_43 : mm_dec q194 43 = some (.iaload) := by decide +kernel
theorem d194_44 : mm_dec q194 44 = some (.iastore) := by decide +kernel
theorem d194_45 : mm_dec q194 45 = some (.aload_n 0) := by decide +kernel
theorem d194_46 : mm_dec q194 46 = some (.getfield 64) := by decide +kernel
theorem d194_49 : mm_dec q194 49 = some (.iload_n 1) := by decide +kernel
theorem d194_50 : mm_dec q194 50 = some (.aload_n 0) := by decide +kernel
theorem d194_51 : mm_dec q194 51 = some (.getfield 74) := by decide +kernel
theorem d194_54 : mm_dec q194 54 = some (.iconst 2) := by decide +kernel
theorem d194_55 : mm_dec q194 55 = some (.aload_n 0) := by decide +kernel
theorem d194_56 : mm_dec q194 56 = some (.getfield 277) := by decide +kernel
