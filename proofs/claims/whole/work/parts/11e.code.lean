theorem d157_27 : mm_dec q157 27 = some (.aload_n 0) := by decide +kernel
theorem d157_28 : mm_dec q157 28 = some (.getfield 22) := by decide +kernel
theorem d157_31 : mm_dec q157 31 = some (.iload_n 1) := by decide +kernel
theorem d157_32 : mm_dec q157 32 = some (.iconst 0) := by decide +kernel
theorem d157_33 : mm_dec q157 33 = some (.iastore) := by decide +kernel
theorem d157_34 : mm_dec q157 34 = some (.return_) := by decide +kernel
theorem d158_0 : mm_dec q158 0 = some (.aload_n 0) := by decide +kernel
theorem d158_1 : mm_dec q158 1 = some (.getfield 120) := by decide +kernel
theorem d158_4 : mm_dec q158 4 = some (.iconst (-1)) := by decide +kernel
theorem d158_5 : mm_dec q158 5 = some (.if_icmp .ne 15) := by decide +kernel
theorem d158_8 : mm_dec q158 8 = some (.aload_n 0) := by decide +kernel
theorem d158_9 : mm_dec q158 9 = some (.invokevirtual 132) := by decide +kernel
theorem d158_12 : mm_dec q158 12 = some (.iconst (-1)) := by decide +kernel
theorem d158_13 : mm_dec q158 13 = some (.if_icmp .eq 7) := by decide +kernel
theorem d158_16 : mm_dec q158 16 = some (.aload_n 0) := by decide +kernel
theorem d158_17 : mm_dec q158 17 = some (.invokevirtual 129) := by decide +kernel
theorem d158_20 : mm_dec q158 20 = some (.aload_n 0) := by decide +kernel
theorem d158_21 : mm_dec q158 21 = some (.getfield 120) := by decide +kernel
theorem d158_24 : mm_dec q158 24 = some (.ireturn) := by decide +kernel
theorem d159_0 : mm_dec q159 0 = some (.aload_n 0) := by decide +kernel
theorem d159_1 : mm_dec q159 1 = some (.iload_n 1) := by decide +kernel
theorem d159_2 : mm_dec q159 2 = some (.invokevirtual 184) := by decide +kernel
theorem d159_5 : mm_dec q159 5 = some (.aload_n 0) := by decide +kernel
theorem d159_6 : mm_dec q159 6 = some (.invokevirtual 187) := by decide +kernel
theorem d159_9 : mm_dec q159 9 = some (.aload_n 0) := by decide +kernel
theorem d159_10 : mm_dec q159 10 = some (.getfield 120) := by decide +kernel
theorem d159_13 : mm_dec q159 13 = some (.iconst (-1)) := by decide +kernel
theorem d159_14 : mm_dec q159 14 = some (.if_icmp .ne 29) := by decide +kernel
theorem d159_17 : mm_dec q159 17 = some (.aload_n 0) := by decide +kernel
theorem d159_18 : mm_dec q159 18 = some (.invokevirtual 132) := by decide +kernel
theorem d159_21 : mm_dec q159 21 = some (.bipush 59) := by decide +kernel
theorem d159_23 : mm_dec q159 23 = some (.if_icmp .ne 20) := by decide +kernel
theorem d159_26 : mm_dec q159 26 = some (.aload_n 0) := by decide +kernel
theorem d159_27 : mm_dec q159 27 = some (.dup) := by decide +kernel
theorem d159_28 : mm_dec q159 28 = some (.getfield 113) := by decide +kernel
theorem d159_31 : mm_dec q159 31 = some (.iconst 1) := by decide +kernel
theorem d159_32 : mm_dec q159 32 = some (.iadd) := by decide +kernel
theorem d159_33 : mm_dec q159 33 = some (.putfield 113) := by decide +kernel
theorem d159_36 : mm_dec q159 36 = some (.aload_n 0) := by decide +kernel
theorem d159_37 : mm_dec q159 37 = some (.invokevirtual 187) := by decide +kernel
theorem d159_40 : mm_dec q159 40 = some (.goto (-31)) := by decide +kernel
theorem d159_43 : mm_dec q159 43 = some (.aload_n 0) := by decide +kernel
theorem d159_44 : mm_dec q159 44 = some (.invokevirtual 190) := by decide +kernel
theorem d159_47 : mm_dec q159 47 = some (.ireturn) := by decide +kernel
theorem d160_0 : mm_dec q160 0 = some (.ldc2_w 193) := by decide +kernel
theorem d160_3 : mm_dec q160 3 = some (.ldc2_w 195) := by decide +kernel
theorem d160_6 : mm_dec q160 6 = some (.lload_n 0) := by decide +kernel
theorem d160_7 : mm_dec q160 7 = some (.invokestatic 197) := by decide +kernel
theorem d160_10 : mm_dec q160 10 = some (.invokestatic 203) := by decide +kernel
theorem d160_13 : mm_dec q160 13 = some (.l2i) := by decide +kernel
theorem d160_14 : mm_dec q160 14 = some (.ireturn) := by decide +kernel
theorem d161_0 : mm_dec q161 0 = some (.iload_n 0) := by decide +kernel
theorem d161_1 : mm_dec q161 1 = some (.tableswitch 143 2 10 #[51, 58, 65, 72, 89, 101, 113, 143, 125]) := by decide +kernel
theorem d161_52 : mm_dec q161 52 = some (.lload_n 1) := by decide +kernel
theorem d161_53 : mm_dec q161 53 = some (.lload_n 3) := by decide +kernel
theorem d161_54 : mm_dec q161 54 = some (.ladd) := by decide +kernel
theorem d161_55 : mm_dec q161 55 = some (.invokestatic 206) := by decide +kernel
theorem d161_58 : mm_dec q161 58 = some (.ireturn) := by decide +kernel
theorem d161_59 : mm_dec q161 59 = some (.lload_n 1) := by decide +kernel
theorem d161_60 : mm_dec q161 60 = some (.lload_n 3) := by decide +kernel
theorem d161_61 : mm_dec q161 61 = some (.lsub) := by decide +kernel
theorem d161_62 : mm_dec q161 62 = some (.invokestatic 206) := by decide +kernel
theorem d161_65 : mm_dec q161 65 = some (.ireturn) := by decide +kernel
theorem d161_66 : mm_dec q161 66 = some (.lload_n 1) := by decide +kernel
theorem d161_67 : mm_dec q161 67 = some (.lload_n 3) := by decide +kernel
theorem d161_68 : mm_dec q161 68 = some (.lmul) := by decide +kernel
theorem d161_69 : mm_dec q161 69 = some (.invokestatic 206) := by decide +kernel
theorem d161_72 : mm_dec q161 72 = some (.ireturn) := by decide +kernel
theorem d161_73 : mm_dec q161 73 = some (.lload_n 3) := by decide +kernel
theorem d161_74 : mm_dec q161 74 = some (.lconst 0) := by decide +kernel
theorem d161_75 : mm_dec q161 75 = some (.lcmp) := by decide +kernel
theorem d161_76 : mm_dec q161 76 = some (.ifCond .ne 7) := by decide +kernel
theorem d161_79 : mm_dec q161 79 = some (.iconst 0) := by decide +kernel
theorem d161_80 : mm_dec q161 80 = some (.goto 9) := by decide +kernel
theorem d161_83 : mm_dec q161 83 = some (.lload_n 1) := by decide +kernel
theorem d161_84 : mm_dec q161 84 = some (.lload_n 3) := by decide +kernel
theorem d161_85 : mm_dec q161 85 = some (.ldiv) := by decide +kernel
theorem d161_86 : mm_dec q161 86 = some (.invokestatic 206) := by decide +kernel
theorem d161_89 : mm_dec q161 89 = some (.ireturn) := by decide +kernel
theorem d161_90 : mm_dec q161 90 = some (.lload_n 1) := by decide +kernel
theorem d161_91 : mm_dec q161 91 = some (.lload_n 3) := by decide +kernel
theorem d161_92 : mm_dec q161 92 = some (.lcmp) := by decide +kernel
theorem d161_93 : mm_dec q161 93 = some (.ifCond .ne 7) := by decide +kernel
theorem d161_96 : mm_dec q161 96 = some (.iconst 1) := by decide +kernel
theorem d161_97 : mm_dec q161 97 = some (.goto 4) := by decide +kernel
theorem d161_100 : mm_dec q161 100 = some (.iconst 0) := by decide +kernel
theorem d161_101 : mm_dec q161 101 = some (.ireturn) := by decide +kernel
theorem d161_102 : mm_dec q161 102 = some (.lload_n 1) := by decide +kernel
theorem d161_103 : mm_dec q161 103 = some (.lload_n 3) := by decide +kernel
theorem d161_104 : mm_dec q161 104 = some (.lcmp) := by decide +kernel
theorem d161_105 : mm_dec q161 105 = some (.ifCond .ge 7) := by decide +kernel
theorem d161_108 : mm_dec q161 108 = some (.iconst 1) := by decide +kernel
theorem d161_109 : mm_dec q161 109 = some (.goto 4) := by decide +kernel
theorem d161_112 : mm_dec q161 112 = some (.iconst 0) := by decide +kernel
theorem d161_113 : mm_dec q161 113 = some (.ireturn) := by decide +kernel
theorem d161_114 : mm_dec q161 114 = some (.lload_n 1) := by decide +kernel
theorem d161_115 : mm_dec q161 115 = some (.lload_n 3) := by decide +kernel
theorem d161_116 : mm_dec q161 116 = some (.lcmp) := by decide +kernel
theorem d161_117 : mm_dec q161 117 = some (.ifCond .le 7) := by decide +kernel
theorem d161_120 : mm_dec q161 120 = some (.iconst 1) := by decide +kernel
theorem d161_121 : mm_dec q161 121 = some (.goto 4) := by decide +kernel
theorem d161_124 : mm_dec q161 124 = some (.iconst 0) := by decide +kernel
theorem d161_125 : mm_dec q161 125 = some (.ireturn) := by decide +kernel
theorem d161_126 : mm_dec q161 126 = some (.lload_n 1) := by decide +kernel
theorem d161_127 : mm_dec q161 127 = some (.lconst 0) := by decide +kernel
theorem d161_128 : mm_dec q161 128 = some (.lcmp) := by decide +kernel
theorem d161_129 : mm_dec q161 129 = some (.ifCond .eq 13) := by decide +kernel
theorem d161_132 : mm_dec q161 132 = some (.lload_n 3) := by decide +kernel
theorem d161_133 : mm_dec q161 133 = some (.lconst 0) := by decide +kernel
theorem d161_134 : mm_dec q161 134 = some (.lcmp) := by decide +kernel
theorem d161_135 : mm_dec q161 135 = some (.ifCond .eq 7) := by decide +kernel
theorem d161_138 : mm_dec q161 138 = some (.iconst 1) := by decide +kernel
theorem d161_139 : mm_dec q161 139 = some (.goto 4) := by decide +kernel
theorem d161_142 : mm_dec q161 142 = some (.iconst 0) := by decide +kernel
theorem d161_143 : mm_dec q161 143 = some (.ireturn) := by decide +kernel
theorem d161_144 : mm_dec q161 144 = some (.lload_n 1) := by decide +kernel
theorem d161_145 : mm_dec q161 145 = some (.lconst 0) := by decide +kernel
theorem d161_146 : mm_dec q161 146 = some (.lcmp) := by decide +kernel
theorem d161_147 : mm_dec q161 147 = some (.ifCond .ne 9) := by decide +kernel
theorem d161_150 : mm_dec q161 150 = some (.lload_n 3) := by decide +kernel
theorem d161_151 : mm_dec q161 151 = some (.lconst 0) := by decide +kernel
theorem d161_152 : mm_dec q161 152 = some (.lcmp) := by decide +kernel
theorem d161_153 : mm_dec q161 153 = some (.ifCond .eq 7) := by decide +kernel
theorem d161_156 : mm_dec q161 156 = some (.iconst 1) := by decide +kernel
theorem d161_157 : mm_dec q161 157 = some (.goto 4) := by decide +kernel
theorem d161_160 : mm_dec q161 160 = some (.iconst 0) := by decide +kernel
theorem d161_161 : mm_dec q161 161 = some (.ireturn) := by decide +kernel
theorem d162_0 : mm_dec q162 0 = some (.iconst 0) := by decide +kernel
theorem d162_1 : mm_dec q162 1 = some (.istore 4) := by decide +kernel
theorem d162_3 : mm_dec q162 3 = some (.sipush 340) := by decide +kernel
theorem d162_6 : mm_dec q162 6 = some (.iload_n 1) := by decide +kernel
theorem d162_7 : mm_dec q162 7 = some (.imul) := by decide +kernel
theorem d162_8 : mm_dec q162 8 = some (.iload_n 2) := by decide +kernel
theorem d162_9 : mm_dec q162 9 = some (.iadd) := by decide +kernel
theorem d162_10 : mm_dec q162 10 = some (.istore 5) := by decide +kernel
theorem d162_12 : mm_dec q162 12 = some (.iload 5) := by decide +kernel
theorem d162_14 : mm_dec q162 14 = some (.sipush 340) := by decide +kernel
theorem d162_17 : mm_dec q162 17 = some (.iload_n 1) := by decide +kernel
theorem d162_18 : mm_dec q162 18 = some (.imul) := by decide +kernel
theorem d162_19 : mm_dec q162 19 = some (.iload_n 3) := by decide +kernel
theorem d162_20 : mm_dec q162 20 = some (.iadd) := by decide +kernel
theorem d162_21 : mm_dec q162 21 = some (.if_icmp .ge 150) := by decide +kernel
theorem d162_24 : mm_dec q162 24 = some (.aload_n 0) := by decide +kernel
theorem d162_25 : mm_dec q162 25 = some (.getfield 13) := by decide +kernel
theorem d162_28 : mm_dec q162 28 = some (.iload 5) := by decide +kernel
theorem d162_30 : mm_dec q162 30 = some (.iaload) := by decide +kernel
theorem d162_31 : mm_dec q162 31 = some (.ifCond .eq 14) := by decide +kernel
theorem d162_34 : mm_dec q162 34 = some (.aload_n 0) := by decide +kernel
theorem d162_35 : mm_dec q162 35 = some (.getfield 13) := by decide +kernel
theorem d162_38 : mm_dec q162 38 = some (.iload 5) := by decide +kernel
theorem d162_40 : mm_dec q162 40 = some (.iaload) := by decide +kernel
theorem d162_41 : mm_dec q162 41 = some (.iconst 1) := by decide +kernel
theorem d162_42 : mm_dec q162 42 = some (.if_icmp .ne 48) := by decide +kernel
theorem d162_45 : mm_dec q162 45 = some (.aload_n 0) := by decide +kernel
theorem d162_46 : mm_dec q162 46 = some (.getfield 37) := by decide +kernel
theorem d162_49 : mm_dec q162 49 = some (.iload 4) := by decide +kernel
theorem d162_51 : mm_dec q162 51 = some (.aload_n 0) := by decide +kernel
theorem d162_52 : mm_dec q162 52 = some (.getfield 13) := by decide +kernel
theorem d162_55 : mm_dec q162 55 = some (.iload 5) := by decide +kernel
theorem d162_57 : mm_dec q162 57 = some (.iaload) := by decide +kernel
theorem d162_58 : mm_dec q162 58 = some (.ifCond .ne 13) := by decide +kernel
theorem d162_61 : mm_dec q162 61 = some (.aload_n 0) := by decide +kernel
theorem d162_62 : mm_dec q162 62 = some (.getfield 16) := by decide +kernel
theorem d162_65 : mm_dec q162 65 = some (.iload 5) := by decide +kernel
theorem d162_67 : mm_dec q162 67 = some (.iaload) := by decide +kernel
theorem d162_68 : mm_dec q162 68 = some (.goto 15) := by decide +kernel
theorem d162_71 : mm_dec q162 71 = some (.aload_n 0) := by decide +kernel
theorem d162_72 : mm_dec q162 72 = some (.getfield 34) := by decide +kernel
theorem d162_75 : mm_dec q162 75 = some (.aload_n 0) := by decide +kernel
theorem d162_76 : mm_dec q162 76 = some (.getfield 16) := by decide +kernel
theorem d162_79 : mm_dec q162 79 = some (.iload 5) := by decide +kernel
theorem d162_81 : mm_dec q162 81 = some (.iaload) := by decide +kernel
theorem d162_82 : mm_dec q162 82 = some (.iaload) := by decide +kernel
theorem d162_83 : mm_dec q162 83 = some (.iastore) := by decide +kernel
theorem d162_84 : mm_dec q162 84 = some (.iinc 4 1) := by decide +kernel
theorem d162_87 : mm_dec q162 87 = some (.goto 78) := by decide +kernel
theorem d162_90 : mm_dec q162 90 = some (.aload_n 0) := by decide +kernel
theorem d162_91 : mm_dec q162 91 = some (.getfield 13) := by decide +kernel
theorem d162_94 : mm_dec q162 94 = some (.iload 5) := by decide +kernel
theorem d162_96 : mm_dec q162 96 = some (.iaload) := by decide +kernel
theorem d162_97 : mm_dec q162 97 = some (.bipush 9) := by decide +kernel
theorem d162_99 : mm_dec q162 99 = some (.if_icmp .ne 26) := by decide +kernel
theorem d162_102 : mm_dec q162 102 = some (.aload_n 0) := by decide +kernel
theorem d162_103 : mm_dec q162 103 = some (.getfield 37) := by decide +kernel
theorem d162_106 : mm_dec q162 106 = some (.iload 4) := by decide +kernel
theorem d162_108 : mm_dec q162 108 = some (.iconst 1) := by decide +kernel
theorem d162_109 : mm_dec q162 109 = some (.isub) := by decide +kernel
theorem d162_110 : mm_dec q162 110 = some (.iconst 1) := by decide +kernel
theorem d162_111 : mm_dec q162 111 = some (.aload_n 0) := by decide +kernel
theorem d162_112 : mm_dec q162 112 = some (.getfield 37) := by decide +kernel
theorem d162_115 : mm_dec q162 115 = some (.iload 4) := by decide +kernel
theorem d162_117 : mm_dec q162 117 = some (.iconst 1) := by decide +kernel
theorem d162_118 : mm_dec q162 118 = some (.isub) := by decide +kernel
theorem d162_119 : mm_dec q162 119 = some (.iaload) := by decide +kernel
theorem d162_120 : mm_dec q162 120 = some (.isub) := by decide +kernel
theorem d162_121 : mm_dec q162 121 = some (.iastore) := by decide +kernel
theorem d162_122 : mm_dec q162 122 = some (.goto 43) := by decide +kernel
theorem d162_125 : mm_dec q162 125 = some (.iinc 4 (-1)) := by decide +kernel
theorem d162_128 : mm_dec q162 128 = some (.aload_n 0) := by decide +kernel
theorem d162_129 : mm_dec q162 129 = some (.getfield 37) := by decide +kernel
theorem d162_132 : mm_dec q162 132 = some (.iload 4) := by decide +kernel
theorem d162_134 : mm_dec q162 134 = some (.iconst 1) := by decide +kernel
theorem d162_135 : mm_dec q162 135 = some (.isub) := by decide +kernel
theorem d162_136 : mm_dec q162 136 = some (.aload_n 0) := by decide +kernel
theorem d162_137 : mm_dec q162 137 = some (.getfield 13) := by decide +kernel
theorem d162_140 : mm_dec q162 140 = some (.iload 5) := by decide +kernel
theorem d162_142 : mm_dec q162 142 = some (.iaload) := by decide +kernel
theorem d162_143 : mm_dec q162 143 = some (.aload_n 0) := by decide +kernel
theorem d162_144 : mm_dec q162 144 = some (.getfield 37) := by decide +kernel
theorem d162_147 : mm_dec q162 147 = some (.iload 4) := by decide +kernel
theorem d162_149 : mm_dec q162 149 = some (.iconst 1) := by decide +kernel
theorem d162_150 : mm_dec q162 150 = some (.isub) := by decide +kernel
theorem d162_151 : mm_dec q162 151 = some (.iaload) := by decide +kernel
theorem d162_152 : mm_dec q162 152 = some (.i2l) := by decide +kernel
theorem d162_153 : mm_dec q162 153 = some (.aload_n 0) := by decide +kernel
theorem d162_154 : mm_dec q162 154 = some (.getfield 37) := by decide +kernel
theorem d162_157 : mm_dec q162 157 = some (.iload 4) := by decide +kernel
theorem d162_159 : mm_dec q162 159 = some (.iaload) := by decide +kernel
theorem d162_160 : mm_dec q162 160 = some (.i2l) := by decide +kernel
theorem d162_161 : mm_dec q162 161 = some (.invokestatic 210) := by decide +kernel
theorem d162_164 : mm_dec q162 164 = some (.iastore) := by decide +kernel
theorem d162_165 : mm_dec q162 165 = some (.iinc 5 1) := by decide +kernel
theorem d162_168 : mm_dec q162 168 = some (.goto (-156)) := by decide +kernel
theorem d162_171 : mm_dec q162 171 = some (.aload_n 0) := by decide +kernel
theorem d162_172 : mm_dec q162 172 = some (.getfield 37) := by decide +kernel
theorem d162_175 : mm_dec q162 175 = some (.iconst 0) := by decide +kernel
theorem d162_176 : mm_dec q162 176 = some (.iaload) := by decide +kernel
theorem d162_177 : mm_dec q162 177 = some (.ireturn) := by decide +kernel
theorem d163_0 : mm_dec q163 0 = some (.bipush 90) := by decide +kernel
theorem d163_2 : mm_dec q163 2 = some (.iload_n 1) := by decide +kernel
theorem d163_3 : mm_dec q163 3 = some (.imul) := by decide +kernel
theorem d163_4 : mm_dec q163 4 = some (.istore_n 2) := by decide +kernel
theorem d163_5 : mm_dec q163 5 = some (.iload_n 2) := by decide +kernel
theorem d163_6 : mm_dec q163 6 = some (.bipush 90) := by decide +kernel
theorem d163_8 : mm_dec q163 8 = some (.iload_n 1) := by decide +kernel
theorem d163_9 : mm_dec q163 9 = some (.imul) := by decide +kernel
theorem d163_10 : mm_dec q163 10 = some (.aload_n 0) := by decide +kernel
theorem d163_11 : mm_dec q163 11 = some (.getfield 22) := by decide +kernel
theorem d163_14 : mm_dec q163 14 = some (.iload_n 1) := by decide +kernel
theorem d163_15 : mm_dec q163 15 = some (.iaload) := by decide +kernel
theorem d163_16 : mm_dec q163 16 = some (.iadd) := by decide +kernel
theorem d163_17 : mm_dec q163 17 = some (.if_icmp .ge 62) := by decide +kernel
theorem d163_20 : mm_dec q163 20 = some (.aload_n 0) := by decide +kernel
theorem d163_21 : mm_dec q163 21 = some (.getfield 25) := by decide +kernel
theorem d163_24 : mm_dec q163 24 = some (.iload_n 2) := by decide +kernel
theorem d163_25 : mm_dec q163 25 = some (.iaload) := by decide +kernel
theorem d163_26 : mm_dec q163 26 = some (.aload_n 0) := by decide +kernel
theorem d163_27 : mm_dec q163 27 = some (.getfield 28) := by decide +kernel
theorem d163_30 : mm_dec q163 30 = some (.iload_n 2) := by decide +kernel
theorem d163_31 : mm_dec q163 31 = some (.iaload) := by decide +kernel
theorem d163_32 : mm_dec q163 32 = some (.if_icmp .eq 23) := by decide +kernel
theorem d163_35 : mm_dec q163 35 = some (.aload_n 0) := by decide +kernel
theorem d163_36 : mm_dec q163 36 = some (.iload_n 1) := by decide +kernel
theorem d163_37 : mm_dec q163 37 = some (.aload_n 0) := by decide +kernel
theorem d163_38 : mm_dec q163 38 = some (.getfield 25) := by decide +kernel
theorem d163_41 : mm_dec q163 41 = some (.iload_n 2) := by decide +kernel
theorem d163_42 : mm_dec q163 42 = some (.iaload) := by decide +kernel
theorem d163_43 : mm_dec q163 43 = some (.aload_n 0) := by decide +kernel
theorem d163_44 : mm_dec q163 44 = some (.getfield 28) := by decide +kernel
theorem d163_47 : mm_dec q163 47 = some (.iload_n 2) := by decide +kernel
theorem d163_48 : mm_dec q163 48 = some (.iaload) := by decide +kernel
theorem d163_49 : mm_dec q163 49 = some (.invokevirtual 214) := by decide +kernel
theorem d163_52 : mm_dec q163 52 = some (.ifCond .eq 21) := by decide +kernel
theorem d163_55 : mm_dec q163 55 = some (.aload_n 0) := by decide +kernel
theorem d163_56 : mm_dec q163 56 = some (.iload_n 1) := by decide +kernel
theorem d163_57 : mm_dec q163 57 = some (.aload_n 0) := by decide +kernel
theorem d163_58 : mm_dec q163 58 = some (.getfield 28) := by decide +kernel
theorem d163_61 : mm_dec q163 61 = some (.iload_n 2) := by decide +kernel
theorem d163_62 : mm_dec q163 62 = some (.iaload) := by decide +kernel
theorem d163_63 : mm_dec q163 63 = some (.aload_n 0) := by decide +kernel
theorem d163_64 : mm_dec q163 64 = some (.getfield 31) := by decide +kernel
theorem d163_67 : mm_dec q163 67 = some (.iload_n 2) := by decide +kernel
theorem d163_68 : mm_dec q163 68 = some (.iaload) := by decide +kernel
theorem d163_69 : mm_dec q163 69 = some (.invokevirtual 214) := by decide +kernel
theorem d163_72 : mm_dec q163 72 = some (.ireturn) := by decide +kernel
theorem d163_73 : mm_dec q163 73 = some (.iinc 2 1) := by decide +kernel
theorem d163_76 : mm_dec q163 76 = some (.goto (-71)) := by decide +kernel
theorem d163_79 : mm_dec q163 79 = some (.iconst 0) := by decide +kernel
theorem d163_80 : mm_dec q163 80 = some (.ireturn) := by decide +kernel
theorem d164_0 : mm_dec q164 0 = some (.aload_n 0) := by decide +kernel
theorem d164_1 : mm_dec q164 1 = some (.invokevirtual 132) := by decide +kernel
theorem d164_4 : mm_dec q164 4 = some (.invokestatic 135) := by decide +kernel
theorem d164_7 : mm_dec q164 7 = some (.ifCond .ne 9) := by decide +kernel
theorem d164_10 : mm_dec q164 10 = some (.aload_n 0) := by decide +kernel
theorem d164_11 : mm_dec q164 11 = some (.invokevirtual 129) := by decide +kernel
theorem d164_14 : mm_dec q164 14 = some (.iload_n 1) := by decide +kernel
theorem d164_15 : mm_dec q164 15 = some (.ireturn) := by decide +kernel
theorem d164_16 : mm_dec q164 16 = some (.aload_n 0) := by decide +kernel
theorem d164_17 : mm_dec q164 17 = some (.invokevirtual 116) := by decide +kernel
theorem d164_20 : mm_dec q164 20 = some (.bipush 48) := by decide +kernel
theorem d164_22 : mm_dec q164 22 = some (.isub) := by decide +kernel
theorem d164_23 : mm_dec q164 23 = some (.istore_n 3) := by decide +kernel
theorem d164_24 : mm_dec q164 24 = some (.aload_n 0) := by decide +kernel
theorem d164_25 : mm_dec q164 25 = some (.dup) := by decide +kernel
theorem d164_26 : mm_dec q164 26 = some (.getfield 113) := by decide +kernel
theorem d164_29 : mm_dec q164 29 = some (.iconst 1) := by decide +kernel
theorem d164_30 : mm_dec q164 30 = some (.iadd) := by decide +kernel
theorem d164_31 : mm_dec q164 31 = some (.putfield 113) := by decide +kernel
theorem d164_34 : mm_dec q164 34 = some (.aload_n 0) := by decide +kernel
theorem d164_35 : mm_dec q164 35 = some (.invokevirtual 116) := by decide +kernel
theorem d164_38 : mm_dec q164 38 = some (.invokestatic 135) := by decide +kernel
theorem d164_41 : mm_dec q164 41 = some (.ifCond .eq 26) := by decide +kernel
theorem d164_44 : mm_dec q164 44 = some (.bipush 10) := by decide +kernel
theorem d164_46 : mm_dec q164 46 = some (.iload_n 3) := by decide +kernel
theorem d164_47 : mm_dec q164 47 = some (.imul) := by decide +kernel
theorem d164_48 : mm_dec q164 48 = some (.aload_n 0) := by decide +kernel
theorem d164_49 : mm_dec q164 49 = some (.invokevirtual 116) := by decide +kernel
theorem d164_52 : mm_dec q164 52 = some (.iadd) := by decide +kernel
theorem d164_53 : mm_dec q164 53 = some (.bipush 48) := by decide +kernel
theorem d164_55 : mm_dec q164 55 = some (.isub) := by decide +kernel
theorem d164_56 : mm_dec q164 56 = some (.istore_n 3) := by decide +kernel
theorem d164_57 : mm_dec q164 57 = some (.aload_n 0) := by decide +kernel
theorem d164_58 : mm_dec q164 58 = some (.dup) := by decide +kernel
theorem d164_59 : mm_dec q164 59 = some (.getfield 113) := by decide +kernel
theorem d164_62 : mm_dec q164 62 = some (.iconst 1) := by decide +kernel
theorem d164_63 : mm_dec q164 63 = some (.iadd) := by decide +kernel
theorem d164_64 : mm_dec q164 64 = some (.putfield 113) := by decide +kernel
theorem d164_67 : mm_dec q164 67 = some (.aload_n 0) := by decide +kernel
theorem d164_68 : mm_dec q164 68 = some (.invokevirtual 116) := by decide +kernel
theorem d164_71 : mm_dec q164 71 = some (.invokestatic 135) := by decide +kernel
theorem d164_74 : mm_dec q164 74 = some (.ifCond .eq 10) := by decide +kernel
theorem d164_77 : mm_dec q164 77 = some (.aload_n 0) := by decide +kernel
theorem d164_78 : mm_dec q164 78 = some (.invokevirtual 129) := by decide +kernel
theorem d164_81 : mm_dec q164 81 = some (.goto 26) := by decide +kernel
theorem d164_84 : mm_dec q164 84 = some (.iload_n 3) := by decide +kernel
theorem d164_85 : mm_dec q164 85 = some (.iload_n 1) := by decide +kernel
theorem d164_86 : mm_dec q164 86 = some (.iload_n 2) := by decide +kernel
theorem d164_87 : mm_dec q164 87 = some (.invokestatic 218) := by decide +kernel
theorem d164_90 : mm_dec q164 90 = some (.ifCond .ne 17) := by decide +kernel
theorem d164_93 : mm_dec q164 93 = some (.aload_n 0) := by decide +kernel
theorem d164_94 : mm_dec q164 94 = some (.dup) := by decide +kernel
theorem d164_95 : mm_dec q164 95 = some (.getfield 113) := by decide +kernel
theorem d164_98 : mm_dec q164 98 = some (.iconst 1) := by decide +kernel
theorem d164_99 : mm_dec q164 99 = some (.isub) := by decide +kernel
theorem d164_100 : mm_dec q164 100 = some (.putfield 113) := by decide +kernel
theorem d164_103 : mm_dec q164 103 = some (.aload_n 0) := by decide +kernel
theorem d164_104 : mm_dec q164 104 = some (.invokevirtual 129) := by decide +kernel
theorem d164_107 : mm_dec q164 107 = some (.iload_n 3) := by decide +kernel
theorem d164_108 : mm_dec q164 108 = some (.ireturn) := by decide +kernel
theorem d165_0 : mm_dec q165 0 = some (.iload_n 0) := by decide +kernel
theorem d165_1 : mm_dec q165 1 = some (.bipush 98) := by decide +kernel
theorem d165_3 : mm_dec q165 3 = some (.if_icmp .ne 35) := by decide +kernel
theorem d165_6 : mm_dec q165 6 = some (.iload_n 1) := by decide +kernel
theorem d165_7 : mm_dec q165 7 = some (.bipush 104) := by decide +kernel
theorem d165_9 : mm_dec q165 9 = some (.if_icmp .ne 7) := by decide +kernel
theorem d165_12 : mm_dec q165 12 = some (.iconst 0) := by decide +kernel
theorem d165_13 : mm_dec q165 13 = some (.goto 24) := by decide +kernel
theorem d165_16 : mm_dec q165 16 = some (.iload_n 1) := by decide +kernel
theorem d165_17 : mm_dec q165 17 = some (.bipush 107) := by decide +kernel
theorem d165_19 : mm_dec q165 19 = some (.if_icmp .ne 7) := by decide +kernel
theorem d165_22 : mm_dec q165 22 = some (.iconst 1) := by decide +kernel
theorem d165_23 : mm_dec q165 23 = some (.goto 14) := by decide +kernel
theorem d165_26 : mm_dec q165 26 = some (.iload_n 1) := by decide +kernel
theorem d165_27 : mm_dec q165 27 = some (.bipush 114) := by decide +kernel
theorem d165_29 : mm_dec q165 29 = some (.if_icmp .ne 7) := by decide +kernel
theorem d165_32 : mm_dec q165 32 = some (.iconst 2) := by decide +kernel
theorem d165_33 : mm_dec q165 33 = some (.goto 4) := by decide +kernel
theorem d165_36 : mm_dec q165 36 = some (.iconst (-1)) := by decide +kernel
theorem d165_37 : mm_dec q165 37 = some (.ireturn) := by decide +kernel
theorem d165_38 : mm_dec q165 38 = some (.iload_n 1) := by decide +kernel
theorem d165_39 : mm_dec q165 39 = some (.bipush 102) := by decide +kernel
theorem d165_41 : mm_dec q165 41 = some (.if_icmp .ne 7) := by decide +kernel
theorem d165_44 : mm_dec q165 44 = some (.iconst 0) := by decide +kernel
theorem d165_45 : mm_dec q165 45 = some (.goto 45) := by decide +kernel
theorem d165_48 : mm_dec q165 48 = some (.iload_n 1) := by decide +kernel
theorem d165_49 : mm_dec q165 49 = some (.bipush 108) := by decide +kernel
theorem d165_51 : mm_dec q165 51 = some (.if_icmp .ne 7) := by decide +kernel
theorem d165_54 : mm_dec q165 54 = some (.iconst 1) := by decide +kernel
theorem d165_55 : mm_dec q165 55 = some (.goto 35) := by decide +kernel
theorem d165_58 : mm_dec q165 58 = some (.iload_n 1) := by decide +kernel
theorem d165_59 : mm_dec q165 59 = some (.bipush 113) := by decide +kernel
theorem d165_61 : mm_dec q165 61 = some (.if_icmp .ne 7) := by decide +kernel
theorem d165_64 : mm_dec q165 64 = some (.iconst 2) := by decide +kernel
theorem d165_65 : mm_dec q165 65 = some (.goto 25) := by decide +kernel
theorem d165_68 : mm_dec q165 68 = some (.iload_n 1) := by decide +kernel
theorem d165_69 : mm_dec q165 69 = some (.iload_n 0) := by decide +kernel
theorem d165_70 : mm_dec q165 70 = some (.bipush 112) := by decide +kernel
theorem d165_72 : mm_dec q165 72 = some (.if_icmp .ne 8) := by decide +kernel
theorem d165_75 : mm_dec q165 75 = some (.bipush 100) := by decide +kernel
theorem d165_77 : mm_dec q165 77 = some (.goto 5) := by decide +kernel
theorem d165_80 : mm_dec q165 80 = some (.bipush 118) := by decide +kernel
theorem d165_82 : mm_dec q165 82 = some (.if_icmp .ne 7) := by decide +kernel
theorem d165_85 : mm_dec q165 85 = some (.iconst 3) := by decide +kernel
theorem d165_86 : mm_dec q165 86 = some (.goto 4) := by decide +kernel
theorem d165_89 : mm_dec q165 89 = some (.iconst (-1)) := by decide +kernel
theorem d165_90 : mm_dec q165 90 = some (.ireturn) := by decide +kernel
theorem d166_0 : mm_dec q166 0 = some (.iload_n 0) := by decide +kernel
theorem d166_1 : mm_dec q166 1 = some (.bipush 98) := by decide +kernel
theorem d166_3 : mm_dec q166 3 = some (.if_icmp .ne 15) := by decide +kernel
theorem d166_6 : mm_dec q166 6 = some (.iload_n 1) := by decide +kernel
theorem d166_7 : mm_dec q166 7 = some (.ifCond .ne 7) := by decide +kernel
theorem d166_10 : mm_dec q166 10 = some (.iconst 5) := by decide +kernel
theorem d166_11 : mm_dec q166 11 = some (.goto 17) := by decide +kernel
theorem d166_14 : mm_dec q166 14 = some (.iconst 0) := by decide +kernel
theorem d166_15 : mm_dec q166 15 = some (.goto 13) := by decide +kernel
theorem d166_18 : mm_dec q166 18 = some (.iload_n 1) := by decide +kernel
theorem d166_19 : mm_dec q166 19 = some (.iconst 2) := by decide +kernel
theorem d166_20 : mm_dec q166 20 = some (.if_icmp .ne 7) := by decide +kernel
theorem d166_23 : mm_dec q166 23 = some (.iconst 1) := by decide +kernel
theorem d166_24 : mm_dec q166 24 = some (.goto 4) := by decide +kernel
theorem d166_27 : mm_dec q166 27 = some (.iconst 0) := by decide +kernel
theorem d166_28 : mm_dec q166 28 = some (.ireturn) := by decide +kernel
theorem d167_0 : mm_dec q167 0 = some (.iload_n 0) := by decide +kernel
theorem d167_1 : mm_dec q167 1 = some (.bipush 98) := by decide +kernel
theorem d167_3 : mm_dec q167 3 = some (.if_icmp .ne 26) := by decide +kernel
theorem d167_6 : mm_dec q167 6 = some (.iload_n 1) := by decide +kernel
theorem d167_7 : mm_dec q167 7 = some (.ifCond .ne 8) := by decide +kernel
theorem d167_10 : mm_dec q167 10 = some (.bipush 60) := by decide +kernel
theorem d167_12 : mm_dec q167 12 = some (.goto 38) := by decide +kernel
theorem d167_15 : mm_dec q167 15 = some (.iload_n 1) := by decide +kernel
theorem d167_16 : mm_dec q167 16 = some (.iconst 1) := by decide +kernel
theorem d167_17 : mm_dec q167 17 = some (.if_icmp .ne 7) := by decide +kernel
theorem d167_20 : mm_dec q167 20 = some (.iconst 1) := by decide +kernel
theorem d167_21 : mm_dec q167 21 = some (.goto 29) := by decide +kernel
theorem d167_24 : mm_dec q167 24 = some (.bipush 9) := by decide +kernel
theorem d167_26 : mm_dec q167 26 = some (.goto 24) := by decide +kernel
theorem d167_29 : mm_dec q167 29 = some (.iload_n 1) := by decide +kernel
theorem d167_30 : mm_dec q167 30 = some (.ifCond .ne 8) := by decide +kernel
theorem d167_33 : mm_dec q167 33 = some (.bipush 59) := by decide +kernel
theorem d167_35 : mm_dec q167 35 = some (.goto 15) := by decide +kernel
theorem d167_38 : mm_dec q167 38 = some (.iload_n 1) := by decide +kernel
theorem d167_39 : mm_dec q167 39 = some (.iconst 3) := by decide +kernel
theorem d167_40 : mm_dec q167 40 = some (.if_icmp .ne 8) := by decide +kernel
theorem d167_43 : mm_dec q167 43 = some (.bipush 9) := by decide +kernel
theorem d167_45 : mm_dec q167 45 = some (.goto 5) := by decide +kernel
theorem d167_48 : mm_dec q167 48 = some (.bipush 60) := by decide +kernel
theorem d167_50 : mm_dec q167 50 = some (.ireturn) := by decide +kernel
theorem d168_0 : mm_dec q168 0 = some (.iload_n 0) := by decide +kernel
theorem d168_1 : mm_dec q168 1 = some (.bipush 98) := by decide +kernel
theorem d168_3 : mm_dec q168 3 = some (.if_icmp .ne 24) := by decide +kernel
theorem d168_6 : mm_dec q168 6 = some (.iload_n 1) := by decide +kernel
theorem d168_7 : mm_dec q168 7 = some (.ifCond .ne 8) := by decide +kernel
theorem d168_10 : mm_dec q168 10 = some (.bipush 20) := by decide +kernel
theorem d168_12 : mm_dec q168 12 = some (.goto 14) := by decide +kernel
theorem d168_15 : mm_dec q168 15 = some (.iload_n 1) := by decide +kernel
theorem d168_16 : mm_dec q168 16 = some (.iconst 1) := by decide +kernel
theorem d168_17 : mm_dec q168 17 = some (.if_icmp .ne 7) := by decide +kernel
theorem d168_20 : mm_dec q168 20 = some (.iconst 0) := by decide +kernel
theorem d168_21 : mm_dec q168 21 = some (.goto 5) := by decide +kernel
theorem d168_24 : mm_dec q168 24 = some (.bipush 9) := by decide +kernel
theorem d168_26 : mm_dec q168 26 = some (.ireturn) := by decide +kernel
theorem d168_27 : mm_dec q168 27 = some (.iload_n 0) := by decide +kernel
theorem d168_28 : mm_dec q168 28 = some (.bipush 103) := by decide +kernel
theorem d168_30 : mm_dec q168 30 = some (.if_icmp .ne 25) := by decide +kernel
theorem d168_33 : mm_dec q168 33 = some (.iload_n 1) := by decide +kernel
theorem d168_34 : mm_dec q168 34 = some (.iconst 1) := by decide +kernel
theorem d168_35 : mm_dec q168 35 = some (.if_icmp .ne 8) := by decide +kernel
theorem d168_38 : mm_dec q168 38 = some (.bipush 10) := by decide +kernel
theorem d168_40 : mm_dec q168 40 = some (.goto 14) := by decide +kernel
theorem d168_43 : mm_dec q168 43 = some (.iload_n 1) := by decide +kernel
theorem d168_44 : mm_dec q168 44 = some (.iconst 2) := by decide +kernel
theorem d168_45 : mm_dec q168 45 = some (.if_icmp .ne 8) := by decide +kernel
theorem d168_48 : mm_dec q168 48 = some (.bipush 60) := by decide +kernel
theorem d168_50 : mm_dec q168 50 = some (.goto 4) := by decide +kernel
theorem d168_53 : mm_dec q168 53 = some (.iconst 0) := by decide +kernel
theorem d168_54 : mm_dec q168 54 = some (.ireturn) := by decide +kernel
theorem d168_55 : mm_dec q168 55 = some (.iload_n 1) := by decide +kernel
theorem d168_56 : mm_dec q168 56 = some (.iconst 1) := by decide +kernel
theorem d168_57 : mm_dec q168 57 = some (.if_icmp .ne 7) := by decide +kernel
theorem d168_60 : mm_dec q168 60 = some (.iconst 5) := by decide +kernel
theorem d168_61 : mm_dec q168 61 = some (.goto 23) := by decide +kernel
theorem d168_64 : mm_dec q168 64 = some (.iload_n 1) := by decide +kernel
theorem d168_65 : mm_dec q168 65 = some (.iconst 2) := by decide +kernel
theorem d168_66 : mm_dec q168 66 = some (.if_icmp .ne 8) := by decide +kernel
theorem d168_69 : mm_dec q168 69 = some (.bipush 20) := by decide +kernel
theorem d168_71 : mm_dec q168 71 = some (.goto 13) := by decide +kernel
theorem d168_74 : mm_dec q168 74 = some (.iload_n 1) := by decide +kernel
theorem d168_75 : mm_dec q168 75 = some (.iconst 3) := by decide +kernel
theorem d168_76 : mm_dec q168 76 = some (.if_icmp .ne 7) := by decide +kernel
theorem d168_79 : mm_dec q168 79 = some (.iconst 1) := by decide +kernel
theorem d168_80 : mm_dec q168 80 = some (.goto 4) := by decide +kernel
theorem d168_83 : mm_dec q168 83 = some (.iconst 0) := by decide +kernel
theorem d168_84 : mm_dec q168 84 = some (.ireturn) := by decide +kernel
theorem d169_0 : mm_dec q169 0 = some (.iconst 0) := by decide +kernel
theorem d169_1 : mm_dec q169 1 = some (.istore 5) := by decide +kernel
theorem d169_3 : mm_dec q169 3 = some (.iload 5) := by decide +kernel
theorem d169_5 : mm_dec q169 5 = some (.iload 4) := by decide +kernel
theorem d169_7 : mm_dec q169 7 = some (.if_icmp .ge 21) := by decide +kernel
theorem d169_10 : mm_dec q169 10 = some (.aload_n 2) := by decide +kernel
theorem d169_11 : mm_dec q169 11 = some (.iload_n 3) := by decide +kernel
theorem d169_12 : mm_dec q169 12 = some (.iload 5) := by decide +kernel
theorem d169_14 : mm_dec q169 14 = some (.iadd) := by decide +kernel
theorem d169_15 : mm_dec q169 15 = some (.iload_n 1) := by decide +kernel
theorem d169_16 : mm_dec q169 16 = some (.iload 5) := by decide +kernel
theorem d169_18 : mm_dec q169 18 = some (.invokestatic 222) := by decide +kernel
theorem d169_21 : mm_dec q169 21 = some (.iastore) := by decide +kernel
theorem d169_22 : mm_dec q169 22 = some (.iinc 5 1) := by decide +kernel
theorem d169_25 : mm_dec q169 25 = some (.goto (-22)) := by decide +kernel
theorem d169_28 : mm_dec q169 28 = some (.iconst 0) := by decide +kernel
theorem d169_29 : mm_dec q169 29 = some (.istore 5) := by decide +kernel
theorem d169_31 : mm_dec q169 31 = some (.iload_n 1) := by decide +kernel
theorem d169_32 : mm_dec q169 32 = some (.aload_n 0) := by decide +kernel
theorem d169_33 : mm_dec q169 33 = some (.invokevirtual 132) := by decide +kernel
theorem d169_36 : mm_dec q169 36 = some (.invokestatic 226) := by decide +kernel
theorem d169_39 : mm_dec q169 39 = some (.istore 6) := by decide +kernel
theorem d169_41 : mm_dec q169 41 = some (.aload_n 0) := by decide +kernel
theorem d169_42 : mm_dec q169 42 = some (.getfield 120) := by decide +kernel
theorem d169_45 : mm_dec q169 45 = some (.iconst (-1)) := by decide +kernel
theorem d169_46 : mm_dec q169 46 = some (.if_icmp .ne 85) := by decide +kernel
theorem d169_49 : mm_dec q169 49 = some (.iload 6) := by decide +kernel
theorem d169_51 : mm_dec q169 51 = some (.iconst (-1)) := by decide +kernel
theorem d169_52 : mm_dec q169 52 = some (.if_icmp .eq 79) := by decide +kernel
theorem d169_55 : mm_dec q169 55 = some (.iload 5) := by decide +kernel
theorem d169_57 : mm_dec q169 57 = some (.iload 6) := by decide +kernel
theorem d169_59 : mm_dec q169 59 = some (.invokestatic 229) := by decide +kernel
theorem d169_62 : mm_dec q169 62 = some (.ifCond .ne 69) := by decide +kernel
theorem d169_65 : mm_dec q169 65 = some (.iload 5) := by decide +kernel
theorem d169_67 : mm_dec q169 67 = some (.iconst 1) := by decide +kernel
theorem d169_68 : mm_dec q169 68 = some (.iload 6) := by decide +kernel
theorem d169_70 : mm_dec q169 70 = some (.ishl) := by decide +kernel
theorem d169_71 : mm_dec q169 71 = some (.ior) := by decide +kernel
theorem d169_72 : mm_dec q169 72 = some (.istore 5) := by decide +kernel
theorem d169_74 : mm_dec q169 74 = some (.aload_n 0) := by decide +kernel
theorem d169_75 : mm_dec q169 75 = some (.dup) := by decide +kernel
theorem d169_76 : mm_dec q169 76 = some (.getfield 113) := by decide +kernel
theorem d169_79 : mm_dec q169 79 = some (.iconst 1) := by decide +kernel
theorem d169_80 : mm_dec q169 80 = some (.iadd) := by decide +kernel
theorem d169_81 : mm_dec q169 81 = some (.putfield 113) := by decide +kernel
theorem d169_84 : mm_dec q169 84 = some (.aload_n 2) := by decide +kernel
theorem d169_85 : mm_dec q169 85 = some (.iload_n 3) := by decide +kernel
theorem d169_86 : mm_dec q169 86 = some (.iload 6) := by decide +kernel
theorem d169_88 : mm_dec q169 88 = some (.iadd) := by decide +kernel
theorem d169_89 : mm_dec q169 89 = some (.aload_n 0) := by decide +kernel
theorem d169_90 : mm_dec q169 90 = some (.iload_n 1) := by decide +kernel
theorem d169_91 : mm_dec q169 91 = some (.iload 6) := by decide +kernel
theorem d169_93 : mm_dec q169 93 = some (.invokestatic 233) := by decide +kernel
theorem d169_96 : mm_dec q169 96 = some (.iload_n 1) := by decide +kernel
theorem d169_97 : mm_dec q169 97 = some (.iload 6) := by decide +kernel
theorem d169_99 : mm_dec q169 99 = some (.invokestatic 236) := by decide +kernel
theorem d169_102 : mm_dec q169 102 = some (.invokevirtual 239) := by decide +kernel
theorem d169_105 : mm_dec q169 105 = some (.iastore) := by decide +kernel
theorem d169_106 : mm_dec q169 106 = some (.aload_n 0) := by decide +kernel
theorem d169_107 : mm_dec q169 107 = some (.getfield 120) := by decide +kernel
theorem d169_110 : mm_dec q169 110 = some (.iconst (-1)) := by decide +kernel
theorem d169_111 : mm_dec q169 111 = some (.if_icmp .ne 14) := by decide +kernel
theorem d169_114 : mm_dec q169 114 = some (.iload_n 1) := by decide +kernel
theorem d169_115 : mm_dec q169 115 = some (.aload_n 0) := by decide +kernel
theorem d169_116 : mm_dec q169 116 = some (.invokevirtual 132) := by decide +kernel
theorem d169_119 : mm_dec q169 119 = some (.invokestatic 226) := by decide +kernel
theorem d169_122 : mm_dec q169 122 = some (.goto 4) := by decide +kernel
theorem d169_125 : mm_dec q169 125 = some (.iconst (-1)) := by decide +kernel
theorem d169_126 : mm_dec q169 126 = some (.istore 6) := by decide +kernel
theorem d169_128 : mm_dec q169 128 = some (.goto (-87)) := by decide +kernel
theorem d169_131 : mm_dec q169 131 = some (.return_) := by decide +kernel
theorem d170_0 : mm_dec q170 0 = some (.aload_n 0) := by decide +kernel
theorem d170_1 : mm_dec q170 1 = some (.invokevirtual 132) := by decide +kernel
theorem d170_4 : mm_dec q170 4 = some (.istore_n 1) := by decide +kernel
theorem d170_5 : mm_dec q170 5 = some (.iload_n 1) := by decide +kernel
theorem d170_6 : mm_dec q170 6 = some (.bipush 112) := by decide +kernel
theorem d170_8 : mm_dec q170 8 = some (.if_icmp .ne 51) := by decide +kernel
theorem d170_11 : mm_dec q170 11 = some (.aload_n 0) := by decide +kernel
theorem d170_12 : mm_dec q170 12 = some (.getfield 242) := by decide +kernel
theorem d170_15 : mm_dec q170 15 = some (.bipush 6) := by decide +kernel
theorem d170_17 : mm_dec q170 17 = some (.if_icmp .ge 42) := by decide +kernel
theorem d170_20 : mm_dec q170 20 = some (.aload_n 0) := by decide +kernel
theorem d170_21 : mm_dec q170 21 = some (.dup) := by decide +kernel
theorem d170_22 : mm_dec q170 22 = some (.getfield 113) := by decide +kernel
theorem d170_25 : mm_dec q170 25 = some (.iconst 1) := by decide +kernel
theorem d170_26 : mm_dec q170 26 = some (.iadd) := by decide +kernel
theorem d170_27 : mm_dec q170 27 = some (.putfield 113) := by decide +kernel
theorem d170_30 : mm_dec q170 30 = some (.aload_n 0) := by decide +kernel
theorem d170_31 : mm_dec q170 31 = some (.iload_n 1) := by decide +kernel
theorem d170_32 : mm_dec q170 32 = some (.aload_n 0) := by decide +kernel
theorem d170_33 : mm_dec q170 33 = some (.getfield 40) := by decide +kernel
theorem d170_36 : mm_dec q170 36 = some (.iconst 4) := by decide +kernel
theorem d170_37 : mm_dec q170 37 = some (.aload_n 0) := by decide +kernel
theorem d170_38 : mm_dec q170 38 = some (.getfield 242) := by decide +kernel
theorem d170_41 : mm_dec q170 41 = some (.imul) := by decide +kernel
theorem d170_42 : mm_dec q170 42 = some (.iconst 4) := by decide +kernel
theorem d170_43 : mm_dec q170 43 = some (.invokevirtual 245) := by decide +kernel
theorem d170_46 : mm_dec q170 46 = some (.aload_n 0) := by decide +kernel
theorem d170_47 : mm_dec q170 47 = some (.dup) := by decide +kernel
theorem d170_48 : mm_dec q170 48 = some (.getfield 242) := by decide +kernel
theorem d170_51 : mm_dec q170 51 = some (.iconst 1) := by decide +kernel
theorem d170_52 : mm_dec q170 52 = some (.iadd) := by decide +kernel
theorem d170_53 : mm_dec q170 53 = some (.putfield 242) := by decide +kernel
theorem d170_56 : mm_dec q170 56 = some (.goto 102) := by decide +kernel
theorem d170_59 : mm_dec q170 59 = some (.iload_n 1) := by decide +kernel
theorem d170_60 : mm_dec q170 60 = some (.bipush 103) := by decide +kernel
theorem d170_62 : mm_dec q170 62 = some (.if_icmp .ne 39) := by decide +kernel
theorem d170_65 : mm_dec q170 65 = some (.aload_n 0) := by decide +kernel
theorem d170_66 : mm_dec q170 66 = some (.getfield 249) := by decide +kernel
theorem d170_69 : mm_dec q170 69 = some (.ifCond .ne 32) := by decide +kernel
theorem d170_72 : mm_dec q170 72 = some (.aload_n 0) := by decide +kernel
theorem d170_73 : mm_dec q170 73 = some (.dup) := by decide +kernel
theorem d170_74 : mm_dec q170 74 = some (.getfield 113) := by decide +kernel
theorem d170_77 : mm_dec q170 77 = some (.iconst 1) := by decide +kernel
theorem d170_78 : mm_dec q170 78 = some (.iadd) := by decide +kernel
theorem d170_79 : mm_dec q170 79 = some (.putfield 113) := by decide +kernel
theorem d170_82 : mm_dec q170 82 = some (.aload_n 0) := by decide +kernel
theorem d170_83 : mm_dec q170 83 = some (.iconst 1) := by decide +kernel
theorem d170_84 : mm_dec q170 84 = some (.putfield 249) := by decide +kernel
theorem d170_87 : mm_dec q170 87 = some (.aload_n 0) := by decide +kernel
theorem d170_88 : mm_dec q170 88 = some (.iload_n 1) := by decide +kernel
theorem d170_89 : mm_dec q170 89 = some (.aload_n 0) := by decide +kernel
theorem d170_90 : mm_dec q170 90 = some (.getfield 43) := by decide +kernel
theorem d170_93 : mm_dec q170 93 = some (.iconst 0) := by decide +kernel
theorem d170_94 : mm_dec q170 94 = some (.iconst 4) := by decide +kernel
theorem d170_95 : mm_dec q170 95 = some (.invokevirtual 245) := by decide +kernel
theorem d170_98 : mm_dec q170 98 = some (.goto 60) := by decide +kernel
theorem d170_101 : mm_dec q170 101 = some (.iload_n 1) := by decide +kernel
theorem d170_102 : mm_dec q170 102 = some (.bipush 98) := by decide +kernel
theorem d170_104 : mm_dec q170 104 = some (.if_icmp .ne 50) := by decide +kernel
theorem d170_107 : mm_dec q170 107 = some (.aload_n 0) := by decide +kernel
theorem d170_108 : mm_dec q170 108 = some (.getfield 253) := by decide +kernel
theorem d170_111 : mm_dec q170 111 = some (.iconst 2) := by decide +kernel
theorem d170_112 : mm_dec q170 112 = some (.if_icmp .ge 42) := by decide +kernel
theorem d170_115 : mm_dec q170 115 = some (.aload_n 0) := by decide +kernel
theorem d170_116 : mm_dec q170 116 = some (.dup) := by decide +kernel
theorem d170_117 : mm_dec q170 117 = some (.getfield 113) := by decide +kernel
theorem d170_120 : mm_dec q170 120 = some (.iconst 1) := by decide +kernel
theorem d170_121 : mm_dec q170 121 = some (.iadd) := by decide +kernel
theorem d170_122 : mm_dec q170 122 = some (.putfield 113) := by decide +kernel
theorem d170_125 : mm_dec q170 125 = some (.aload_n 0) := by decide +kernel
theorem d170_126 : mm_dec q170 126 = some (.iload_n 1) := by decide +kernel
theorem d170_127 : mm_dec q170 127 = some (.aload_n 0) := by decide +kernel
theorem d170_128 : mm_dec q170 128 = some (.getfield 46) := by decide +kernel
theorem d170_131 : mm_dec q170 131 = some (.iconst 3) := by decide +kernel
theorem d170_132 : mm_dec q170 132 = some (.aload_n 0) := by decide +kernel
theorem d170_133 : mm_dec q170 133 = some (.getfield 253) := by decide +kernel
theorem d170_136 : mm_dec q170 136 = some (.imul) := by decide +kernel
theorem d170_137 : mm_dec q170 137 = some (.iconst 3) := by decide +kernel
theorem d170_138 : mm_dec q170 138 = some (.invokevirtual 245) := by decide +kernel
theorem d170_141 : mm_dec q170 141 = some (.aload_n 0) := by decide +kernel
theorem d170_142 : mm_dec q170 142 = some (.dup) := by decide +kernel
theorem d170_143 : mm_dec q170 143 = some (.getfield 253) := by decide +kernel
theorem d170_146 : mm_dec q170 146 = some (.iconst 1) := by decide +kernel
theorem d170_147 : mm_dec q170 147 = some (.iadd) := by decide +kernel
theorem d170_148 : mm_dec q170 148 = some (.putfield 253) := by decide +kernel
theorem d170_151 : mm_dec q170 151 = some (.goto 7) := by decide +kernel
theorem d170_154 : mm_dec q170 154 = some (.aload_n 0) := by decide +kernel
theorem d170_155 : mm_dec q170 155 = some (.invokevirtual 129) := by decide +kernel
theorem d170_158 : mm_dec q170 158 = some (.return_) := by decide +kernel
theorem d171_0 : mm_dec q171 0 = some (.aload_n 0) := by decide +kernel
theorem d171_1 : mm_dec q171 1 = some (.iconst 0) := by decide +kernel
theorem d171_2 : mm_dec q171 2 = some (.putfield 113) := by decide +kernel
theorem d171_5 : mm_dec q171 5 = some (.aload_n 0) := by decide +kernel
theorem d171_6 : mm_dec q171 6 = some (.iconst (-1)) := by decide +kernel
theorem d171_7 : mm_dec q171 7 = some (.putfield 120) := by decide +kernel
theorem d171_10 : mm_dec q171 10 = some (.aload_n 0) := by decide +kernel
theorem d171_11 : mm_dec q171 11 = some (.iconst 0) := by decide +kernel
theorem d171_12 : mm_dec q171 12 = some (.putfield 242) := by decide +kernel
theorem d171_15 : mm_dec q171 15 = some (.aload_n 0) := by decide +kernel
theorem d171_16 : mm_dec q171 16 = some (.iconst 0) := by decide +kernel
theorem d171_17 : mm_dec q171 17 = some (.putfield 253) := by decide +kernel
theorem d171_20 : mm_dec q171 20 = some (.aload_n 0) := by decide +kernel
theorem d171_21 : mm_dec q171 21 = some (.iconst 0) := by decide +kernel
theorem d171_22 : mm_dec q171 22 = some (.putfield 249) := by decide +kernel
theorem d171_25 : mm_dec q171 25 = some (.iconst 1) := by decide +kernel
theorem d171_26 : mm_dec q171 26 = some (.istore_n 1) := by decide +kernel
theorem d171_27 : mm_dec q171 27 = some (.iload_n 1) := by decide +kernel
theorem d171_28 : mm_dec q171 28 = some (.ifCond .eq 59) := by decide +kernel
theorem d171_31 : mm_dec q171 31 = some (.aload_n 0) := by decide +kernel
theorem d171_32 : mm_dec q171 32 = some (.getfield 120) := by decide +kernel
theorem d171_35 : mm_dec q171 35 = some (.iconst (-1)) := by decide +kernel
theorem d171_36 : mm_dec q171 36 = some (.if_icmp .ne 51) := by decide +kernel
theorem d171_39 : mm_dec q171 39 = some (.aload_n 0) := by decide +kernel
theorem d171_40 : mm_dec q171 40 = some (.invokevirtual 256) := by decide +kernel
theorem d171_43 : mm_dec q171 43 = some (.aload_n 0) := by decide +kernel
theorem d171_44 : mm_dec q171 44 = some (.getfield 120) := by decide +kernel
theorem d171_47 : mm_dec q171 47 = some (.iconst (-1)) := by decide +kernel
theorem d171_48 : mm_dec q171 48 = some (.if_icmp .ne 16) := by decide +kernel
theorem d171_51 : mm_dec q171 51 = some (.aload_n 0) := by decide +kernel
theorem d171_52 : mm_dec q171 52 = some (.invokevirtual 132) := by decide +kernel
theorem d171_55 : mm_dec q171 55 = some (.bipush 59) := by decide +kernel
theorem d171_57 : mm_dec q171 57 = some (.if_icmp .ne 7) := by decide +kernel
theorem d171_60 : mm_dec q171 60 = some (.iconst 1) := by decide +kernel
theorem d171_61 : mm_dec q171 61 = some (.goto 4) := by decide +kernel
theorem d171_64 : mm_dec q171 64 = some (.iconst 0) := by decide +kernel
theorem d171_65 : mm_dec q171 65 = some (.istore_n 1) := by decide +kernel
theorem d171_66 : mm_dec q171 66 = some (.aload_n 0) := by decide +kernel
theorem d171_67 : mm_dec q171 67 = some (.dup) := by decide +kernel
theorem d171_68 : mm_dec q171 68 = some (.getfield 113) := by decide +kernel
theorem d171_71 : mm_dec q171 71 = some (.iload_n 1) := by decide +kernel
theorem d171_72 : mm_dec q171 72 = some (.ifCond .eq 7) := by decide +kernel
theorem d171_75 : mm_dec q171 75 = some (.iconst 1) := by decide +kernel
theorem d171_76 : mm_dec q171 76 = some (.goto 4) := by decide +kernel
theorem d171_79 : mm_dec q171 79 = some (.iconst 0) := by decide +kernel
theorem d171_80 : mm_dec q171 80 = some (.iadd) := by decide +kernel
theorem d171_81 : mm_dec q171 81 = some (.putfield 113) := by decide +kernel
theorem d171_84 : mm_dec q171 84 = some (.goto (-57)) := by decide +kernel
theorem d171_87 : mm_dec q171 87 = some (.aload_n 0) := by decide +kernel
theorem d171_88 : mm_dec q171 88 = some (.getfield 120) := by decide +kernel
theorem d171_91 : mm_dec q171 91 = some (.iconst (-1)) := by decide +kernel
theorem d171_92 : mm_dec q171 92 = some (.if_icmp .ne 29) := by decide +kernel
theorem d171_95 : mm_dec q171 95 = some (.aload_n 0) := by decide +kernel
theorem d171_96 : mm_dec q171 96 = some (.invokevirtual 132) := by decide +kernel
theorem d171_99 : mm_dec q171 99 = some (.iconst (-1)) := by decide +kernel
theorem d171_100 : mm_dec q171 100 = some (.if_icmp .ne 17) := by decide +kernel
theorem d171_103 : mm_dec q171 103 = some (.aload_n 0) := by decide +kernel
theorem d171_104 : mm_dec q171 104 = some (.getfield 242) := by decide +kernel
theorem d171_107 : mm_dec q171 107 = some (.ifCond .eq 10) := by decide +kernel
theorem d171_110 : mm_dec q171 110 = some (.aload_n 0) := by decide +kernel
theorem d171_111 : mm_dec q171 111 = some (.getfield 253) := by decide +kernel
theorem d171_114 : mm_dec q171 114 = some (.ifCond .ne 7) := by decide +kernel
theorem d171_117 : mm_dec q171 117 = some (.aload_n 0) := by decide +kernel
theorem d171_118 : mm_dec q171 118 = some (.invokevirtual 129) := by decide +kernel
theorem d171_121 : mm_dec q171 121 = some (.aload_n 0) := by decide +kernel
theorem d171_122 : mm_dec q171 122 = some (.getfield 120) := by decide +kernel
theorem d171_125 : mm_dec q171 125 = some (.ireturn) := by decide +kernel
theorem d172_0 : mm_dec q172 0 = some (.iload_n 1) := by decide +kernel
theorem d172_1 : mm_dec q172 1 = some (.ifCond .ne 10) := by decide +kernel
theorem d172_4 : mm_dec q172 4 = some (.aload_n 0) := by decide +kernel
theorem d172_5 : mm_dec q172 5 = some (.invokevirtual 259) := by decide +kernel
theorem d172_8 : mm_dec q172 8 = some (.goto 18) := by decide +kernel
theorem d172_11 : mm_dec q172 11 = some (.iload_n 1) := by decide +kernel
theorem d172_12 : mm_dec q172 12 = some (.iconst 1) := by decide +kernel
theorem d172_13 : mm_dec q172 13 = some (.if_icmp .ne 11) := by decide +kernel
theorem d172_16 : mm_dec q172 16 = some (.aload_n 0) := by decide +kernel
theorem d172_17 : mm_dec q172 17 = some (.iconst 4) := by decide +kernel
theorem d172_18 : mm_dec q172 18 = some (.invokevirtual 262) := by decide +kernel
theorem d172_21 : mm_dec q172 21 = some (.goto 5) := by decide +kernel
theorem d172_24 : mm_dec q172 24 = some (.bipush (-2)) := by decide +kernel
theorem d172_26 : mm_dec q172 26 = some (.ireturn) := by decide +kernel
theorem d173_0 : mm_dec q173 0 = some (.aload_n 0) := by decide +kernel
theorem d173_1 : mm_dec q173 1 = some (.aload_n 0) := by decide +kernel
theorem d173_2 : mm_dec q173 2 = some (.getfield 242) := by decide +kernel
theorem d173_5 : mm_dec q173 5 = some (.putfield 265) := by decide +kernel
theorem d173_8 : mm_dec q173 8 = some (.aload_n 0) := by decide +kernel
theorem d173_9 : mm_dec q173 9 = some (.aload_n 0) := by decide +kernel
theorem d173_10 : mm_dec q173 10 = some (.getfield 253) := by decide +kernel
theorem d173_13 : mm_dec q173 13 = some (.putfield 268) := by decide +kernel
theorem d173_16 : mm_dec q173 16 = some (.aload_n 0) := by decide +kernel
theorem d173_17 : mm_dec q173 17 = some (.aload_n 0) := by decide +kernel
theorem d173_18 : mm_dec q173 18 = some (.getfield 249) := by decide +kernel
theorem d173_21 : mm_dec q173 21 = some (.putfield 271) := by decide +kernel
theorem d173_24 : mm_dec q173 24 = some (.iconst 0) := by decide +kernel
theorem d173_25 : mm_dec q173 25 = some (.istore_n 1) := by decide +kernel
theorem d173_26 : mm_dec q173 26 = some (.iload_n 1) := by decide +kernel
theorem d173_27 : mm_dec q173 27 = some (.bipush 24) := by decide +kernel
theorem d173_29 : mm_dec q173 29 = some (.if_icmp .ge 21) := by decide +kernel
theorem d173_32 : mm_dec q173 32 = some (.aload_n 0) := by decide +kernel
theorem d173_33 : mm_dec q173 33 = some (.getfield 49) := by decide +kernel
theorem d173_36 : mm_dec q173 36 = some (.iload_n 1) := by decide +kernel
theorem d173_37 : mm_dec q173 37 = some (.aload_n 0) := by decide +kernel
theorem d173_38 : mm_dec q173 38 = some (.getfield 40) := by decide +kernel
theorem d173_41 : mm_dec q173 41 = some (.iload_n 1) := by decide +kernel
theorem d173_42 : mm_dec q173 42 = some (.iaload) := by decide +kernel
theorem d173_43 : mm_dec q173 43 = some (.iastore) := by decide +kernel
theorem d173_44 : mm_dec q173 44 = some (.iinc 1 1) := by decide +kernel
theorem d173_47 : mm_dec q173 47 = some (.goto (-21)) := by decide +kernel
theorem d173_50 : mm_dec q173 50 = some (.iconst 0) := by decide +kernel
theorem d173_51 : mm_dec q173 51 = some (.istore_n 1) := by decide +kernel
theorem d173_52 : mm_dec q173 52 = some (.iload_n 1) := by decide +kernel
theorem d173_53 : mm_dec q173 53 = some (.iconst 4) := by decide +kernel
theorem d173_54 : mm_dec q173 54 = some (.if_icmp .ge 21) := by decide +kernel
theorem d173_57 : mm_dec q173 57 = some (.aload_n 0) := by decide +kernel
theorem d173_58 : mm_dec q173 58 = some (.getfield 52) := by decide +kernel
theorem d173_61 : mm_dec q173 61 = some (.iload_n 1) := by decide +kernel
theorem d173_62 : mm_dec q173 62 = some (.aload_n 0) := by decide +kernel
theorem d173_63 : mm_dec q173 63 = some (.getfield 43) := by decide +kernel
theorem d173_66 : mm_dec q173 66 = some (.iload_n 1) := by decide +kernel
theorem d173_67 : mm_dec q173 67 = some (.iaload) := by decide +kernel
theorem d173_68 : mm_dec q173 68 = some (.iastore) := by decide +kernel
theorem d173_69 : mm_dec q173 69 = some (.iinc 1 1) := by decide +kernel
theorem d173_72 : mm_dec q173 72 = some (.goto (-20)) := by decide +kernel
theorem d173_75 : mm_dec q173 75 = some (.iconst 0) := by decide +kernel
theorem d173_76 : mm_dec q173 76 = some (.istore_n 1) := by decide +kernel
theorem d173_77 : mm_dec q173 77 = some (.iload_n 1) := by decide +kernel
theorem d173_78 : mm_dec q173 78 = some (.bipush 6) := by decide +kernel
theorem d173_80 : mm_dec q173 80 = some (.if_icmp .ge 21) := by decide +kernel
theorem d173_83 : mm_dec q173 83 = some (.aload_n 0) := by decide +kernel
theorem d173_84 : mm_dec q173 84 = some (.getfield 55) := by decide +kernel
theorem d173_87 : mm_dec q173 87 = some (.iload_n 1) := by decide +kernel
theorem d173_88 : mm_dec q173 88 = some (.aload_n 0) := by decide +kernel
theorem d173_89 : mm_dec q173 89 = some (.getfield 46) := by decide +kernel
theorem d173_92 : mm_dec q173 92 = some (.iload_n 1) := by decide +kernel
theorem d173_93 : mm_dec q173 93 = some (.iaload) := by decide +kernel
theorem d173_94 : mm_dec q173 94 = some (.iastore) := by decide +kernel
theorem d173_95 : mm_dec q173 95 = some (.iinc 1 1) := by decide +kernel
theorem d173_98 : mm_dec q173 98 = some (.goto (-21)) := by decide +kernel
theorem d173_101 : mm_dec q173 101 = some (.iconst 0) := by decide +kernel
theorem d173_102 : mm_dec q173 102 = some (.istore_n 1) := by decide +kernel
theorem d173_103 : mm_dec q173 103 = some (.iload_n 1) := by decide +kernel
theorem d173_104 : mm_dec q173 104 = some (.bipush 6) := by decide +kernel
theorem d173_106 : mm_dec q173 106 = some (.if_icmp .ge 16) := by decide +kernel
theorem d173_109 : mm_dec q173 109 = some (.aload_n 0) := by decide +kernel
theorem d173_110 : mm_dec q173 110 = some (.getfield 58) := by decide +kernel
theorem d173_113 : mm_dec q173 113 = some (.iload_n 1) := by decide +kernel
theorem d173_114 : mm_dec q173 114 = some (.iconst (-1)) := by decide +kernel
theorem d173_115 : mm_dec q173 115 = some (.iastore) := by decide +kernel
theorem d173_116 : mm_dec q173 116 = some (.iinc 1 1) := by decide +kernel
theorem d173_119 : mm_dec q173 119 = some (.goto (-16)) := by decide +kernel
theorem d173_122 : mm_dec q173 122 = some (.iconst 0) := by decide +kernel
theorem d173_123 : mm_dec q173 123 = some (.istore_n 1) := by decide +kernel
theorem d173_124 : mm_dec q173 124 = some (.iload_n 1) := by decide +kernel
theorem d173_125 : mm_dec q173 125 = some (.iconst 2) := by decide +kernel
theorem d173_126 : mm_dec q173 126 = some (.if_icmp .ge 23) := by decide +kernel
theorem d173_129 : mm_dec q173 129 = some (.aload_n 0) := by decide +kernel
theorem d173_130 : mm_dec q173 130 = some (.getfield 61) := by decide +kernel
theorem d173_133 : mm_dec q173 133 = some (.iload_n 1) := by decide +kernel
theorem d173_134 : mm_dec q173 134 = some (.iconst 0) := by decide +kernel
theorem d173_135 : mm_dec q173 135 = some (.iastore) := by decide +kernel
theorem d173_136 : mm_dec q173 136 = some (.aload_n 0) := by decide +kernel
theorem d173_137 : mm_dec q173 137 = some (.getfield 64) := by decide +kernel
theorem d173_140 : mm_dec q173 140 = some (.iload_n 1) := by decide +kernel
theorem d173_141 : mm_dec q173 141 = some (.iconst 0) := by decide +kernel
theorem d173_142 : mm_dec q173 142 = some (.iastore) := by decide +kernel
theorem d173_143 : mm_dec q173 143 = some (.iinc 1 1) := by decide +kernel
theorem d173_146 : mm_dec q173 146 = some (.goto (-22)) := by decide +kernel
theorem d173_149 : mm_dec q173 149 = some (.aload_n 0) := by decide +kernel
theorem d173_150 : mm_dec q173 150 = some (.iconst 0) := by decide +kernel
theorem d173_151 : mm_dec q173 151 = some (.putfield 274) := by decide +kernel
theorem d173_154 : mm_dec q173 154 = some (.aload_n 0) := by decide +kernel
theorem d173_155 : mm_dec q173 155 = some (.iconst 0) := by decide +kernel
theorem d173_156 : mm_dec q173 156 = some (.putfield 277) := by decide +kernel
theorem d173_159 : mm_dec q173 159 = some (.aload_n 0) := by decide +kernel
theorem d173_160 : mm_dec q173 160 = some (.iconst 0) := by decide +kernel
theorem d173_161 : mm_dec q173 161 = some (.putfield 280) := by decide +kernel
theorem d173_164 : mm_dec q173 164 = some (.aload_n 0) := by decide +kernel
theorem d173_165 : mm_dec q173 165 = some (.iconst 0) := by decide +kernel
theorem d173_166 : mm_dec q173 166 = some (.putfield 283) := by decide +kernel
theorem d173_169 : mm_dec q173 169 = some (.aload_n 0) := by decide +kernel
theorem d173_170 : mm_dec q173 170 = some (.getfield 265) := by decide +kernel
theorem d173_173 : mm_dec q173 173 = some (.ireturn) := by decide +kernel
theorem d174_0 : mm_dec q174 0 = some (.iload_n 1) := by decide +kernel
theorem d174_1 : mm_dec q174 1 = some (.ifCond .ne 21) := by decide +kernel
theorem d174_4 : mm_dec q174 4 = some (.aload_n 0) := by decide +kernel
theorem d174_5 : mm_dec q174 5 = some (.invokevirtual 259) := by decide +kernel
theorem d174_8 : mm_dec q174 8 = some (.iconst (-1)) := by decide +kernel
theorem d174_9 : mm_dec q174 9 = some (.if_icmp .ne 13) := by decide +kernel
theorem d174_12 : mm_dec q174 12 = some (.aload_n 0) := by decide +kernel
theorem d174_13 : mm_dec q174 13 = some (.iconst 0) := by decide +kernel
theorem d174_14 : mm_dec q174 14 = some (.putfield 110) := by decide +kernel
theorem d174_17 : mm_dec q174 17 = some (.aload_n 0) := by decide +kernel
theorem d174_18 : mm_dec q174 18 = some (.invokevirtual 286) := by decide +kernel
theorem d174_21 : mm_dec q174 21 = some (.ireturn) := by decide +kernel
theorem d174_22 : mm_dec q174 22 = some (.iload_n 1) := by decide +kernel
theorem d174_23 : mm_dec q174 23 = some (.iconst 1) := by decide +kernel
theorem d174_24 : mm_dec q174 24 = some (.if_icmp .ne 45) := by decide +kernel
theorem d174_27 : mm_dec q174 27 = some (.aload_n 0) := by decide +kernel
theorem d174_28 : mm_dec q174 28 = some (.getfield 289) := by decide +kernel
theorem d174_31 : mm_dec q174 31 = some (.iconst 4) := by decide +kernel
theorem d174_32 : mm_dec q174 32 = some (.if_icmp .ge 37) := by decide +kernel
theorem d174_35 : mm_dec q174 35 = some (.aload_n 0) := by decide +kernel
theorem d174_36 : mm_dec q174 36 = some (.aload_n 0) := by decide +kernel
theorem d174_37 : mm_dec q174 37 = some (.getfield 289) := by decide +kernel
theorem d174_40 : mm_dec q174 40 = some (.invokevirtual 262) := by decide +kernel
theorem d174_43 : mm_dec q174 43 = some (.iconst (-1)) := by decide +kernel
theorem d174_44 : mm_dec q174 44 = some (.if_icmp .ne 25) := by decide +kernel
theorem d174_47 : mm_dec q174 47 = some (.aload_n 0) := by decide +kernel
theorem d174_48 : mm_dec q174 48 = some (.iconst 0) := by decide +kernel
theorem d174_49 : mm_dec q174 49 = some (.putfield 110) := by decide +kernel
theorem d174_52 : mm_dec q174 52 = some (.aload_n 0) := by decide +kernel
theorem d174_53 : mm_dec q174 53 = some (.dup) := by decide +kernel
theorem d174_54 : mm_dec q174 54 = some (.getfield 289) := by decide +kernel
theorem d174_57 : mm_dec q174 57 = some (.iconst 1) := by decide +kernel
theorem d174_58 : mm_dec q174 58 = some (.iadd) := by decide +kernel
theorem d174_59 : mm_dec q174 59 = some (.putfield 289) := by decide +kernel
theorem d174_62 : mm_dec q174 62 = some (.aload_n 0) := by decide +kernel
theorem d174_63 : mm_dec q174 63 = some (.getfield 289) := by decide +kernel
theorem d174_66 : mm_dec q174 66 = some (.iconst 1) := by decide +kernel
theorem d174_67 : mm_dec q174 67 = some (.isub) := by decide +kernel
theorem d174_68 : mm_dec q174 68 = some (.ireturn) := by decide +kernel
theorem d174_69 : mm_dec q174 69 = some (.iconst (-1)) := by decide +kernel
theorem d174_70 : mm_dec q174 70 = some (.ireturn) := by decide +kernel
theorem d175_0 : mm_dec q175 0 = some (.iload_n 1) := by decide +kernel
theorem d175_1 : mm_dec q175 1 = some (.iconst 0) := by decide +kernel
theorem d175_2 : mm_dec q175 2 = some (.aload_n 0) := by decide +kernel
theorem d175_3 : mm_dec q175 3 = some (.getfield 265) := by decide +kernel
theorem d175_6 : mm_dec q175 6 = some (.iconst 1) := by decide +kernel
theorem d175_7 : mm_dec q175 7 = some (.isub) := by decide +kernel
theorem d175_8 : mm_dec q175 8 = some (.invokestatic 218) := by decide +kernel
theorem d175_11 : mm_dec q175 11 = some (.ireturn) := by decide +kernel
theorem d176_0 : mm_dec q176 0 = some (.iload_n 1) := by decide +kernel
theorem d176_1 : mm_dec q176 1 = some (.iconst 0) := by decide +kernel
theorem d176_2 : mm_dec q176 2 = some (.aload_n 0) := by decide +kernel
theorem d176_3 : mm_dec q176 3 = some (.getfield 268) := by decide +kernel
theorem d176_6 : mm_dec q176 6 = some (.iconst 1) := by decide +kernel
theorem d176_7 : mm_dec q176 7 = some (.isub) := by decide +kernel
theorem d176_8 : mm_dec q176 8 = some (.invokestatic 218) := by decide +kernel
theorem d176_11 : mm_dec q176 11 = some (.ireturn) := by decide +kernel
theorem d177_0 : mm_dec q177 0 = some (.iload_n 2) := by decide +kernel
theorem d177_1 : mm_dec q177 1 = some (.aload_n 0) := by decide +kernel
theorem d177_2 : mm_dec q177 2 = some (.iload_n 1) := by decide +kernel
theorem d177_3 : mm_dec q177 3 = some (.iconst 0) := by decide +kernel
theorem d177_4 : mm_dec q177 4 = some (.iadd) := by decide +kernel
theorem d177_5 : mm_dec q177 5 = some (.iaload) := by decide +kernel
theorem d177_6 : mm_dec q177 6 = some (.isub) := by decide +kernel
theorem d177_7 : mm_dec q177 7 = some (.aload_n 0) := by decide +kernel
theorem d177_8 : mm_dec q177 8 = some (.iload_n 1) := by decide +kernel
theorem d177_9 : mm_dec q177 9 = some (.iconst 2) := by decide +kernel
theorem d177_10 : mm_dec q177 10 = some (.iadd) := by decide +kernel
theorem d177_11 : mm_dec q177 11 = some (.iaload) := by decide +kernel
theorem d177_12 : mm_dec q177 12 = some (.invokestatic 292) := by decide +kernel
theorem d177_15 : mm_dec q177 15 = some (.aload_n 0) := by decide +kernel
theorem d177_16 : mm_dec q177 16 = some (.iload_n 1) := by decide +kernel
theorem d177_17 : mm_dec q177 17 = some (.iconst 1) := by decide +kernel
theorem d177_18 : mm_dec q177 18 = some (.iadd) := by decide +kernel
theorem d177_19 : mm_dec q177 19 = some (.iaload) := by decide +kernel
theorem d177_20 : mm_dec q177 20 = some (.if_icmp .ge 7) := by decide +kernel
theorem d177_23 : mm_dec q177 23 = some (.iconst 1) := by decide +kernel
theorem d177_24 : mm_dec q177 24 = some (.goto 4) := by decide +kernel
theorem d177_27 : mm_dec q177 27 = some (.iconst 0) := by decide +kernel
theorem d177_28 : mm_dec q177 28 = some (.ireturn) := by decide +kernel
theorem d178_0 : mm_dec q178 0 = some (.aload_n 0) := by decide +kernel
theorem d178_1 : mm_dec q178 1 = some (.getfield 295) := by decide +kernel
theorem d178_4 : mm_dec q178 4 = some (.iload_n 1) := by decide +kernel
theorem d178_5 : mm_dec q178 5 = some (.invokestatic 229) := by decide +kernel
theorem d178_8 : mm_dec q178 8 = some (.ifCond .eq 5) := by decide +kernel
theorem d178_11 : mm_dec q178 11 = some (.iconst 1) := by decide +kernel
theorem d178_12 : mm_dec q178 12 = some (.ireturn) := by decide +kernel
theorem d178_13 : mm_dec q178 13 = some (.aload_n 0) := by decide +kernel
theorem d178_14 : mm_dec q178 14 = some (.getfield 298) := by decide +kernel
theorem d178_17 : mm_dec q178 17 = some (.iload_n 1) := by decide +kernel
theorem d178_18 : mm_dec q178 18 = some (.invokestatic 229) := by decide +kernel
theorem d178_21 : mm_dec q178 21 = some (.ifCond .eq 5) := by decide +kernel
theorem d178_24 : mm_dec q178 24 = some (.iconst 0) := by decide +kernel
theorem d178_25 : mm_dec q178 25 = some (.ireturn) := by decide +kernel
theorem d178_26 : mm_dec q178 26 = some (.aload_n 0) := by decide +kernel
theorem d178_27 : mm_dec q178 27 = some (.getfield 58) := by decide +kernel
theorem d178_30 : mm_dec q178 30 = some (.iload_n 1) := by decide +kernel
theorem d178_31 : mm_dec q178 31 = some (.iaload) := by decide +kernel
theorem d178_32 : mm_dec q178 32 = some (.iconst (-1)) := by decide +kernel
theorem d178_33 : mm_dec q178 33 = some (.if_icmp .ne 18) := by decide +kernel
theorem d178_36 : mm_dec q178 36 = some (.aload_n 0) := by decide +kernel
theorem d178_37 : mm_dec q178 37 = some (.getfield 49) := by decide +kernel
theorem d178_40 : mm_dec q178 40 = some (.iconst 4) := by decide +kernel
theorem d178_41 : mm_dec q178 41 = some (.iload_n 1) := by decide +kernel
theorem d178_42 : mm_dec q178 42 = some (.imul) := by decide +kernel
theorem d178_43 : mm_dec q178 43 = some (.aload_n 0) := by decide +kernel
theorem d178_44 : mm_dec q178 44 = some (.getfield 274) := by decide +kernel
theorem d178_47 : mm_dec q178 47 = some (.invokestatic 301) := by decide +kernel
theorem d178_50 : mm_dec q178 50 = some (.ireturn) := by decide +kernel
theorem d178_51 : mm_dec q178 51 = some (.aload_n 0) := by decide +kernel
theorem d178_52 : mm_dec q178 52 = some (.getfield 34) := by decide +kernel
theorem d178_55 : mm_dec q178 55 = some (.iconst 0) := by decide +kernel
theorem d178_56 : mm_dec q178 56 = some (.aload_n 0) := by decide +kernel
theorem d178_57 : mm_dec q178 57 = some (.getfield 274) := by decide +kernel
theorem d178_60 : mm_dec q178 60 = some (.iastore) := by decide +kernel
theorem d178_61 : mm_dec q178 61 = some (.aload_n 0) := by decide +kernel
theorem d178_62 : mm_dec q178 62 = some (.getfield 34) := by decide +kernel
theorem d178_65 : mm_dec q178 65 = some (.iconst 1) := by decide +kernel
theorem d178_66 : mm_dec q178 66 = some (.aload_n 0) := by decide +kernel
theorem d178_67 : mm_dec q178 67 = some (.getfield 274) := by decide +kernel
theorem d178_70 : mm_dec q178 70 = some (.aload_n 0) := by decide +kernel
theorem d178_71 : mm_dec q178 71 = some (.getfield 55) := by decide +kernel
theorem d178_74 : mm_dec q178 74 = some (.iconst 0) := by decide +kernel
theorem d178_75 : mm_dec q178 75 = some (.iaload) := by decide +kernel
theorem d178_76 : mm_dec q178 76 = some (.idiv) := by decide +kernel
theorem d178_77 : mm_dec q178 77 = some (.iastore) := by decide +kernel
theorem d178_78 : mm_dec q178 78 = some (.aload_n 0) := by decide +kernel
theorem d178_79 : mm_dec q178 79 = some (.getfield 34) := by decide +kernel
theorem d178_82 : mm_dec q178 82 = some (.iconst 2) := by decide +kernel
theorem d178_83 : mm_dec q178 83 = some (.aload_n 0) := by decide +kernel
theorem d178_84 : mm_dec q178 84 = some (.getfield 274) := by decide +kernel
theorem d178_87 : mm_dec q178 87 = some (.aload_n 0) := by decide +kernel
theorem d178_88 : mm_dec q178 88 = some (.getfield 55) := by decide +kernel
theorem d178_91 : mm_dec q178 91 = some (.iconst 0) := by decide +kernel
theorem d178_92 : mm_dec q178 92 = some (.iaload) := by decide +kernel
theorem d178_93 : mm_dec q178 93 = some (.irem) := by decide +kernel
theorem d178_94 : mm_dec q178 94 = some (.iastore) := by decide +kernel
theorem d178_95 : mm_dec q178 95 = some (.aload_n 0) := by decide +kernel
theorem d178_96 : mm_dec q178 96 = some (.getfield 34) := by decide +kernel
theorem d178_99 : mm_dec q178 99 = some (.iconst 3) := by decide +kernel
theorem d178_100 : mm_dec q178 100 = some (.aload_n 0) := by decide +kernel
theorem d178_101 : mm_dec q178 101 = some (.getfield 61) := by decide +kernel
theorem d178_104 : mm_dec q178 104 = some (.iconst 0) := by decide +kernel
theorem d178_105 : mm_dec q178 105 = some (.iaload) := by decide +kernel
theorem d178_106 : mm_dec q178 106 = some (.iastore) := by decide +kernel
theorem d178_107 : mm_dec q178 107 = some (.aload_n 0) := by decide +kernel
theorem d178_108 : mm_dec q178 108 = some (.getfield 34) := by decide +kernel
theorem d178_111 : mm_dec q178 111 = some (.iconst 4) := by decide +kernel
theorem d178_112 : mm_dec q178 112 = some (.aload_n 0) := by decide +kernel
theorem d178_113 : mm_dec q178 113 = some (.getfield 49) := by decide +kernel
theorem d178_116 : mm_dec q178 116 = some (.iconst 4) := by decide +kernel
theorem d178_117 : mm_dec q178 117 = some (.iload_n 1) := by decide +kernel
theorem d178_118 : mm_dec q178 118 = some (.imul) := by decide +kernel
theorem d178_119 : mm_dec q178 119 = some (.iconst 3) := by decide +kernel
theorem d178_120 : mm_dec q178 120 = some (.iadd) := by decide +kernel
theorem d178_121 : mm_dec q178 121 = some (.iaload) := by decide +kernel
theorem d178_122 : mm_dec q178 122 = some (.iastore) := by decide +kernel
theorem d178_123 : mm_dec q178 123 = some (.aload_n 0) := by decide +kernel
theorem d178_124 : mm_dec q178 124 = some (.getfield 34) := by decide +kernel
theorem d178_127 : mm_dec q178 127 = some (.iconst 5) := by decide +kernel
theorem d178_128 : mm_dec q178 128 = some (.iload_n 1) := by decide +kernel
theorem d178_129 : mm_dec q178 129 = some (.iastore) := by decide +kernel
theorem d178_130 : mm_dec q178 130 = some (.aload_n 0) := by decide +kernel
theorem d178_131 : mm_dec q178 131 = some (.aload_n 0) := by decide +kernel
theorem d178_132 : mm_dec q178 132 = some (.getfield 58) := by decide +kernel
theorem d178_135 : mm_dec q178 135 = some (.iload_n 1) := by decide +kernel
theorem d178_136 : mm_dec q178 136 = some (.iaload) := by decide +kernel
theorem d178_137 : mm_dec q178 137 = some (.invokevirtual 305) := by decide +kernel
theorem d178_140 : mm_dec q178 140 = some (.ifCond .le 7) := by decide +kernel
theorem d178_143 : mm_dec q178 143 = some (.iconst 1) := by decide +kernel
theorem d178_144 : mm_dec q178 144 = some (.goto 4) := by decide +kernel
theorem d178_147 : mm_dec q178 147 = some (.iconst 0) := by decide +kernel
theorem d178_148 : mm_dec q178 148 = some (.ireturn) := by decide +kernel
theorem d179_0 : mm_dec q179 0 = some (.aload_n 0) := by decide +kernel
theorem d179_1 : mm_dec q179 1 = some (.getfield 271) := by decide +kernel
theorem d179_4 : mm_dec q179 4 = some (.ifCond .eq 19) := by decide +kernel
theorem d179_7 : mm_dec q179 7 = some (.aload_n 0) := by decide +kernel
theorem d179_8 : mm_dec q179 8 = some (.getfield 52) := by decide +kernel
theorem d179_11 : mm_dec q179 11 = some (.iconst 0) := by decide +kernel
theorem d179_12 : mm_dec q179 12 = some (.iload_n 1) := by decide +kernel
theorem d179_13 : mm_dec q179 13 = some (.invokestatic 301) := by decide +kernel
theorem d179_16 : mm_dec q179 16 = some (.ifCond .eq 7) := by decide +kernel
theorem d179_19 : mm_dec q179 19 = some (.iconst 1) := by decide +kernel
theorem d179_20 : mm_dec q179 20 = some (.goto 4) := by decide +kernel
theorem d179_23 : mm_dec q179 23 = some (.iconst 0) := by decide +kernel
theorem d179_24 : mm_dec q179 24 = some (.ireturn) := by decide +kernel
theorem d180_0 : mm_dec q180 0 = some (.aload_n 0) := by decide +kernel
theorem d180_1 : mm_dec q180 1 = some (.iload_n 1) := by decide +kernel
theorem d180_2 : mm_dec q180 2 = some (.invokevirtual 308) := by decide +kernel
theorem d180_5 : mm_dec q180 5 = some (.ifCond .eq 37) := by decide +kernel
theorem d180_8 : mm_dec q180 8 = some (.aload_n 0) := by decide +kernel
theorem d180_9 : mm_dec q180 9 = some (.aload_n 0) := by decide +kernel
theorem d180_10 : mm_dec q180 10 = some (.getfield 274) := by decide +kernel
theorem d180_13 : mm_dec q180 13 = some (.invokevirtual 311) := by decide +kernel
theorem d180_16 : mm_dec q180 16 = some (.ifCond .eq 22) := by decide +kernel
theorem d180_19 : mm_dec q180 19 = some (.aload_n 0) := by decide +kernel
theorem d180_20 : mm_dec q180 20 = some (.getfield 49) := by decide +kernel
theorem d180_23 : mm_dec q180 23 = some (.iconst 4) := by decide +kernel
theorem d180_24 : mm_dec q180 24 = some (.iload_n 1) := by decide +kernel
theorem d180_25 : mm_dec q180 25 = some (.imul) := by decide +kernel
theorem d180_26 : mm_dec q180 26 = some (.iconst 3) := by decide +kernel
theorem d180_27 : mm_dec q180 27 = some (.iadd) := by decide +kernel
theorem d180_28 : mm_dec q180 28 = some (.iaload) := by decide +kernel
theorem d180_29 : mm_dec q180 29 = some (.aload_n 0) := by decide +kernel
theorem d180_30 : mm_dec q180 30 = some (.getfield 52) := by decide +kernel
theorem d180_33 : mm_dec q180 33 = some (.iconst 3) := by decide +kernel
theorem d180_34 : mm_dec q180 34 = some (.iaload) := by decide +kernel
theorem d180_35 : mm_dec q180 35 = some (.if_icmp .gt 7) := by decide +kernel
theorem d180_38 : mm_dec q180 38 = some (.iconst 1) := by decide +kernel
theorem d180_39 : mm_dec q180 39 = some (.goto 4) := by decide +kernel
theorem d180_42 : mm_dec q180 42 = some (.iconst 0) := by decide +kernel
theorem d180_43 : mm_dec q180 43 = some (.ireturn) := by decide +kernel
theorem d181_0 : mm_dec q181 0 = some (.iconst 0) := by decide +kernel
theorem d181_1 : mm_dec q181 1 = some (.istore_n 1) := by decide +kernel
theorem d181_2 : mm_dec q181 2 = some (.iload_n 1) := by decide +kernel
theorem d181_3 : mm_dec q181 3 = some (.aload_n 0) := by decide +kernel
theorem d181_4 : mm_dec q181 4 = some (.getfield 265) := by decide +kernel
theorem d181_7 : mm_dec q181 7 = some (.if_icmp .ge 19) := by decide +kernel
theorem d181_10 : mm_dec q181 10 = some (.aload_n 0) := by decide +kernel
theorem d181_11 : mm_dec q181 11 = some (.iload_n 1) := by decide +kernel
theorem d181_12 : mm_dec q181 12 = some (.invokevirtual 314) := by decide +kernel
theorem d181_15 : mm_dec q181 15 = some (.ifCond .eq 5) := by decide +kernel
theorem d181_18 : mm_dec q181 18 = some (.iconst 1) := by decide +kernel
theorem d181_19 : mm_dec q181 19 = some (.ireturn) := by decide +kernel
theorem d181_20 : mm_dec q181 20 = some (.iinc 1 1) := by decide +kernel
theorem d181_23 : mm_dec q181 23 = some (.goto (-21)) := by decide +kernel
theorem d181_26 : mm_dec q181 26 = some (.iconst 0) := by decide +kernel
theorem d181_27 : mm_dec q181 27 = some (.ireturn) := by decide +kernel
theorem d182_0 : mm_dec q182 0 = some (.aload_n 0) := by decide +kernel
theorem d182_1 : mm_dec q182 1 = some (.aload_n 0) := by decide +kernel
theorem d182_2 : mm_dec q182 2 = some (.invokevirtual 317) := by decide +kernel
theorem d182_5 : mm_dec q182 5 = some (.ifCond .ne 7) := by decide +kernel
theorem d182_8 : mm_dec q182 8 = some (.iload_n 1) := by decide +kernel
theorem d182_9 : mm_dec q182 9 = some (.ifCond .eq 7) := by decide +kernel
theorem d182_12 : mm_dec q182 12 = some (.iconst 1) := by decide +kernel
theorem d182_13 : mm_dec q182 13 = some (.goto 4) := by decide +kernel
theorem d182_16 : mm_dec q182 16 = some (.iconst 0) := by decide +kernel
theorem d182_17 : mm_dec q182 17 = some (.putfield 321) := by decide +kernel
theorem d182_20 : mm_dec q182 20 = some (.iconst 0) := by decide +kernel
theorem d182_21 : mm_dec q182 21 = some (.istore_n 2) := by decide +kernel
theorem d182_22 : mm_dec q182 22 = some (.iload_n 2) := by decide +kernel
theorem d182_23 : mm_dec q182 23 = some (.aload_n 0) := by decide +kernel
theorem d182_24 : mm_dec q182 24 = some (.getfield 268) := by decide +kernel
theorem d182_27 : mm_dec q182 27 = some (.if_icmp .ge 151) := by decide +kernel
theorem d182_30 : mm_dec q182 30 = some (.aload_n 0) := by decide +kernel
theorem d182_31 : mm_dec q182 31 = some (.getfield 55) := by decide +kernel
theorem d182_34 : mm_dec q182 34 = some (.iconst 3) := by decide +kernel
theorem d182_35 : mm_dec q182 35 = some (.iload_n 2) := by decide +kernel
theorem d182_36 : mm_dec q182 36 = some (.imul) := by decide +kernel
theorem d182_37 : mm_dec q182 37 = some (.iaload) := by decide +kernel
theorem d182_38 : mm_dec q182 38 = some (.istore_n 3) := by decide +kernel
theorem d182_39 : mm_dec q182 39 = some (.aload_n 0) := by decide +kernel
theorem d182_40 : mm_dec q182 40 = some (.getfield 274) := by decide +kernel
theorem d182_43 : mm_dec q182 43 = some (.iload_n 3) := by decide +kernel
theorem d182_44 : mm_dec q182 44 = some (.irem) := by decide +kernel
theorem d182_45 : mm_dec q182 45 = some (.ifCond .ne 35) := by decide +kernel
theorem d182_48 : mm_dec q182 48 = some (.aload_n 0) := by decide +kernel
theorem d182_49 : mm_dec q182 49 = some (.getfield 274) := by decide +kernel
theorem d182_52 : mm_dec q182 52 = some (.iload_n 3) := by decide +kernel
theorem d182_53 : mm_dec q182 53 = some (.idiv) := by decide +kernel
theorem d182_54 : mm_dec q182 54 = some (.bipush 12) := by decide +kernel
theorem d182_56 : mm_dec q182 56 = some (.irem) := by decide +kernel
theorem d182_57 : mm_dec q182 57 = some (.istore 4) := by decide +kernel
theorem d182_59 : mm_dec q182 59 = some (.aload_n 0) := by decide +kernel
theorem d182_60 : mm_dec q182 60 = some (.getfield 61) := by decide +kernel
theorem d182_63 : mm_dec q182 63 = some (.iload_n 2) := by decide +kernel
theorem d182_64 : mm_dec q182 64 = some (.dup2) := by decide +kernel
theorem d182_65 : mm_dec q182 65 = some (.iaload) := by decide +kernel
theorem d182_66 : mm_dec q182 66 = some (.iload 4) := by decide +kernel
theorem d182_68 : mm_dec q182 68 = some (.ifCond .ne 8) := by decide +kernel
theorem d182_71 : mm_dec q182 71 = some (.bipush 12) := by decide +kernel
theorem d182_73 : mm_dec q182 73 = some (.goto 5) := by decide +kernel
theorem d182_76 : mm_dec q182 76 = some (.iload 4) := by decide +kernel
theorem d182_78 : mm_dec q182 78 = some (.iadd) := by decide +kernel
theorem d182_79 : mm_dec q182 79 = some (.iastore) := by decide +kernel
theorem d182_80 : mm_dec q182 80 = some (.aload_n 0) := by decide +kernel
theorem d182_81 : mm_dec q182 81 = some (.getfield 67) := by decide +kernel
theorem d182_84 : mm_dec q182 84 = some (.iload_n 2) := by decide +kernel
theorem d182_85 : mm_dec q182 85 = some (.aload_n 0) := by decide +kernel
theorem d182_86 : mm_dec q182 86 = some (.getfield 61) := by decide +kernel
theorem d182_89 : mm_dec q182 89 = some (.iload_n 2) := by decide +kernel
theorem d182_90 : mm_dec q182 90 = some (.iaload) := by decide +kernel
theorem d182_91 : mm_dec q182 91 = some (.ifCond .le 33) := by decide +kernel
theorem d182_94 : mm_dec q182 94 = some (.aload_n 0) := by decide +kernel
theorem d182_95 : mm_dec q182 95 = some (.getfield 321) := by decide +kernel
theorem d182_98 : mm_dec q182 98 = some (.aload_n 0) := by decide +kernel
theorem d182_99 : mm_dec q182 99 = some (.getfield 55) := by decide +kernel
theorem d182_102 : mm_dec q182 102 = some (.iconst 3) := by decide +kernel
theorem d182_103 : mm_dec q182 103 = some (.iload_n 2) := by decide +kernel
theorem d182_104 : mm_dec q182 104 = some (.imul) := by decide +kernel
theorem d182_105 : mm_dec q182 105 = some (.iconst 1) := by decide +kernel
theorem d182_106 : mm_dec q182 106 = some (.iadd) := by decide +kernel
theorem d182_107 : mm_dec q182 107 = some (.iaload) := by decide +kernel
theorem d182_108 : mm_dec q182 108 = some (.iconst 1) := by decide +kernel
theorem d182_109 : mm_dec q182 109 = some (.if_icmp .ne 7) := by decide +kernel
theorem d182_112 : mm_dec q182 112 = some (.iconst 1) := by decide +kernel
theorem d182_113 : mm_dec q182 113 = some (.goto 4) := by decide +kernel
theorem d182_116 : mm_dec q182 116 = some (.iconst 0) := by decide +kernel
theorem d182_117 : mm_dec q182 117 = some (.if_icmp .ne 7) := by decide +kernel
theorem d182_120 : mm_dec q182 120 = some (.iconst 1) := by decide +kernel
theorem d182_121 : mm_dec q182 121 = some (.goto 4) := by decide +kernel
theorem d182_124 : mm_dec q182 124 = some (.iconst 0) := by decide +kernel
theorem d182_125 : mm_dec q182 125 = some (.bastore) := by decide +kernel
theorem d182_126 : mm_dec q182 126 = some (.aload_n 0) := by decide +kernel
theorem d182_127 : mm_dec q182 127 = some (.getfield 61) := by decide +kernel
theorem d182_130 : mm_dec q182 130 = some (.iload_n 2) := by decide +kernel
theorem d182_131 : mm_dec q182 131 = some (.dup2) := by decide +kernel
theorem d182_132 : mm_dec q182 132 = some (.iaload) := by decide +kernel
theorem d182_133 : mm_dec q182 133 = some (.aload_n 0) := by decide +kernel
theorem d182_134 : mm_dec q182 134 = some (.getfield 67) := by decide +kernel
theorem d182_137 : mm_dec q182 137 = some (.iload_n 2) := by decide +kernel
theorem d182_138 : mm_dec q182 138 = some (.baload) := by decide +kernel
theorem d182_139 : mm_dec q182 139 = some (.ifCond .eq 7) := by decide +kernel
theorem d182_142 : mm_dec q182 142 = some (.iconst 1) := by decide +kernel
theorem d182_143 : mm_dec q182 143 = some (.goto 4) := by decide +kernel
theorem d182_146 : mm_dec q182 146 = some (.iconst 0) := by decide +kernel
theorem d182_147 : mm_dec q182 147 = some (.isub) := by decide +kernel
theorem d182_148 : mm_dec q182 148 = some (.iastore) := by decide +kernel
theorem d182_149 : mm_dec q182 149 = some (.aload_n 0) := by decide +kernel
theorem d182_150 : mm_dec q182 150 = some (.getfield 64) := by decide +kernel
theorem d182_153 : mm_dec q182 153 = some (.iload_n 2) := by decide +kernel
theorem d182_154 : mm_dec q182 154 = some (.dup2) := by decide +kernel
theorem d182_155 : mm_dec q182 155 = some (.iaload) := by decide +kernel
theorem d182_156 : mm_dec q182 156 = some (.aload_n 0) := by decide +kernel
theorem d182_157 : mm_dec q182 157 = some (.getfield 67) := by decide +kernel
theorem d182_160 : mm_dec q182 160 = some (.iload_n 2) := by decide +kernel
theorem d182_161 : mm_dec q182 161 = some (.baload) := by decide +kernel
theorem d182_162 : mm_dec q182 162 = some (.ifCond .eq 7) := by decide +kernel
theorem d182_165 : mm_dec q182 165 = some (.iconst 1) := by decide +kernel
theorem d182_166 : mm_dec q182 166 = some (.goto 4) := by decide +kernel
theorem d182_169 : mm_dec q182 169 = some (.iconst 0) := by decide +kernel
theorem d182_170 : mm_dec q182 170 = some (.iadd) := by decide +kernel
theorem d182_171 : mm_dec q182 171 = some (.iastore) := by decide +kernel
theorem d182_172 : mm_dec q182 172 = some (.iinc 2 1) := by decide +kernel
theorem d182_175 : mm_dec q182 175 = some (.goto (-153)) := by decide +kernel
theorem d182_178 : mm_dec q182 178 = some (.aload_n 0) := by decide +kernel
theorem d182_179 : mm_dec q182 179 = some (.dup) := by decide +kernel
theorem d182_180 : mm_dec q182 180 = some (.getfield 274) := by decide +kernel
theorem d182_183 : mm_dec q182 183 = some (.iconst 1) := by decide +kernel
theorem d182_184 : mm_dec q182 184 = some (.iadd) := by decide +kernel
theorem d182_185 : mm_dec q182 185 = some (.putfield 274) := by decide +kernel
theorem d182_188 : mm_dec q182 188 = some (.return_) := by decide +kernel
theorem d183_0 : mm_dec q183 0 = some (.aload_n 0) := by decide +kernel
theorem d183_1 : mm_dec q183 1 = some (.aload_n 0) := by decide +kernel
theorem d183_2 : mm_dec q183 2 = some (.iload_n 1) := by decide +kernel
theorem d183_3 : mm_dec q183 3 = some (.invokevirtual 324) := by decide +kernel
theorem d183_6 : mm_dec q183 6 = some (.ifCond .eq 17) := by decide +kernel
theorem d183_9 : mm_dec q183 9 = some (.iload_n 2) := by decide +kernel
theorem d183_10 : mm_dec q183 10 = some (.iconst 0) := by decide +kernel
theorem d183_11 : mm_dec q183 11 = some (.bipush 6) := by decide +kernel
theorem d183_13 : mm_dec q183 13 = some (.invokestatic 218) := by decide +kernel
theorem d183_16 : mm_dec q183 16 = some (.ifCond .eq 7) := by decide +kernel
theorem d183_19 : mm_dec q183 19 = some (.iconst 0) := by decide +kernel
theorem d183_20 : mm_dec q183 20 = some (.goto 4) := by decide +kernel
theorem d183_23 : mm_dec q183 23 = some (.iconst 1) := by decide +kernel
theorem d183_24 : mm_dec q183 24 = some (.putfield 102) := by decide +kernel
theorem d183_27 : mm_dec q183 27 = some (.aload_n 0) := by decide +kernel
theorem d183_28 : mm_dec q183 28 = some (.getfield 102) := by decide +kernel
theorem d183_31 : mm_dec q183 31 = some (.iconst 1) := by decide +kernel
theorem d183_32 : mm_dec q183 32 = some (.if_icmp .ne 5) := by decide +kernel
theorem d183_35 : mm_dec q183 35 = some (.iconst 0) := by decide +kernel
theorem d183_36 : mm_dec q183 36 = some (.ireturn) := by decide +kernel
theorem d183_37 : mm_dec q183 37 = some (.iload_n 2) := by decide +kernel
theorem d183_38 : mm_dec q183 38 = some (.iconst 4) := by decide +kernel
theorem d183_39 : mm_dec q183 39 = some (.if_icmp .ge 16) := by decide +kernel
theorem d183_42 : mm_dec q183 42 = some (.aload_n 0) := by decide +kernel
theorem d183_43 : mm_dec q183 43 = some (.getfield 49) := by decide +kernel
theorem d183_46 : mm_dec q183 46 = some (.iconst 4) := by decide +kernel
theorem d183_47 : mm_dec q183 47 = some (.iload_n 1) := by decide +kernel
theorem d183_48 : mm_dec q183 48 = some (.imul) := by decide +kernel
theorem d183_49 : mm_dec q183 49 = some (.iload_n 2) := by decide +kernel
theorem d183_50 : mm_dec q183 50 = some (.iadd) := by decide +kernel
theorem d183_51 : mm_dec q183 51 = some (.iaload) := by decide +kernel
theorem d183_52 : mm_dec q183 52 = some (.goto 51) := by decide +kernel
theorem d183_55 : mm_dec q183 55 = some (.iload_n 2) := by decide +kernel
theorem d183_56 : mm_dec q183 56 = some (.iconst 4) := by decide +kernel
theorem d183_57 : mm_dec q183 57 = some (.if_icmp .ne 12) := by decide +kernel
theorem d183_60 : mm_dec q183 60 = some (.aload_n 0) := by decide +kernel
theorem d183_61 : mm_dec q183 61 = some (.getfield 58) := by decide +kernel
theorem d183_64 : mm_dec q183 64 = some (.iload_n 1) := by decide +kernel
theorem d183_65 : mm_dec q183 65 = some (.iaload) := by decide +kernel
theorem d183_66 : mm_dec q183 66 = some (.goto 37) := by decide +kernel
theorem d183_69 : mm_dec q183 69 = some (.iload_n 2) := by decide +kernel
theorem d183_70 : mm_dec q183 70 = some (.iconst 5) := by decide +kernel
theorem d183_71 : mm_dec q183 71 = some (.if_icmp .ne 19) := by decide +kernel
theorem d183_74 : mm_dec q183 74 = some (.aload_n 0) := by decide +kernel
theorem d183_75 : mm_dec q183 75 = some (.iload_n 1) := by decide +kernel
theorem d183_76 : mm_dec q183 76 = some (.invokevirtual 308) := by decide +kernel
theorem d183_79 : mm_dec q183 79 = some (.ifCond .eq 7) := by decide +kernel
theorem d183_82 : mm_dec q183 82 = some (.iconst 1) := by decide +kernel
theorem d183_83 : mm_dec q183 83 = some (.goto 20) := by decide +kernel
theorem d183_86 : mm_dec q183 86 = some (.iconst 0) := by decide +kernel
theorem d183_87 : mm_dec q183 87 = some (.goto 16) := by decide +kernel
theorem d183_90 : mm_dec q183 90 = some (.aload_n 0) := by decide +kernel
theorem d183_91 : mm_dec q183 91 = some (.iload_n 1) := by decide +kernel
theorem d183_92 : mm_dec q183 92 = some (.invokevirtual 314) := by decide +kernel
theorem d183_95 : mm_dec q183 95 = some (.ifCond .eq 7) := by decide +kernel
theorem d183_98 : mm_dec q183 98 = some (.iconst 1) := by decide +kernel
theorem d183_99 : mm_dec q183 99 = some (.goto 4) := by decide +kernel
theorem d183_102 : mm_dec q183 102 = some (.iconst 0) := by decide +kernel
theorem d183_103 : mm_dec q183 103 = some (.ireturn) := by decide +kernel
theorem d184_0 : mm_dec q184 0 = some (.aload_n 0) := by decide +kernel
theorem d184_1 : mm_dec q184 1 = some (.iload_n 1) := by decide +kernel
theorem d184_2 : mm_dec q184 2 = some (.invokevirtual 327) := by decide +kernel
theorem d184_5 : mm_dec q184 5 = some (.ifCond .eq 12) := by decide +kernel
theorem d184_8 : mm_dec q184 8 = some (.iload_n 2) := by decide +kernel
theorem d184_9 : mm_dec q184 9 = some (.iconst 0) := by decide +kernel
theorem d184_10 : mm_dec q184 10 = some (.iconst 4) := by decide +kernel
theorem d184_11 : mm_dec q184 11 = some (.invokestatic 218) := by decide +kernel
theorem d184_14 : mm_dec q184 14 = some (.ifCond .ne 5) := by decide +kernel
theorem d184_17 : mm_dec q184 17 = some (.iconst (-1)) := by decide +kernel
theorem d184_18 : mm_dec q184 18 = some (.ireturn) := by decide +kernel
theorem d184_19 : mm_dec q184 19 = some (.iload_n 2) := by decide +kernel
theorem d184_20 : mm_dec q184 20 = some (.iconst 3) := by decide +kernel
theorem d184_21 : mm_dec q184 21 = some (.if_icmp .ge 16) := by decide +kernel
theorem d184_24 : mm_dec q184 24 = some (.aload_n 0) := by decide +kernel
theorem d184_25 : mm_dec q184 25 = some (.getfield 55) := by decide +kernel
theorem d184_28 : mm_dec q184 28 = some (.iconst 3) := by decide +kernel
theorem d184_29 : mm_dec q184 29 = some (.iload_n 1) := by decide +kernel
theorem d184_30 : mm_dec q184 30 = some (.imul) := by decide +kernel
theorem d184_31 : mm_dec q184 31 = some (.iload_n 2) := by decide +kernel
theorem d184_32 : mm_dec q184 32 = some (.iadd) := by decide +kernel
theorem d184_33 : mm_dec q184 33 = some (.iaload) := by decide +kernel
theorem d184_34 : mm_dec q184 34 = some (.goto 23) := by decide +kernel
theorem d184_37 : mm_dec q184 37 = some (.iload_n 2) := by decide +kernel
theorem d184_38 : mm_dec q184 38 = some (.iconst 3) := by decide +kernel
theorem d184_39 : mm_dec q184 39 = some (.if_icmp .ne 12) := by decide +kernel
theorem d184_42 : mm_dec q184 42 = some (.aload_n 0) := by decide +kernel
theorem d184_43 : mm_dec q184 43 = some (.getfield 61) := by decide +kernel
theorem d184_46 : mm_dec q184 46 = some (.iload_n 1) := by decide +kernel
theorem d184_47 : mm_dec q184 47 = some (.iaload) := by decide +kernel
theorem d184_48 : mm_dec q184 48 = some (.goto 9) := by decide +kernel
theorem d184_51 : mm_dec q184 51 = some (.aload_n 0) := by decide +kernel
theorem d184_52 : mm_dec q184 52 = some (.getfield 64) := by decide +kernel
theorem d184_55 : mm_dec q184 55 = some (.iload_n 1) := by decide +kernel
theorem d184_56 : mm_dec q184 56 = some (.iaload) := by decide +kernel
theorem d184_57 : mm_dec q184 57 = some (.ireturn) := by decide +kernel
theorem d185_0 : mm_dec q185 0 = some (.aload_n 0) := by decide +kernel
theorem d185_1 : mm_dec q185 1 = some (.getfield 265) := by decide +kernel
theorem d185_4 : mm_dec q185 4 = some (.ifCond .eq 7) := by decide +kernel
theorem d185_7 : mm_dec q185 7 = some (.iload_n 1) := by decide +kernel
theorem d185_8 : mm_dec q185 8 = some (.ifCond .ge 7) := by decide +kernel
theorem d185_11 : mm_dec q185 11 = some (.iconst (-1)) := by decide +kernel
theorem d185_12 : mm_dec q185 12 = some (.goto 16) := by decide +kernel
theorem d185_15 : mm_dec q185 15 = some (.aload_n 0) := by decide +kernel
theorem d185_16 : mm_dec q185 16 = some (.iload_n 1) := by decide +kernel
theorem d185_17 : mm_dec q185 17 = some (.invokevirtual 311) := by decide +kernel
theorem d185_20 : mm_dec q185 20 = some (.ifCond .eq 7) := by decide +kernel
theorem d185_23 : mm_dec q185 23 = some (.iconst 1) := by decide +kernel
theorem d185_24 : mm_dec q185 24 = some (.goto 4) := by decide +kernel
theorem d185_27 : mm_dec q185 27 = some (.iconst 0) := by decide +kernel
theorem d185_28 : mm_dec q185 28 = some (.ireturn) := by decide +kernel
theorem d186_0 : mm_dec q186 0 = some (.aload_n 0) := by decide +kernel
theorem d186_1 : mm_dec q186 1 = some (.iload_n 1) := by decide +kernel
theorem d186_2 : mm_dec q186 2 = some (.invokevirtual 324) := by decide +kernel
theorem d186_5 : mm_dec q186 5 = some (.ifCond .eq 54) := by decide +kernel
theorem d186_8 : mm_dec q186 8 = some (.iload_n 2) := by decide +kernel
theorem d186_9 : mm_dec q186 9 = some (.iconst 0) := by decide +kernel
theorem d186_10 : mm_dec q186 10 = some (.iconst 3) := by decide +kernel
theorem d186_11 : mm_dec q186 11 = some (.invokestatic 218) := by decide +kernel
theorem d186_14 : mm_dec q186 14 = some (.ifCond .eq 45) := by decide +kernel
theorem d186_17 : mm_dec q186 17 = some (.iload_n 3) := by decide +kernel
theorem d186_18 : mm_dec q186 18 = some (.iload_n 2) := by decide +kernel
theorem d186_19 : mm_dec q186 19 = some (.iconst 3) := by decide +kernel
theorem d186_20 : mm_dec q186 20 = some (.if_icmp .ne 7) := by decide +kernel
theorem d186_23 : mm_dec q186 23 = some (.iconst (-1)) := by decide +kernel
theorem d186_24 : mm_dec q186 24 = some (.goto 9) := by decide +kernel
theorem d186_27 : mm_dec q186 27 = some (.bipush 112) := by decide +kernel
theorem d186_29 : mm_dec q186 29 = some (.iload_n 2) := by decide +kernel
theorem d186_30 : mm_dec q186 30 = some (.invokestatic 233) := by decide +kernel
theorem d186_33 : mm_dec q186 33 = some (.iload_n 2) := by decide +kernel
theorem d186_34 : mm_dec q186 34 = some (.iconst 3) := by decide +kernel
theorem d186_35 : mm_dec q186 35 = some (.if_icmp .ne 12) := by decide +kernel
theorem d186_38 : mm_dec q186 38 = some (.aload_n 0) := by decide +kernel
theorem d186_39 : mm_dec q186 39 = some (.getfield 289) := by decide +kernel
theorem d186_42 : mm_dec q186 42 = some (.iconst 1) := by decide +kernel
theorem d186_43 : mm_dec q186 43 = some (.isub) := by decide +kernel
theorem d186_44 : mm_dec q186 44 = some (.goto 9) := by decide +kernel
theorem d186_47 : mm_dec q186 47 = some (.bipush 112) := by decide +kernel
theorem d186_49 : mm_dec q186 49 = some (.iload_n 2) := by decide +kernel
theorem d186_50 : mm_dec q186 50 = some (.invokestatic 236) := by decide +kernel
theorem d186_53 : mm_dec q186 53 = some (.invokestatic 218) := by decide +kernel
theorem d186_56 : mm_dec q186 56 = some (.ifCond .ne 5) := by decide +kernel
theorem d186_59 : mm_dec q186 59 = some (.iconst 0) := by decide +kernel
theorem d186_60 : mm_dec q186 60 = some (.ireturn) := by decide +kernel
theorem d186_61 : mm_dec q186 61 = some (.iload_n 2) := by decide +kernel
theorem d186_62 : mm_dec q186 62 = some (.iconst 3) := by decide +kernel
theorem d186_63 : mm_dec q186 63 = some (.if_icmp .ne 13) := by decide +kernel
theorem d186_66 : mm_dec q186 66 = some (.aload_n 0) := by decide +kernel
theorem d186_67 : mm_dec q186 67 = some (.getfield 58) := by decide +kernel
theorem d186_70 : mm_dec q186 70 = some (.iload_n 1) := by decide +kernel
theorem d186_71 : mm_dec q186 71 = some (.iload_n 3) := by decide +kernel
theorem d186_72 : mm_dec q186 72 = some (.iastore) := by decide +kernel
theorem d186_73 : mm_dec q186 73 = some (.goto 14) := by decide +kernel
theorem d186_76 : mm_dec q186 76 = some (.aload_n 0) := by decide +kernel
theorem d186_77 : mm_dec q186 77 = some (.getfield 49) := by decide +kernel
theorem d186_80 : mm_dec q186 80 = some (.iconst 4) := by decide +kernel
theorem d186_81 : mm_dec q186 81 = some (.iload_n 1) := by decide +kernel
theorem d186_82 : mm_dec q186 82 = some (.imul) := by decide +kernel
theorem d186_83 : mm_dec q186 83 = some (.iload_n 2) := by decide +kernel
theorem d186_84 : mm_dec q186 84 = some (.iadd) := by decide +kernel
theorem d186_85 : mm_dec q186 85 = some (.iload_n 3) := by decide +kernel
theorem d186_86 : mm_dec q186 86 = some (.iastore) := by decide +kernel
theorem d186_87 : mm_dec q186 87 = some (.iconst 1) := by decide +kernel
theorem d186_88 : mm_dec q186 88 = some (.ireturn) := by decide +kernel
theorem d187_0 : mm_dec q187 0 = some (.iload_n 1) := by decide +kernel
theorem d187_1 : mm_dec q187 1 = some (.iconst 0) := by decide +kernel
theorem d187_2 : mm_dec q187 2 = some (.bipush 100) := by decide +kernel
theorem d187_4 : mm_dec q187 4 = some (.invokestatic 218) := by decide +kernel
theorem d187_7 : mm_dec q187 7 = some (.ifCond .ne 5) := by decide +kernel
theorem d187_10 : mm_dec q187 10 = some (.iconst 0) := by decide +kernel
theorem d187_11 : mm_dec q187 11 = some (.ireturn) := by decide +kernel
theorem d187_12 : mm_dec q187 12 = some (.aload_n 0) := by decide +kernel
theorem d187_13 : mm_dec q187 13 = some (.iload_n 1) := by decide +kernel
theorem d187_14 : mm_dec q187 14 = some (.putfield 330) := by decide +kernel
theorem d187_17 : mm_dec q187 17 = some (.iconst 1) := by decide +kernel
theorem d187_18 : mm_dec q187 18 = some (.ireturn) := by decide +kernel
theorem d188_0 : mm_dec q188 0 = some (.aload_n 0) := by decide +kernel
theorem d188_1 : mm_dec q188 1 = some (.lload_n 1) := by decide +kernel
theorem d188_2 : mm_dec q188 2 = some (.putfield 333) := by decide +kernel
theorem d188_5 : mm_dec q188 5 = some (.iconst 1) := by decide +kernel
theorem d188_6 : mm_dec q188 6 = some (.ireturn) := by decide +kernel
theorem d189_0 : mm_dec q189 0 = some (.aload_n 0) := by decide +kernel
theorem d189_1 : mm_dec q189 1 = some (.getfield 277) := by decide +kernel
theorem d189_4 : mm_dec q189 4 = some (.bipush 60) := by decide +kernel
theorem d189_6 : mm_dec q189 6 = some (.if_icmp .ne 83) := by decide +kernel
theorem d189_9 : mm_dec q189 9 = some (.iconst 2) := by decide +kernel
theorem d189_10 : mm_dec q189 10 = some (.istore_n 1) := by decide +kernel
theorem d189_11 : mm_dec q189 11 = some (.iload_n 1) := by decide +kernel
theorem d189_12 : mm_dec q189 12 = some (.bipush 120) := by decide +kernel
theorem d189_14 : mm_dec q189 14 = some (.if_icmp .ge 37) := by decide +kernel
theorem d189_17 : mm_dec q189 17 = some (.aload_n 0) := by decide +kernel
theorem d189_18 : mm_dec q189 18 = some (.getfield 71) := by decide +kernel
theorem d189_21 : mm_dec q189 21 = some (.iload_n 1) := by decide +kernel
theorem d189_22 : mm_dec q189 22 = some (.iconst 2) := by decide +kernel
theorem d189_23 : mm_dec q189 23 = some (.isub) := by decide +kernel
theorem d189_24 : mm_dec q189 24 = some (.aload_n 0) := by decide +kernel
theorem d189_25 : mm_dec q189 25 = some (.getfield 71) := by decide +kernel
theorem d189_28 : mm_dec q189 28 = some (.iload_n 1) := by decide +kernel
theorem d189_29 : mm_dec q189 29 = some (.iaload) := by decide +kernel
theorem d189_30 : mm_dec q189 30 = some (.iastore) := by decide +kernel
theorem d189_31 : mm_dec q189 31 = some (.aload_n 0) := by decide +kernel
theorem d189_32 : mm_dec q189 32 = some (.getfield 74) := by decide +kernel
theorem d189_35 : mm_dec q189 35 = some (.iload_n 1) := by decide +kernel
theorem d189_36 : mm_dec q189 36 = some (.iconst 2) := by decide +kernel
theorem d189_37 : mm_dec q189 37 = some (.isub) := by decide +kernel
theorem d189_38 : mm_dec q189 38 = some (.aload_n 0) := by decide +kernel
theorem d189_39 : mm_dec q189 39 = some (.getfield 74) := by decide +kernel
theorem d189_42 : mm_dec q189 42 = some (.iload_n 1) := by decide +kernel
theorem d189_43 : mm_dec q189 43 = some (.iaload) := by decide +kernel
theorem d189_44 : mm_dec q189 44 = some (.iastore) := by decide +kernel
theorem d189_45 : mm_dec q189 45 = some (.iinc 1 1) := by decide +kernel
theorem d189_48 : mm_dec q189 48 = some (.goto (-37)) := by decide +kernel
theorem d189_51 : mm_dec q189 51 = some (.iconst 1) := by decide +kernel
theorem d189_52 : mm_dec q189 52 = some (.istore_n 1) := by decide +kernel
theorem d189_53 : mm_dec q189 53 = some (.iload_n 1) := by decide +kernel
theorem d189_54 : mm_dec q189 54 = some (.bipush 60) := by decide +kernel
theorem d189_56 : mm_dec q189 56 = some (.if_icmp .ge 23) := by decide +kernel
theorem d189_59 : mm_dec q189 59 = some (.aload_n 0) := by decide +kernel
theorem d189_60 : mm_dec q189 60 = some (.getfield 77) := by decide +kernel
theorem d189_63 : mm_dec q189 63 = some (.iload_n 1) := by decide +kernel
theorem d189_64 : mm_dec q189 64 = some (.iconst 1) := by decide +kernel
theorem d189_65 : mm_dec q189 65 = some (.isub) := by decide +kernel
theorem d189_66 : mm_dec q189 66 = some (.aload_n 0) := by decide +kernel
theorem d189_67 : mm_dec q189 67 = some (.getfield 77) := by decide +kernel
theorem d189_70 : mm_dec q189 70 = some (.iload_n 1) := by decide +kernel
theorem d189_71 : mm_dec q189 71 = some (.laload) := by decide +kernel
theorem d189_72 : mm_dec q189 72 = some (.lastore) := by decide +kernel
theorem d189_73 : mm_dec q189 73 = some (.iinc 1 1) := by decide +kernel
theorem d189_76 : mm_dec q189 76 = some (.goto (-23)) := by decide +kernel
theorem d189_79 : mm_dec q189 79 = some (.aload_n 0) := by decide +kernel
theorem d189_80 : mm_dec q189 80 = some (.dup) := by decide +kernel
theorem d189_81 : mm_dec q189 81 = some (.getfield 277) := by decide +kernel
theorem d189_84 : mm_dec q189 84 = some (.iconst 1) := by decide +kernel
theorem d189_85 : mm_dec q189 85 = some (.isub) := by decide +kernel
theorem d189_86 : mm_dec q189 86 = some (.putfield 277) := by decide +kernel
theorem d189_89 : mm_dec q189 89 = some (.iconst 0) := by decide +kernel
theorem d189_90 : mm_dec q189 90 = some (.istore_n 1) := by decide +kernel
theorem d189_91 : mm_dec q189 91 = some (.iload_n 1) := by decide +kernel
theorem d189_92 : mm_dec q189 92 = some (.iconst 2) := by decide +kernel
theorem d189_93 : mm_dec q189 93 = some (.if_icmp .ge 47) := by decide +kernel
theorem d189_96 : mm_dec q189 96 = some (.aload_n 0) := by decide +kernel
theorem d189_97 : mm_dec q189 97 = some (.getfield 71) := by decide +kernel
theorem d189_100 : mm_dec q189 100 = some (.iconst 2) := by decide +kernel
theorem d189_101 : mm_dec q189 101 = some (.aload_n 0) := by decide +kernel
theorem d189_102 : mm_dec q189 102 = some (.getfield 277) := by decide +kernel
theorem d189_105 : mm_dec q189 105 = some (.imul) := by decide +kernel
theorem d189_106 : mm_dec q189 106 = some (.iload_n 1) := by decide +kernel
theorem d189_107 : mm_dec q189 107 = some (.iadd) := by decide +kernel
theorem d189_108 : mm_dec q189 108 = some (.aload_n 0) := by decide +kernel
theorem d189_109 : mm_dec q189 109 = some (.getfield 61) := by decide +kernel
theorem d189_112 : mm_dec q189 112 = some (.iload_n 1) := by decide +kernel
theorem d189_113 : mm_dec q189 113 = some (.iaload) := by decide +kernel
theorem d189_114 : mm_dec q189 114 = some (.iastore) := by decide +kernel
theorem d189_115 : mm_dec q189 115 = some (.aload_n 0) := by decide +kernel
theorem d189_116 : mm_dec q189 116 = some (.getfield 74) := by decide +kernel
theorem d189_119 : mm_dec q189 119 = some (.iconst 2) := by decide +kernel
theorem d189_120 : mm_dec q189 120 = some (.aload_n 0) := by decide +kernel
theorem d189_121 : mm_dec q189 121 = some (.getfield 277) := by decide +kernel
theorem d189_124 : mm_dec q189 124 = some (.imul) := by decide +kernel
theorem d189_125 : mm_dec q189 125 = some (.iload_n 1) := by decide +kernel
theorem d189_126 : mm_dec q189 126 = some (.iadd) := by decide +kernel
theorem d189_127 : mm_dec q189 127 = some (.aload_n 0) := by decide +kernel
theorem d189_128 : mm_dec q189 128 = some (.getfield 64) := by decide +kernel
theorem d189_131 : mm_dec q189 131 = some (.iload_n 1) := by decide +kernel
theorem d189_132 : mm_dec q189 132 = some (.iaload) := by decide +kernel
theorem d189_133 : mm_dec q189 133 = some (.iastore) := by decide +kernel
theorem d189_134 : mm_dec q189 134 = some (.iinc 1 1) := by decide +kernel
theorem d189_137 : mm_dec q189 137 = some (.goto (-46)) := by decide +kernel
theorem d189_140 : mm_dec q189 140 = some (.aload_n 0) := by decide +kernel
theorem d189_141 : mm_dec q189 141 = some (.getfield 77) := by decide +kernel
theorem d189_144 : mm_dec q189 144 = some (.aload_n 0) := by decide +kernel
theorem d189_145 : mm_dec q189 145 = some (.getfield 277) := by decide +kernel
theorem d189_148 : mm_dec q189 148 = some (.aload_n 0) := by decide +kernel
theorem d189_149 : mm_dec q189 149 = some (.getfield 333) := by decide +kernel
theorem d189_152 : mm_dec q189 152 = some (.lastore) := by decide +kernel
theorem d189_153 : mm_dec q189 153 = some (.aload_n 0) := by decide +kernel
theorem d189_154 : mm_dec q189 154 = some (.dup) := by decide +kernel
theorem d189_155 : mm_dec q189 155 = some (.getfield 277) := by decide +kernel
theorem d189_158 : mm_dec q189 158 = some (.iconst 1) := by decide +kernel
theorem d189_159 : mm_dec q189 159 = some (.iadd) := by decide +kernel
theorem d189_160 : mm_dec q189 160 = some (.putfield 277) := by decide +kernel
theorem d189_163 : mm_dec q189 163 = some (.return_) := by decide +kernel
theorem d190_0 : mm_dec q190 0 = some (.aload_n 0) := by decide +kernel
theorem d190_1 : mm_dec q190 1 = some (.getfield 265) := by decide +kernel
theorem d190_4 : mm_dec q190 4 = some (.ifCond .le 18) := by decide +kernel
theorem d190_7 : mm_dec q190 7 = some (.iload_n 1) := by decide +kernel
theorem d190_8 : mm_dec q190 8 = some (.iconst 1) := by decide +kernel
theorem d190_9 : mm_dec q190 9 = some (.sipush 240) := by decide +kernel
theorem d190_12 : mm_dec q190 12 = some (.invokestatic 218) := by decide +kernel
theorem d190_15 : mm_dec q190 15 = some (.ifCond .eq 7) := by decide +kernel
theorem d190_18 : mm_dec q190 18 = some (.iconst 1) := by decide +kernel
theorem d190_19 : mm_dec q190 19 = some (.goto 4) := by decide +kernel
theorem d190_22 : mm_dec q190 22 = some (.iconst 0) := by decide +kernel
theorem d190_23 : mm_dec q190 23 = some (.ireturn) := by decide +kernel
theorem d191_0 : mm_dec q191 0 = some (.aload_n 0) := by decide +kernel
theorem d191_1 : mm_dec q191 1 = some (.iload_n 1) := by decide +kernel
theorem d191_2 : mm_dec q191 2 = some (.invokevirtual 337) := by decide +kernel
theorem d191_5 : mm_dec q191 5 = some (.ifCond .ne 5) := by decide +kernel
theorem d191_8 : mm_dec q191 8 = some (.iconst (-1)) := by decide +kernel
theorem d191_9 : mm_dec q191 9 = some (.ireturn) := by decide +kernel
theorem d191_10 : mm_dec q191 10 = some (.iconst 0) := by decide +kernel
theorem d191_11 : mm_dec q191 11 = some (.istore_n 2) := by decide +kernel
theorem d191_12 : mm_dec q191 12 = some (.iload_n 2) := by decide +kernel
theorem d191_13 : mm_dec q191 13 = some (.iload_n 1) := by decide +kernel
theorem d191_14 : mm_dec q191 14 = some (.if_icmp .ge 69) := by decide +kernel
theorem d191_17 : mm_dec q191 17 = some (.aload_n 0) := by decide +kernel
theorem d191_18 : mm_dec q191 18 = some (.invokevirtual 340) := by decide +kernel
theorem d191_21 : mm_dec q191 21 = some (.iconst 0) := by decide +kernel
theorem d191_22 : mm_dec q191 22 = some (.istore_n 3) := by decide +kernel
theorem d191_23 : mm_dec q191 23 = some (.aload_n 0) := by decide +kernel
theorem d191_24 : mm_dec q191 24 = some (.getfield 330) := by decide +kernel
theorem d191_27 : mm_dec q191 27 = some (.ifCond .le 45) := by decide +kernel
theorem d191_30 : mm_dec q191 30 = some (.aload_n 0) := by decide +kernel
theorem d191_31 : mm_dec q191 31 = some (.aload_n 0) := by decide +kernel
theorem d191_32 : mm_dec q191 32 = some (.getfield 333) := by decide +kernel
theorem d191_35 : mm_dec q191 35 = some (.ldc2_w 343) := by decide +kernel
theorem d191_38 : mm_dec q191 38 = some (.lmul) := by decide +kernel
theorem d191_39 : mm_dec q191 39 = some (.ldc2_w 345) := by decide +kernel
theorem d191_42 : mm_dec q191 42 = some (.ladd) := by decide +kernel
theorem d191_43 : mm_dec q191 43 = some (.putfield 333) := by decide +kernel
theorem d191_46 : mm_dec q191 46 = some (.aload_n 0) := by decide +kernel
theorem d191_47 : mm_dec q191 47 = some (.getfield 333) := by decide +kernel
theorem d191_50 : mm_dec q191 50 = some (.bipush 33) := by decide +kernel
theorem d191_52 : mm_dec q191 52 = some (.lushr) := by decide +kernel
theorem d191_53 : mm_dec q191 53 = some (.ldc2_w 347) := by decide +kernel
theorem d191_56 : mm_dec q191 56 = some (.lrem) := by decide +kernel
theorem d191_57 : mm_dec q191 57 = some (.aload_n 0) := by decide +kernel
theorem d191_58 : mm_dec q191 58 = some (.getfield 330) := by decide +kernel
theorem d191_61 : mm_dec q191 61 = some (.i2l) := by decide +kernel
theorem d191_62 : mm_dec q191 62 = some (.lcmp) := by decide +kernel
theorem d191_63 : mm_dec q191 63 = some (.ifCond .ge 7) := by decide +kernel
theorem d191_66 : mm_dec q191 66 = some (.iconst 1) := by decide +kernel
theorem d191_67 : mm_dec q191 67 = some (.goto 4) := by decide +kernel
theorem d191_70 : mm_dec q191 70 = some (.iconst 0) := by decide +kernel
theorem d191_71 : mm_dec q191 71 = some (.istore_n 3) := by decide +kernel
theorem d191_72 : mm_dec q191 72 = some (.aload_n 0) := by decide +kernel
theorem d191_73 : mm_dec q191 73 = some (.iload_n 3) := by decide +kernel
theorem d191_74 : mm_dec q191 74 = some (.invokevirtual 349) := by decide +kernel
theorem d191_77 : mm_dec q191 77 = some (.iinc 2 1) := by decide +kernel
theorem d191_80 : mm_dec q191 80 = some (.goto (-68)) := by decide +kernel
theorem d191_83 : mm_dec q191 83 = some (.aload_n 0) := by decide +kernel
theorem d191_84 : mm_dec q191 84 = some (.getfield 274) := by decide +kernel
theorem d191_87 : mm_dec q191 87 = some (.ireturn) := by decide +kernel
theorem d192_0 : mm_dec q192 0 = some (.aload_n 0) := by decide +kernel
theorem d192_1 : mm_dec q192 1 = some (.getfield 277) := by decide +kernel
theorem d192_4 : mm_dec q192 4 = some (.ifCond .ne 5) := by decide +kernel
theorem d192_7 : mm_dec q192 7 = some (.iconst (-1)) := by decide +kernel
theorem d192_8 : mm_dec q192 8 = some (.ireturn) := by decide +kernel
theorem d192_9 : mm_dec q192 9 = some (.aload_n 0) := by decide +kernel
theorem d192_10 : mm_dec q192 10 = some (.dup) := by decide +kernel
theorem d192_11 : mm_dec q192 11 = some (.getfield 277) := by decide +kernel
theorem d192_14 : mm_dec q192 14 = some (.iconst 1) := by decide +kernel
theorem d192_15 : mm_dec q192 15 = some (.isub) := by decide +kernel
theorem d192_16 : mm_dec q192 16 = some (.putfield 277) := by decide +kernel
theorem d192_19 : mm_dec q192 19 = some (.iconst 0) := by decide +kernel
theorem d192_20 : mm_dec q192 20 = some (.istore_n 1) := by decide +kernel
theorem d192_21 : mm_dec q192 21 = some (.iload_n 1) := by decide +kernel
theorem d192_22 : mm_dec q192 22 = some (.iconst 2) := by decide +kernel
theorem d192_23 : mm_dec q192 23 = some (.if_icmp .ge 47) := by decide +kernel
theorem d192_26 : mm_dec q192 26 = some (.aload_n 0) := by decide +kernel
theorem d192_27 : mm_dec q192 27 = some (.getfield 61) := by decide +kernel
theorem d192_30 : mm_dec q192 30 = some (.iload_n 1) := by decide +kernel
theorem d192_31 : mm_dec q192 31 = some (.aload_n 0) := by decide +kernel
theorem d192_32 : mm_dec q192 32 = some (.getfield 71) := by decide +kernel
theorem d192_35 : mm_dec q192 35 = some (.iconst 2) := by decide +kernel
theorem d192_36 : mm_dec q192 36 = some (.aload_n 0) := by decide +kernel
theorem d192_37 : mm_dec q192 37 = some (.getfield 277) := by decide +kernel
theorem d192_40 : mm_dec q192 40 = some (.imul) := by decide +kernel
theorem d192_41 : mm_dec q192 41 = some (.iload_n 1) := by decide +kernel
theorem d192_42 : mm_dec q192 42 = some (.iadd) := by decide +kernel
theorem d192_43 : mm_dec q192 43 = some (.iaload) := by decide +kernel
theorem d192_44 : mm_dec q192 44 = some (.iastore) := by decide +kernel
theorem d192_45 : mm_dec q192 45 = some (.aload_n 0) := by decide +kernel
theorem d192_46 : mm_dec q192 46 = some (.getfield 64) := by decide +kernel
theorem d192_49 : mm_dec q192 49 = some (.iload_n 1) := by decide +kernel
theorem d192_50 : mm_dec q192 50 = some (.aload_n 0) := by decide +kernel
theorem d192_51 : mm_dec q192 51 = some (.getfield 74) := by decide +kernel
theorem d192_54 : mm_dec q192 54 = some (.iconst 2) := by decide +kernel
theorem d192_55 : mm_dec q192 55 = some (.aload_n 0) := by decide +kernel
theorem d192_56 : mm_dec q192 56 = some (.getfield 277) := by decide +kernel
theorem d192_59 : mm_dec q192 59 = some (.imul) := by decide +kernel
theorem d192_60 : mm_dec q192 60 = some (.iload_n 1) := by decide +kernel
theorem d192_61 : mm_dec q192 61 = some (.iadd) := by decide +kernel
theorem d192_62 : mm_dec q192 62 = some (.iaload) := by decide +kernel
theorem d192_63 : mm_dec q192 63 = some (.iastore) := by decide +kernel
theorem d192_64 : mm_dec q192 64 = some (.iinc 1 1) := by decide +kernel
theorem d192_67 : mm_dec q192 67 = some (.goto (-46)) := by decide +kernel
theorem d192_70 : mm_dec q192 70 = some (.aload_n 0) := by decide +kernel
theorem d192_71 : mm_dec q192 71 = some (.aload_n 0) := by decide +kernel
theorem d192_72 : mm_dec q192 72 = some (.getfield 77) := by decide +kernel
