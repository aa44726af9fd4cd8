theorem d73_97 : mm_dec q73 97 = some (.istore 6) := by decide +kernel
theorem d73_99 : mm_dec q73 99 = some (.iload 6) := by decide +kernel
theorem d73_101 : mm_dec q73 101 = some (.iconst (-1)) := by decide +kernel
theorem d73_102 : mm_dec q73 102 = some (.if_icmp .ne 5) := by decide +kernel
theorem d73_105 : mm_dec q73 105 = some (.iconst 0) := by decide +kernel
theorem d73_106 : mm_dec q73 106 = some (.ireturn) := by decide +kernel
theorem d73_107 : mm_dec q73 107 = some (.iload 6) := by decide +kernel
theorem d73_109 : mm_dec q73 109 = some (.aload_n 2) := by decide +kernel
theorem d73_110 : mm_dec q73 110 = some (.iconst 4) := by decide +kernel
theorem d73_111 : mm_dec q73 111 = some (.iload 5) := by decide +kernel
theorem d73_113 : mm_dec q73 113 = some (.imul) := by decide +kernel
theorem d73_114 : mm_dec q73 114 = some (.iconst 1) := by decide +kernel
theorem d73_115 : mm_dec q73 115 = some (.iadd) := by decide +kernel
theorem d73_116 : mm_dec q73 116 = some (.iaload) := by decide +kernel
theorem d73_117 : mm_dec q73 117 = some (.if_icmp .lt 16) := by decide +kernel
theorem d73_120 : mm_dec q73 120 = some (.iload 6) := by decide +kernel
theorem d73_122 : mm_dec q73 122 = some (.aload_n 2) := by decide +kernel
theorem d73_123 : mm_dec q73 123 = some (.iconst 4) := by decide +kernel
theorem d73_124 : mm_dec q73 124 = some (.iload 5) := by decide +kernel
theorem d73_126 : mm_dec q73 126 = some (.imul) := by decide +kernel
theorem d73_127 : mm_dec q73 127 = some (.iconst 2) := by decide +kernel
theorem d73_128 : mm_dec q73 128 = some (.iadd) := by decide +kernel
theorem d73_129 : mm_dec q73 129 = some (.iaload) := by decide +kernel
theorem d73_130 : mm_dec q73 130 = some (.if_icmp .le 20) := by decide +kernel
theorem d73_133 : mm_dec q73 133 = some (.aload_n 0) := by decide +kernel
theorem d73_134 : mm_dec q73 134 = some (.getfield 9) := by decide +kernel
theorem d73_137 : mm_dec q73 137 = some (.aload_n 0) := by decide +kernel
theorem d73_138 : mm_dec q73 138 = some (.getfield 9) := by decide +kernel
theorem d73_141 : mm_dec q73 141 = some (.getfield 51) := by decide +kernel
theorem d73_144 : mm_dec q73 144 = some (.iconst 1) := by decide +kernel
theorem d73_145 : mm_dec q73 145 = some (.isub) := by decide +kernel
theorem d73_146 : mm_dec q73 146 = some (.invokevirtual 64) := by decide +kernel
theorem d73_149 : mm_dec q73 149 = some (.ireturn) := by decide +kernel
theorem d73_150 : mm_dec q73 150 = some (.aload_n 1) := by decide +kernel
theorem d73_151 : mm_dec q73 151 = some (.iload 5) := by decide +kernel
theorem d73_153 : mm_dec q73 153 = some (.iload 6) := by decide +kernel
theorem d73_155 : mm_dec q73 155 = some (.iastore) := by decide +kernel
theorem d73_156 : mm_dec q73 156 = some (.iinc 4 1) := by decide +kernel
theorem d73_159 : mm_dec q73 159 = some (.goto (-154)) := by decide +kernel
theorem d73_162 : mm_dec q73 162 = some (.iconst 1) := by decide +kernel
theorem d73_163 : mm_dec q73 163 = some (.ireturn) := by decide +kernel
theorem d74_0 : mm_dec q74 0 = some (.iconst 0) := by decide +kernel
theorem d74_1 : mm_dec q74 1 = some (.istore_n 2) := by decide +kernel
theorem d74_2 : mm_dec q74 2 = some (.iconst 4) := by decide +kernel
theorem d74_3 : mm_dec q74 3 = some (.iload_n 2) := by decide +kernel
theorem d74_4 : mm_dec q74 4 = some (.imul) := by decide +kernel
theorem d74_5 : mm_dec q74 5 = some (.aload_n 1) := by decide +kernel
theorem d74_6 : mm_dec q74 6 = some (.arraylength) := by decide +kernel
theorem d74_7 : mm_dec q74 7 = some (.if_icmp .ge 20) := by decide +kernel
theorem d74_10 : mm_dec q74 10 = some (.aload_n 1) := by decide +kernel
theorem d74_11 : mm_dec q74 11 = some (.iconst 4) := by decide +kernel
theorem d74_12 : mm_dec q74 12 = some (.iload_n 2) := by decide +kernel
theorem d74_13 : mm_dec q74 13 = some (.imul) := by decide +kernel
theorem d74_14 : mm_dec q74 14 = some (.iaload) := by decide +kernel
theorem d74_15 : mm_dec q74 15 = some (.iload_n 0) := by decide +kernel
theorem d74_16 : mm_dec q74 16 = some (.if_icmp .ne 5) := by decide +kernel
theorem d74_19 : mm_dec q74 19 = some (.iload_n 2) := by decide +kernel
theorem d74_20 : mm_dec q74 20 = some (.ireturn) := by decide +kernel
theorem d74_21 : mm_dec q74 21 = some (.iinc 2 1) := by decide +kernel
theorem d74_24 : mm_dec q74 24 = some (.goto (-22)) := by decide +kernel
theorem d74_27 : mm_dec q74 27 = some (.iconst (-1)) := by decide +kernel
theorem d74_28 : mm_dec q74 28 = some (.ireturn) := by decide +kernel
theorem d75_0 : mm_dec q75 0 = some (.aload_n 0) := by decide +kernel
theorem d75_1 : mm_dec q75 1 = some (.invokespecial 3) := by decide +kernel
theorem d75_4 : mm_dec q75 4 = some (.aload_n 0) := by decide +kernel
theorem d75_5 : mm_dec q75 5 = some (.new 9) := by decide +kernel
theorem d75_8 : mm_dec q75 8 = some (.dup) := by decide +kernel
theorem d75_9 : mm_dec q75 9 = some (.invokespecial 11) := by decide +kernel
theorem d75_12 : mm_dec q75 12 = some (.putfield 12) := by decide +kernel
theorem d75_15 : mm_dec q75 15 = some (.aload_n 0) := by decide +kernel
theorem d75_16 : mm_dec q75 16 = some (.sipush 540) := by decide +kernel
theorem d75_19 : mm_dec q75 19 = some (.newarray .int) := by decide +kernel
theorem d75_21 : mm_dec q75 21 = some (.putfield 18) := by decide +kernel
theorem d75_24 : mm_dec q75 24 = some (.aload_n 0) := by decide +kernel
theorem d75_25 : mm_dec q75 25 = some (.sipush 540) := by decide +kernel
theorem d75_28 : mm_dec q75 28 = some (.newarray .boolean) := by decide +kernel
theorem d75_30 : mm_dec q75 30 = some (.putfield 22) := by decide +kernel
theorem d75_33 : mm_dec q75 33 = some (.aload_n 0) := by decide +kernel
theorem d75_34 : mm_dec q75 34 = some (.aload_n 1) := by decide +kernel
theorem d75_35 : mm_dec q75 35 = some (.putfield 26) := by decide +kernel
theorem d75_38 : mm_dec q75 38 = some (.aload_n 0) := by decide +kernel
theorem d75_39 : mm_dec q75 39 = some (.aload_n 2) := by decide +kernel
theorem d75_40 : mm_dec q75 40 = some (.putfield 30) := by decide +kernel
theorem d75_43 : mm_dec q75 43 = some (.return_) := by decide +kernel
theorem d76_0 : mm_dec q76 0 = some (.aload_n 0) := by decide +kernel
theorem d76_1 : mm_dec q76 1 = some (.aload_n 1) := by decide +kernel
theorem d76_2 : mm_dec q76 2 = some (.putfield 30) := by decide +kernel
theorem d76_5 : mm_dec q76 5 = some (.aload_n 0) := by decide +kernel
theorem d76_6 : mm_dec q76 6 = some (.iconst (-1)) := by decide +kernel
theorem d76_7 : mm_dec q76 7 = some (.putfield 33) := by decide +kernel
theorem d76_10 : mm_dec q76 10 = some (.aload_n 0) := by decide +kernel
theorem d76_11 : mm_dec q76 11 = some (.aload_n 0) := by decide +kernel
theorem d76_12 : mm_dec q76 12 = some (.getfield 26) := by decide +kernel
theorem d76_15 : mm_dec q76 15 = some (.invokevirtual 37) := by decide +kernel
theorem d76_18 : mm_dec q76 18 = some (.putfield 43) := by decide +kernel
theorem d76_21 : mm_dec q76 21 = some (.iconst 0) := by decide +kernel
theorem d76_22 : mm_dec q76 22 = some (.istore_n 3) := by decide +kernel
theorem d76_23 : mm_dec q76 23 = some (.iload_n 3) := by decide +kernel
theorem d76_24 : mm_dec q76 24 = some (.iload_n 2) := by decide +kernel
theorem d76_25 : mm_dec q76 25 = some (.if_icmp .ge 44) := by decide +kernel
theorem d76_28 : mm_dec q76 28 = some (.iload_n 3) := by decide +kernel
theorem d76_29 : mm_dec q76 29 = some (.aload_n 0) := by decide +kernel
theorem d76_30 : mm_dec q76 30 = some (.getfield 18) := by decide +kernel
theorem d76_33 : mm_dec q76 33 = some (.arraylength) := by decide +kernel
theorem d76_34 : mm_dec q76 34 = some (.if_icmp .ge 35) := by decide +kernel
theorem d76_37 : mm_dec q76 37 = some (.aload_n 0) := by decide +kernel
theorem d76_38 : mm_dec q76 38 = some (.getfield 18) := by decide +kernel
theorem d76_41 : mm_dec q76 41 = some (.iload_n 3) := by decide +kernel
theorem d76_42 : mm_dec q76 42 = some (.aload_n 0) := by decide +kernel
theorem d76_43 : mm_dec q76 43 = some (.getfield 26) := by decide +kernel
theorem d76_46 : mm_dec q76 46 = some (.aload_n 1) := by decide +kernel
theorem d76_47 : mm_dec q76 47 = some (.getfield 45) := by decide +kernel
theorem d76_50 : mm_dec q76 50 = some (.iload_n 3) := by decide +kernel
theorem d76_51 : mm_dec q76 51 = some (.iadd) := by decide +kernel
theorem d76_52 : mm_dec q76 52 = some (.iconst 0) := by decide +kernel
theorem d76_53 : mm_dec q76 53 = some (.aload_n 0) := by decide +kernel
theorem d76_54 : mm_dec q76 54 = some (.getfield 43) := by decide +kernel
theorem d76_57 : mm_dec q76 57 = some (.iconst (-1)) := by decide +kernel
theorem d76_58 : mm_dec q76 58 = some (.ixor) := by decide +kernel
theorem d76_59 : mm_dec q76 59 = some (.invokevirtual 48) := by decide +kernel
theorem d76_62 : mm_dec q76 62 = some (.iastore) := by decide +kernel
theorem d76_63 : mm_dec q76 63 = some (.iinc 3 1) := by decide +kernel
theorem d76_66 : mm_dec q76 66 = some (.goto (-43)) := by decide +kernel
theorem d76_69 : mm_dec q76 69 = some (.aload_n 0) := by decide +kernel
theorem d76_70 : mm_dec q76 70 = some (.invokevirtual 52) := by decide +kernel
theorem d76_73 : mm_dec q76 73 = some (.return_) := by decide +kernel
theorem d77_0 : mm_dec q77 0 = some (.aload_n 0) := by decide +kernel
theorem d77_1 : mm_dec q77 1 = some (.getfield 12) := by decide +kernel
theorem d77_4 : mm_dec q77 4 = some (.aload_n 0) := by decide +kernel
theorem d77_5 : mm_dec q77 5 = some (.getfield 30) := by decide +kernel
theorem d77_8 : mm_dec q77 8 = some (.invokevirtual 55) := by decide +kernel
theorem d77_11 : mm_dec q77 11 = some (.aload_n 0) := by decide +kernel
theorem d77_12 : mm_dec q77 12 = some (.iconst 0) := by decide +kernel
theorem d77_13 : mm_dec q77 13 = some (.putfield 59) := by decide +kernel
theorem d77_16 : mm_dec q77 16 = some (.aload_n 0) := by decide +kernel
theorem d77_17 : mm_dec q77 17 = some (.iconst 0) := by decide +kernel
theorem d77_18 : mm_dec q77 18 = some (.putfield 62) := by decide +kernel
theorem d77_21 : mm_dec q77 21 = some (.aload_n 0) := by decide +kernel
theorem d77_22 : mm_dec q77 22 = some (.iconst 0) := by decide +kernel
theorem d77_23 : mm_dec q77 23 = some (.putfield 65) := by decide +kernel
theorem d77_26 : mm_dec q77 26 = some (.aload_n 0) := by decide +kernel
theorem d77_27 : mm_dec q77 27 = some (.iconst (-1)) := by decide +kernel
theorem d77_28 : mm_dec q77 28 = some (.putfield 68) := by decide +kernel
theorem d77_31 : mm_dec q77 31 = some (.aload_n 0) := by decide +kernel
theorem d77_32 : mm_dec q77 32 = some (.aload_n 0) := by decide +kernel
theorem d77_33 : mm_dec q77 33 = some (.getfield 26) := by decide +kernel
theorem d77_36 : mm_dec q77 36 = some (.aload_n 0) := by decide +kernel
theorem d77_37 : mm_dec q77 37 = some (.getfield 26) := by decide +kernel
theorem d77_40 : mm_dec q77 40 = some (.invokevirtual 71) := by decide +kernel
theorem d77_43 : mm_dec q77 43 = some (.invokevirtual 74) := by decide +kernel
theorem d77_46 : mm_dec q77 46 = some (.putfield 78) := by decide +kernel
theorem d77_49 : mm_dec q77 49 = some (.return_) := by decide +kernel
theorem d78_0 : mm_dec q78 0 = some (.aload_n 0) := by decide +kernel
theorem d78_1 : mm_dec q78 1 = some (.iload_n 1) := by decide +kernel
theorem d78_2 : mm_dec q78 2 = some (.putfield 68) := by decide +kernel
theorem d78_5 : mm_dec q78 5 = some (.aload_n 0) := by decide +kernel
theorem d78_6 : mm_dec q78 6 = some (.iload_n 2) := by decide +kernel
theorem d78_7 : mm_dec q78 7 = some (.putfield 80) := by decide +kernel
theorem d78_10 : mm_dec q78 10 = some (.return_) := by decide +kernel
theorem d79_0 : mm_dec q79 0 = some (.iload_n 1) := by decide +kernel
theorem d79_1 : mm_dec q79 1 = some (.ifCond .lt 21) := by decide +kernel
theorem d79_4 : mm_dec q79 4 = some (.iload_n 1) := by decide +kernel
theorem d79_5 : mm_dec q79 5 = some (.aload_n 0) := by decide +kernel
theorem d79_6 : mm_dec q79 6 = some (.getfield 18) := by decide +kernel
theorem d79_9 : mm_dec q79 9 = some (.arraylength) := by decide +kernel
theorem d79_10 : mm_dec q79 10 = some (.if_icmp .ge 12) := by decide +kernel
theorem d79_13 : mm_dec q79 13 = some (.aload_n 0) := by decide +kernel
theorem d79_14 : mm_dec q79 14 = some (.getfield 18) := by decide +kernel
theorem d79_17 : mm_dec q79 17 = some (.iload_n 1) := by decide +kernel
theorem d79_18 : mm_dec q79 18 = some (.iaload) := by decide +kernel
theorem d79_19 : mm_dec q79 19 = some (.goto 4) := by decide +kernel
theorem d79_22 : mm_dec q79 22 = some (.iconst 0) := by decide +kernel
theorem d79_23 : mm_dec q79 23 = some (.istore_n 3) := by decide +kernel
theorem d79_24 : mm_dec q79 24 = some (.aload_n 0) := by decide +kernel
theorem d79_25 : mm_dec q79 25 = some (.getfield 30) := by decide +kernel
theorem d79_28 : mm_dec q79 28 = some (.getfield 45) := by decide +kernel
theorem d79_31 : mm_dec q79 31 = some (.iload_n 1) := by decide +kernel
theorem d79_32 : mm_dec q79 32 = some (.iadd) := by decide +kernel
theorem d79_33 : mm_dec q79 33 = some (.istore 4) := by decide +kernel
theorem d79_35 : mm_dec q79 35 = some (.aload_n 0) := by decide +kernel
theorem d79_36 : mm_dec q79 36 = some (.getfield 43) := by decide +kernel
theorem d79_39 : mm_dec q79 39 = some (.aload_n 0) := by decide +kernel
theorem d79_40 : mm_dec q79 40 = some (.getfield 62) := by decide +kernel
theorem d79_43 : mm_dec q79 43 = some (.iconst (-1)) := by decide +kernel
theorem d79_44 : mm_dec q79 44 = some (.ixor) := by decide +kernel
theorem d79_45 : mm_dec q79 45 = some (.iand) := by decide +kernel
theorem d79_46 : mm_dec q79 46 = some (.aload_n 0) := by decide +kernel
theorem d79_47 : mm_dec q79 47 = some (.getfield 65) := by decide +kernel
theorem d79_50 : mm_dec q79 50 = some (.iconst (-1)) := by decide +kernel
theorem d79_51 : mm_dec q79 51 = some (.ixor) := by decide +kernel
theorem d79_52 : mm_dec q79 52 = some (.iand) := by decide +kernel
theorem d79_53 : mm_dec q79 53 = some (.istore 5) := by decide +kernel
theorem d79_55 : mm_dec q79 55 = some (.iconst 0) := by decide +kernel
theorem d79_56 : mm_dec q79 56 = some (.istore 6) := by decide +kernel
theorem d79_58 : mm_dec q79 58 = some (.iload 5) := by decide +kernel
theorem d79_60 : mm_dec q79 60 = some (.ifCond .eq 57) := by decide +kernel
theorem d79_63 : mm_dec q79 63 = some (.iload 6) := by decide +kernel
theorem d79_65 : mm_dec q79 65 = some (.aload_n 0) := by decide +kernel
theorem d79_66 : mm_dec q79 66 = some (.getfield 26) := by decide +kernel
theorem d79_69 : mm_dec q79 69 = some (.getfield 83) := by decide +kernel
theorem d79_72 : mm_dec q79 72 = some (.if_icmp .ge 45) := by decide +kernel
theorem d79_75 : mm_dec q79 75 = some (.iload_n 3) := by decide +kernel
theorem d79_76 : mm_dec q79 76 = some (.iload 5) := by decide +kernel
theorem d79_78 : mm_dec q79 78 = some (.iload 6) := by decide +kernel
theorem d79_80 : mm_dec q79 80 = some (.ishr) := by decide +kernel
theorem d79_81 : mm_dec q79 81 = some (.iconst 1) := by decide +kernel
theorem d79_82 : mm_dec q79 82 = some (.iand) := by decide +kernel
theorem d79_83 : mm_dec q79 83 = some (.ifCond .eq 25) := by decide +kernel
theorem d79_86 : mm_dec q79 86 = some (.aload_n 0) := by decide +kernel
theorem d79_87 : mm_dec q79 87 = some (.getfield 26) := by decide +kernel
theorem d79_90 : mm_dec q79 90 = some (.iload 6) := by decide +kernel
theorem d79_92 : mm_dec q79 92 = some (.iload 4) := by decide +kernel
theorem d79_94 : mm_dec q79 94 = some (.iload_n 2) := by decide +kernel
theorem d79_95 : mm_dec q79 95 = some (.invokevirtual 86) := by decide +kernel
theorem d79_98 : mm_dec q79 98 = some (.ifCond .eq 10) := by decide +kernel
theorem d79_101 : mm_dec q79 101 = some (.iconst 1) := by decide +kernel
theorem d79_102 : mm_dec q79 102 = some (.iload 6) := by decide +kernel
theorem d79_104 : mm_dec q79 104 = some (.ishl) := by decide +kernel
theorem d79_105 : mm_dec q79 105 = some (.goto 4) := by decide +kernel
theorem d79_108 : mm_dec q79 108 = some (.iconst 0) := by decide +kernel
theorem d79_109 : mm_dec q79 109 = some (.ior) := by decide +kernel
theorem d79_110 : mm_dec q79 110 = some (.istore_n 3) := by decide +kernel
theorem d79_111 : mm_dec q79 111 = some (.iinc 6 1) := by decide +kernel
theorem d79_114 : mm_dec q79 114 = some (.goto (-56)) := by decide +kernel
theorem d79_117 : mm_dec q79 117 = some (.aload_n 0) := by decide +kernel
theorem d79_118 : mm_dec q79 118 = some (.getfield 68) := by decide +kernel
theorem d79_121 : mm_dec q79 121 = some (.iconst (-1)) := by decide +kernel
theorem d79_122 : mm_dec q79 122 = some (.if_icmp .eq 45) := by decide +kernel
theorem d79_125 : mm_dec q79 125 = some (.iconst 1) := by decide +kernel
theorem d79_126 : mm_dec q79 126 = some (.aload_n 0) := by decide +kernel
theorem d79_127 : mm_dec q79 127 = some (.getfield 68) := by decide +kernel
theorem d79_130 : mm_dec q79 130 = some (.ishl) := by decide +kernel
theorem d79_131 : mm_dec q79 131 = some (.istore 6) := by decide +kernel
theorem d79_133 : mm_dec q79 133 = some (.aload_n 0) := by decide +kernel
theorem d79_134 : mm_dec q79 134 = some (.getfield 26) := by decide +kernel
theorem d79_137 : mm_dec q79 137 = some (.aload_n 0) := by decide +kernel
theorem d79_138 : mm_dec q79 138 = some (.getfield 68) := by decide +kernel
theorem d79_141 : mm_dec q79 141 = some (.aload_n 0) := by decide +kernel
theorem d79_142 : mm_dec q79 142 = some (.getfield 80) := by decide +kernel
theorem d79_145 : mm_dec q79 145 = some (.iload 4) := by decide +kernel
theorem d79_147 : mm_dec q79 147 = some (.invokevirtual 90) := by decide +kernel
theorem d79_150 : mm_dec q79 150 = some (.ifCond .eq 10) := by decide +kernel
theorem d79_153 : mm_dec q79 153 = some (.iload_n 3) := by decide +kernel
theorem d79_154 : mm_dec q79 154 = some (.iload 6) := by decide +kernel
theorem d79_156 : mm_dec q79 156 = some (.ior) := by decide +kernel
theorem d79_157 : mm_dec q79 157 = some (.goto 9) := by decide +kernel
theorem d79_160 : mm_dec q79 160 = some (.iload_n 3) := by decide +kernel
theorem d79_161 : mm_dec q79 161 = some (.iload 6) := by decide +kernel
theorem d79_163 : mm_dec q79 163 = some (.iconst (-1)) := by decide +kernel
theorem d79_164 : mm_dec q79 164 = some (.ixor) := by decide +kernel
theorem d79_165 : mm_dec q79 165 = some (.iand) := by decide +kernel
theorem d79_166 : mm_dec q79 166 = some (.istore_n 3) := by decide +kernel
theorem d79_167 : mm_dec q79 167 = some (.iload_n 3) := by decide +kernel
theorem d79_168 : mm_dec q79 168 = some (.aload_n 0) := by decide +kernel
theorem d79_169 : mm_dec q79 169 = some (.getfield 65) := by decide +kernel
theorem d79_172 : mm_dec q79 172 = some (.ior) := by decide +kernel
theorem d79_173 : mm_dec q79 173 = some (.aload_n 0) := by decide +kernel
theorem d79_174 : mm_dec q79 174 = some (.getfield 62) := by decide +kernel
theorem d79_177 : mm_dec q79 177 = some (.iconst (-1)) := by decide +kernel
theorem d79_178 : mm_dec q79 178 = some (.ixor) := by decide +kernel
theorem d79_179 : mm_dec q79 179 = some (.iand) := by decide +kernel
theorem d79_180 : mm_dec q79 180 = some (.ireturn) := by decide +kernel
theorem d80_0 : mm_dec q80 0 = some (.aload_n 0) := by decide +kernel
theorem d80_1 : mm_dec q80 1 = some (.aload_n 0) := by decide +kernel
theorem d80_2 : mm_dec q80 2 = some (.aload_n 0) := by decide +kernel
theorem d80_3 : mm_dec q80 3 = some (.getfield 59) := by decide +kernel
theorem d80_6 : mm_dec q80 6 = some (.aload_n 0) := by decide +kernel
theorem d80_7 : mm_dec q80 7 = some (.getfield 12) := by decide +kernel
theorem d80_10 : mm_dec q80 10 = some (.getfield 93) := by decide +kernel
theorem d80_13 : mm_dec q80 13 = some (.iconst 0) := by decide +kernel
theorem d80_14 : mm_dec q80 14 = some (.iaload) := by decide +kernel
theorem d80_15 : mm_dec q80 15 = some (.invokevirtual 96) := by decide +kernel
theorem d80_18 : mm_dec q80 18 = some (.putfield 99) := by decide +kernel
theorem d80_21 : mm_dec q80 21 = some (.aload_n 0) := by decide +kernel
theorem d80_22 : mm_dec q80 22 = some (.aload_n 0) := by decide +kernel
theorem d80_23 : mm_dec q80 23 = some (.getfield 26) := by decide +kernel
theorem d80_26 : mm_dec q80 26 = some (.aload_n 0) := by decide +kernel
theorem d80_27 : mm_dec q80 27 = some (.getfield 99) := by decide +kernel
theorem d80_30 : mm_dec q80 30 = some (.aload_n 0) := by decide +kernel
theorem d80_31 : mm_dec q80 31 = some (.getfield 12) := by decide +kernel
theorem d80_34 : mm_dec q80 34 = some (.getfield 45) := by decide +kernel
theorem d80_37 : mm_dec q80 37 = some (.aload_n 0) := by decide +kernel
theorem d80_38 : mm_dec q80 38 = some (.getfield 78) := by decide +kernel
theorem d80_41 : mm_dec q80 41 = some (.invokevirtual 102) := by decide +kernel
theorem d80_44 : mm_dec q80 44 = some (.putfield 105) := by decide +kernel
theorem d80_47 : mm_dec q80 47 = some (.aload_n 0) := by decide +kernel
theorem d80_48 : mm_dec q80 48 = some (.aload_n 0) := by decide +kernel
theorem d80_49 : mm_dec q80 49 = some (.getfield 12) := by decide +kernel
theorem d80_52 : mm_dec q80 52 = some (.aload_n 0) := by decide +kernel
theorem d80_53 : mm_dec q80 53 = some (.getfield 26) := by decide +kernel
theorem d80_56 : mm_dec q80 56 = some (.aload_n 0) := by decide +kernel
theorem d80_57 : mm_dec q80 57 = some (.getfield 105) := by decide +kernel
theorem d80_60 : mm_dec q80 60 = some (.ifCond .eq 7) := by decide +kernel
theorem d80_63 : mm_dec q80 63 = some (.iconst 1) := by decide +kernel
theorem d80_64 : mm_dec q80 64 = some (.goto 4) := by decide +kernel
theorem d80_67 : mm_dec q80 67 = some (.iconst 0) := by decide +kernel
theorem d80_68 : mm_dec q80 68 = some (.invokevirtual 108) := by decide +kernel
theorem d80_71 : mm_dec q80 71 = some (.putfield 112) := by decide +kernel
theorem d80_74 : mm_dec q80 74 = some (.aload_n 0) := by decide +kernel
theorem d80_75 : mm_dec q80 75 = some (.getfield 59) := by decide +kernel
theorem d80_78 : mm_dec q80 78 = some (.ifCond .lt 38) := by decide +kernel
theorem d80_81 : mm_dec q80 81 = some (.aload_n 0) := by decide +kernel
theorem d80_82 : mm_dec q80 82 = some (.getfield 59) := by decide +kernel
theorem d80_85 : mm_dec q80 85 = some (.aload_n 0) := by decide +kernel
theorem d80_86 : mm_dec q80 86 = some (.getfield 22) := by decide +kernel
theorem d80_89 : mm_dec q80 89 = some (.arraylength) := by decide +kernel
theorem d80_90 : mm_dec q80 90 = some (.if_icmp .ge 26) := by decide +kernel
theorem d80_93 : mm_dec q80 93 = some (.aload_n 0) := by decide +kernel
theorem d80_94 : mm_dec q80 94 = some (.getfield 22) := by decide +kernel
theorem d80_97 : mm_dec q80 97 = some (.aload_n 0) := by decide +kernel
theorem d80_98 : mm_dec q80 98 = some (.getfield 59) := by decide +kernel
theorem d80_101 : mm_dec q80 101 = some (.aload_n 0) := by decide +kernel
theorem d80_102 : mm_dec q80 102 = some (.getfield 112) := by decide +kernel
theorem d80_105 : mm_dec q80 105 = some (.iconst 1) := by decide +kernel
theorem d80_106 : mm_dec q80 106 = some (.iand) := by decide +kernel
theorem d80_107 : mm_dec q80 107 = some (.ifCond .eq 7) := by decide +kernel
theorem d80_110 : mm_dec q80 110 = some (.iconst 1) := by decide +kernel
theorem d80_111 : mm_dec q80 111 = some (.goto 4) := by decide +kernel
theorem d80_114 : mm_dec q80 114 = some (.iconst 0) := by decide +kernel
theorem d80_115 : mm_dec q80 115 = some (.bastore) := by decide +kernel
theorem d80_116 : mm_dec q80 116 = some (.aload_n 0) := by decide +kernel
theorem d80_117 : mm_dec q80 117 = some (.dup) := by decide +kernel
theorem d80_118 : mm_dec q80 118 = some (.getfield 59) := by decide +kernel
theorem d80_121 : mm_dec q80 121 = some (.iconst 1) := by decide +kernel
theorem d80_122 : mm_dec q80 122 = some (.iadd) := by decide +kernel
theorem d80_123 : mm_dec q80 123 = some (.putfield 59) := by decide +kernel
theorem d80_126 : mm_dec q80 126 = some (.return_) := by decide +kernel
theorem d81_0 : mm_dec q81 0 = some (.iconst 0) := by decide +kernel
theorem d81_1 : mm_dec q81 1 = some (.istore_n 2) := by decide +kernel
theorem d81_2 : mm_dec q81 2 = some (.iload_n 2) := by decide +kernel
theorem d81_3 : mm_dec q81 3 = some (.iload_n 1) := by decide +kernel
theorem d81_4 : mm_dec q81 4 = some (.if_icmp .ge 13) := by decide +kernel
theorem d81_7 : mm_dec q81 7 = some (.aload_n 0) := by decide +kernel
theorem d81_8 : mm_dec q81 8 = some (.invokevirtual 115) := by decide +kernel
theorem d81_11 : mm_dec q81 11 = some (.iinc 2 1) := by decide +kernel
theorem d81_14 : mm_dec q81 14 = some (.goto (-12)) := by decide +kernel
theorem d81_17 : mm_dec q81 17 = some (.return_) := by decide +kernel
theorem d82_0 : mm_dec q82 0 = some (.iconst 0) := by decide +kernel
theorem d82_1 : mm_dec q82 1 = some (.istore_n 3) := by decide +kernel
theorem d82_2 : mm_dec q82 2 = some (.iconst 0) := by decide +kernel
theorem d82_3 : mm_dec q82 3 = some (.istore 4) := by decide +kernel
theorem d82_5 : mm_dec q82 5 = some (.iload 4) := by decide +kernel
theorem d82_7 : mm_dec q82 7 = some (.iload_n 2) := by decide +kernel
theorem d82_8 : mm_dec q82 8 = some (.if_icmp .ge 34) := by decide +kernel
theorem d82_11 : mm_dec q82 11 = some (.iload_n 1) := by decide +kernel
theorem d82_12 : mm_dec q82 12 = some (.ifCond .lt 30) := by decide +kernel
theorem d82_15 : mm_dec q82 15 = some (.iload_n 1) := by decide +kernel
theorem d82_16 : mm_dec q82 16 = some (.iconst 2) := by decide +kernel
theorem d82_17 : mm_dec q82 17 = some (.if_icmp .ge 25) := by decide +kernel
theorem d82_20 : mm_dec q82 20 = some (.aload_n 0) := by decide +kernel
theorem d82_21 : mm_dec q82 21 = some (.invokevirtual 115) := by decide +kernel
theorem d82_24 : mm_dec q82 24 = some (.iload_n 3) := by decide +kernel
theorem d82_25 : mm_dec q82 25 = some (.aload_n 0) := by decide +kernel
theorem d82_26 : mm_dec q82 26 = some (.getfield 12) := by decide +kernel
theorem d82_29 : mm_dec q82 29 = some (.getfield 93) := by decide +kernel
theorem d82_32 : mm_dec q82 32 = some (.iload_n 1) := by decide +kernel
theorem d82_33 : mm_dec q82 33 = some (.iaload) := by decide +kernel
theorem d82_34 : mm_dec q82 34 = some (.iadd) := by decide +kernel
theorem d82_35 : mm_dec q82 35 = some (.istore_n 3) := by decide +kernel
theorem d82_36 : mm_dec q82 36 = some (.iinc 4 1) := by decide +kernel
theorem d82_39 : mm_dec q82 39 = some (.goto (-34)) := by decide +kernel
theorem d82_42 : mm_dec q82 42 = some (.iload_n 3) := by decide +kernel
theorem d82_43 : mm_dec q82 43 = some (.ireturn) := by decide +kernel
theorem d83_0 : mm_dec q83 0 = some (.aload_n 0) := by decide +kernel
theorem d83_1 : mm_dec q83 1 = some (.getfield 33) := by decide +kernel
theorem d83_4 : mm_dec q83 4 = some (.iconst (-1)) := by decide +kernel
theorem d83_5 : mm_dec q83 5 = some (.if_icmp .eq 11) := by decide +kernel
theorem d83_8 : mm_dec q83 8 = some (.iload_n 2) := by decide +kernel
theorem d83_9 : mm_dec q83 9 = some (.aload_n 0) := by decide +kernel
theorem d83_10 : mm_dec q83 10 = some (.getfield 118) := by decide +kernel
theorem d83_13 : mm_dec q83 13 = some (.if_icmp .ge 13) := by decide +kernel
theorem d83_16 : mm_dec q83 16 = some (.aload_n 0) := by decide +kernel
theorem d83_17 : mm_dec q83 17 = some (.iload_n 1) := by decide +kernel
theorem d83_18 : mm_dec q83 18 = some (.putfield 33) := by decide +kernel
theorem d83_21 : mm_dec q83 21 = some (.aload_n 0) := by decide +kernel
theorem d83_22 : mm_dec q83 22 = some (.iload_n 2) := by decide +kernel
theorem d83_23 : mm_dec q83 23 = some (.putfield 118) := by decide +kernel
theorem d83_26 : mm_dec q83 26 = some (.return_) := by decide +kernel
theorem d84_0 : mm_dec q84 0 = some (.aload_n 0) := by decide +kernel
theorem d84_1 : mm_dec q84 1 = some (.invokevirtual 52) := by decide +kernel
theorem d84_4 : mm_dec q84 4 = some (.aload_n 0) := by decide +kernel
theorem d84_5 : mm_dec q84 5 = some (.iload_n 1) := by decide +kernel
theorem d84_6 : mm_dec q84 6 = some (.putfield 65) := by decide +kernel
theorem d84_9 : mm_dec q84 9 = some (.iconst 0) := by decide +kernel
theorem d84_10 : mm_dec q84 10 = some (.istore_n 3) := by decide +kernel
theorem d84_11 : mm_dec q84 11 = some (.iload_n 3) := by decide +kernel
theorem d84_12 : mm_dec q84 12 = some (.iload_n 2) := by decide +kernel
theorem d84_13 : mm_dec q84 13 = some (.if_icmp .ge 24) := by decide +kernel
theorem d84_16 : mm_dec q84 16 = some (.aload_n 0) := by decide +kernel
theorem d84_17 : mm_dec q84 17 = some (.invokevirtual 115) := by decide +kernel
theorem d84_20 : mm_dec q84 20 = some (.aload_n 0) := by decide +kernel
theorem d84_21 : mm_dec q84 21 = some (.getfield 112) := by decide +kernel
theorem d84_24 : mm_dec q84 24 = some (.iconst 1) := by decide +kernel
theorem d84_25 : mm_dec q84 25 = some (.iand) := by decide +kernel
theorem d84_26 : mm_dec q84 26 = some (.ifCond .eq 5) := by decide +kernel
theorem d84_29 : mm_dec q84 29 = some (.iconst 0) := by decide +kernel
theorem d84_30 : mm_dec q84 30 = some (.ireturn) := by decide +kernel
theorem d84_31 : mm_dec q84 31 = some (.iinc 3 1) := by decide +kernel
theorem d84_34 : mm_dec q84 34 = some (.goto (-23)) := by decide +kernel
theorem d84_37 : mm_dec q84 37 = some (.iconst 1) := by decide +kernel
theorem d84_38 : mm_dec q84 38 = some (.ireturn) := by decide +kernel
theorem d85_0 : mm_dec q85 0 = some (.aload_n 0) := by decide +kernel
theorem d85_1 : mm_dec q85 1 = some (.invokespecial 3) := by decide +kernel
theorem d85_4 : mm_dec q85 4 = some (.aload_n 0) := by decide +kernel
theorem d85_5 : mm_dec q85 5 = some (.new 9) := by decide +kernel
theorem d85_8 : mm_dec q85 8 = some (.dup) := by decide +kernel
theorem d85_9 : mm_dec q85 9 = some (.invokespecial 11) := by decide +kernel
theorem d85_12 : mm_dec q85 12 = some (.putfield 12) := by decide +kernel
theorem d85_15 : mm_dec q85 15 = some (.aload_n 0) := by decide +kernel
theorem d85_16 : mm_dec q85 16 = some (.new 16) := by decide +kernel
theorem d85_19 : mm_dec q85 19 = some (.dup) := by decide +kernel
theorem d85_20 : mm_dec q85 20 = some (.aload_n 0) := by decide +kernel
theorem d85_21 : mm_dec q85 21 = some (.getfield 12) := by decide +kernel
theorem d85_24 : mm_dec q85 24 = some (.invokespecial 18) := by decide +kernel
theorem d85_27 : mm_dec q85 27 = some (.putfield 21) := by decide +kernel
theorem d85_30 : mm_dec q85 30 = some (.aload_n 0) := by decide +kernel
theorem d85_31 : mm_dec q85 31 = some (.new 25) := by decide +kernel
theorem d85_34 : mm_dec q85 34 = some (.dup) := by decide +kernel
theorem d85_35 : mm_dec q85 35 = some (.invokespecial 27) := by decide +kernel
theorem d85_38 : mm_dec q85 38 = some (.putfield 28) := by decide +kernel
theorem d85_41 : mm_dec q85 41 = some (.aload_n 0) := by decide +kernel
theorem d85_42 : mm_dec q85 42 = some (.new 25) := by decide +kernel
theorem d85_45 : mm_dec q85 45 = some (.dup) := by decide +kernel
theorem d85_46 : mm_dec q85 46 = some (.invokespecial 27) := by decide +kernel
theorem d85_49 : mm_dec q85 49 = some (.putfield 32) := by decide +kernel
theorem d85_52 : mm_dec q85 52 = some (.aload_n 0) := by decide +kernel
theorem d85_53 : mm_dec q85 53 = some (.new 35) := by decide +kernel
theorem d85_56 : mm_dec q85 56 = some (.dup) := by decide +kernel
theorem d85_57 : mm_dec q85 57 = some (.aload_n 0) := by decide +kernel
theorem d85_58 : mm_dec q85 58 = some (.getfield 21) := by decide +kernel
theorem d85_61 : mm_dec q85 61 = some (.aload_n 0) := by decide +kernel
theorem d85_62 : mm_dec q85 62 = some (.getfield 32) := by decide +kernel
theorem d85_65 : mm_dec q85 65 = some (.invokespecial 37) := by decide +kernel
theorem d85_68 : mm_dec q85 68 = some (.putfield 40) := by decide +kernel
theorem d85_71 : mm_dec q85 71 = some (.aload_n 0) := by decide +kernel
theorem d85_72 : mm_dec q85 72 = some (.new 44) := by decide +kernel
theorem d85_75 : mm_dec q85 75 = some (.dup) := by decide +kernel
theorem d85_76 : mm_dec q85 76 = some (.iconst (-1)) := by decide +kernel
theorem d85_77 : mm_dec q85 77 = some (.invokespecial 46) := by decide +kernel
theorem d85_80 : mm_dec q85 80 = some (.putfield 49) := by decide +kernel
theorem d85_83 : mm_dec q85 83 = some (.aload_n 0) := by decide +kernel
theorem d85_84 : mm_dec q85 84 = some (.new 53) := by decide +kernel
theorem d85_87 : mm_dec q85 87 = some (.dup) := by decide +kernel
theorem d85_88 : mm_dec q85 88 = some (.aload_n 0) := by decide +kernel
theorem d85_89 : mm_dec q85 89 = some (.getfield 21) := by decide +kernel
theorem d85_92 : mm_dec q85 92 = some (.aload_n 0) := by decide +kernel
theorem d85_93 : mm_dec q85 93 = some (.getfield 49) := by decide +kernel
theorem d85_96 : mm_dec q85 96 = some (.invokespecial 55) := by decide +kernel
theorem d85_99 : mm_dec q85 99 = some (.putfield 58) := by decide +kernel
theorem d85_102 : mm_dec q85 102 = some (.aload_n 0) := by decide +kernel
theorem d85_103 : mm_dec q85 103 = some (.iconst 4) := by decide +kernel
theorem d85_104 : mm_dec q85 104 = some (.anewarray 44) := by decide +kernel
theorem d85_107 : mm_dec q85 107 = some (.putfield 62) := by decide +kernel
theorem d85_110 : mm_dec q85 110 = some (.aload_n 0) := by decide +kernel
theorem d85_111 : mm_dec q85 111 = some (.new 66) := by decide +kernel
theorem d85_114 : mm_dec q85 114 = some (.dup) := by decide +kernel
theorem d85_115 : mm_dec q85 115 = some (.invokespecial 68) := by decide +kernel
theorem d85_118 : mm_dec q85 118 = some (.putfield 69) := by decide +kernel
theorem d85_121 : mm_dec q85 121 = some (.aload_n 0) := by decide +kernel
theorem d85_122 : mm_dec q85 122 = some (.new 66) := by decide +kernel
theorem d85_125 : mm_dec q85 125 = some (.dup) := by decide +kernel
theorem d85_126 : mm_dec q85 126 = some (.invokespecial 68) := by decide +kernel
theorem d85_129 : mm_dec q85 129 = some (.putfield 73) := by decide +kernel
theorem d85_132 : mm_dec q85 132 = some (.aload_n 0) := by decide +kernel
theorem d85_133 : mm_dec q85 133 = some (.new 66) := by decide +kernel
theorem d85_136 : mm_dec q85 136 = some (.dup) := by decide +kernel
theorem d85_137 : mm_dec q85 137 = some (.invokespecial 68) := by decide +kernel
theorem d85_140 : mm_dec q85 140 = some (.putfield 76) := by decide +kernel
theorem d85_143 : mm_dec q85 143 = some (.aload_n 0) := by decide +kernel
theorem d85_144 : mm_dec q85 144 = some (.new 79) := by decide +kernel
theorem d85_147 : mm_dec q85 147 = some (.dup) := by decide +kernel
theorem d85_148 : mm_dec q85 148 = some (.invokespecial 81) := by decide +kernel
theorem d85_151 : mm_dec q85 151 = some (.putfield 82) := by decide +kernel
theorem d85_154 : mm_dec q85 154 = some (.aload_n 0) := by decide +kernel
theorem d85_155 : mm_dec q85 155 = some (.new 86) := by decide +kernel
theorem d85_158 : mm_dec q85 158 = some (.dup) := by decide +kernel
theorem d85_159 : mm_dec q85 159 = some (.invokespecial 88) := by decide +kernel
theorem d85_162 : mm_dec q85 162 = some (.putfield 89) := by decide +kernel
theorem d85_165 : mm_dec q85 165 = some (.aload_n 0) := by decide +kernel
theorem d85_166 : mm_dec q85 166 = some (.new 93) := by decide +kernel
theorem d85_169 : mm_dec q85 169 = some (.dup) := by decide +kernel
theorem d85_170 : mm_dec q85 170 = some (.aload_n 0) := by decide +kernel
theorem d85_171 : mm_dec q85 171 = some (.getfield 28) := by decide +kernel
theorem d85_174 : mm_dec q85 174 = some (.aload_n 0) := by decide +kernel
theorem d85_175 : mm_dec q85 175 = some (.getfield 69) := by decide +kernel
theorem d85_178 : mm_dec q85 178 = some (.invokespecial 95) := by decide +kernel
theorem d85_181 : mm_dec q85 181 = some (.putfield 98) := by decide +kernel
theorem d85_184 : mm_dec q85 184 = some (.iconst 0) := by decide +kernel
theorem d85_185 : mm_dec q85 185 = some (.istore_n 1) := by decide +kernel
theorem d85_186 : mm_dec q85 186 = some (.iload_n 1) := by decide +kernel
theorem d85_187 : mm_dec q85 187 = some (.aload_n 0) := by decide +kernel
theorem d85_188 : mm_dec q85 188 = some (.getfield 62) := by decide +kernel
theorem d85_191 : mm_dec q85 191 = some (.arraylength) := by decide +kernel
theorem d85_192 : mm_dec q85 192 = some (.if_icmp .ge 23) := by decide +kernel
theorem d85_195 : mm_dec q85 195 = some (.aload_n 0) := by decide +kernel
theorem d85_196 : mm_dec q85 196 = some (.getfield 62) := by decide +kernel
theorem d85_199 : mm_dec q85 199 = some (.iload_n 1) := by decide +kernel
theorem d85_200 : mm_dec q85 200 = some (.new 44) := by decide +kernel
theorem d85_203 : mm_dec q85 203 = some (.dup) := by decide +kernel
theorem d85_204 : mm_dec q85 204 = some (.iload_n 1) := by decide +kernel
theorem d85_205 : mm_dec q85 205 = some (.invokespecial 46) := by decide +kernel
theorem d85_208 : mm_dec q85 208 = some (.aastore) := by decide +kernel
theorem d85_209 : mm_dec q85 209 = some (.iinc 1 1) := by decide +kernel
theorem d85_212 : mm_dec q85 212 = some (.goto (-26)) := by decide +kernel
theorem d85_215 : mm_dec q85 215 = some (.return_) := by decide +kernel
theorem d86_0 : mm_dec q86 0 = some (.iload_n 1) := by decide +kernel
theorem d86_1 : mm_dec q86 1 = some (.invokestatic 102) := by decide +kernel
theorem d86_4 : mm_dec q86 4 = some (.iload_n 2) := by decide +kernel
theorem d86_5 : mm_dec q86 5 = some (.invokestatic 102) := by decide +kernel
theorem d86_8 : mm_dec q86 8 = some (.iadd) := by decide +kernel
theorem d86_9 : mm_dec q86 9 = some (.iload_n 3) := by decide +kernel
theorem d86_10 : mm_dec q86 10 = some (.invokestatic 102) := by decide +kernel
theorem d86_13 : mm_dec q86 13 = some (.iadd) := by decide +kernel
theorem d86_14 : mm_dec q86 14 = some (.iload 4) := by decide +kernel
theorem d86_16 : mm_dec q86 16 = some (.invokestatic 102) := by decide +kernel
theorem d86_19 : mm_dec q86 19 = some (.iadd) := by decide +kernel
theorem d86_20 : mm_dec q86 20 = some (.iload 5) := by decide +kernel
theorem d86_22 : mm_dec q86 22 = some (.invokestatic 102) := by decide +kernel
theorem d86_25 : mm_dec q86 25 = some (.iadd) := by decide +kernel
theorem d86_26 : mm_dec q86 26 = some (.istore 6) := by decide +kernel
theorem d86_28 : mm_dec q86 28 = some (.aload_n 0) := by decide +kernel
theorem d86_29 : mm_dec q86 29 = some (.getfield 12) := by decide +kernel
theorem d86_32 : mm_dec q86 32 = some (.getfield 106) := by decide +kernel
theorem d86_35 : mm_dec q86 35 = some (.iload 6) := by decide +kernel
theorem d86_37 : mm_dec q86 37 = some (.iadd) := by decide +kernel
theorem d86_38 : mm_dec q86 38 = some (.sipush 160) := by decide +kernel
theorem d86_41 : mm_dec q86 41 = some (.if_icmp .le 5) := by decide +kernel
theorem d86_44 : mm_dec q86 44 = some (.iconst (-1)) := by decide +kernel
theorem d86_45 : mm_dec q86 45 = some (.ireturn) := by decide +kernel
theorem d86_46 : mm_dec q86 46 = some (.aload_n 0) := by decide +kernel
theorem d86_47 : mm_dec q86 47 = some (.getfield 12) := by decide +kernel
theorem d86_50 : mm_dec q86 50 = some (.iload_n 1) := by decide +kernel
theorem d86_51 : mm_dec q86 51 = some (.invokevirtual 110) := by decide +kernel
theorem d86_54 : mm_dec q86 54 = some (.aload_n 0) := by decide +kernel
theorem d86_55 : mm_dec q86 55 = some (.getfield 12) := by decide +kernel
theorem d86_58 : mm_dec q86 58 = some (.iload_n 2) := by decide +kernel
theorem d86_59 : mm_dec q86 59 = some (.invokevirtual 110) := by decide +kernel
theorem d86_62 : mm_dec q86 62 = some (.aload_n 0) := by decide +kernel
theorem d86_63 : mm_dec q86 63 = some (.getfield 12) := by decide +kernel
theorem d86_66 : mm_dec q86 66 = some (.iload_n 3) := by decide +kernel
theorem d86_67 : mm_dec q86 67 = some (.invokevirtual 110) := by decide +kernel
theorem d86_70 : mm_dec q86 70 = some (.aload_n 0) := by decide +kernel
theorem d86_71 : mm_dec q86 71 = some (.getfield 12) := by decide +kernel
theorem d86_74 : mm_dec q86 74 = some (.iload 4) := by decide +kernel
theorem d86_76 : mm_dec q86 76 = some (.invokevirtual 110) := by decide +kernel
theorem d86_79 : mm_dec q86 79 = some (.aload_n 0) := by decide +kernel
theorem d86_80 : mm_dec q86 80 = some (.getfield 12) := by decide +kernel
theorem d86_83 : mm_dec q86 83 = some (.iload 5) := by decide +kernel
theorem d86_85 : mm_dec q86 85 = some (.invokevirtual 110) := by decide +kernel
theorem d86_88 : mm_dec q86 88 = some (.aload_n 0) := by decide +kernel
theorem d86_89 : mm_dec q86 89 = some (.getfield 12) := by decide +kernel
theorem d86_92 : mm_dec q86 92 = some (.getfield 106) := by decide +kernel
theorem d86_95 : mm_dec q86 95 = some (.ireturn) := by decide +kernel
theorem d87_0 : mm_dec q87 0 = some (.iload_n 1) := by decide +kernel
theorem d87_1 : mm_dec q87 1 = some (.ifCond .lt 14) := by decide +kernel
theorem d87_4 : mm_dec q87 4 = some (.iload_n 1) := by decide +kernel
theorem d87_5 : mm_dec q87 5 = some (.aload_n 0) := by decide +kernel
theorem d87_6 : mm_dec q87 6 = some (.getfield 12) := by decide +kernel
theorem d87_9 : mm_dec q87 9 = some (.getfield 106) := by decide +kernel
theorem d87_12 : mm_dec q87 12 = some (.if_icmp .le 5) := by decide +kernel
theorem d87_15 : mm_dec q87 15 = some (.iconst 0) := by decide +kernel
theorem d87_16 : mm_dec q87 16 = some (.ireturn) := by decide +kernel
theorem d87_17 : mm_dec q87 17 = some (.aload_n 0) := by decide +kernel
theorem d87_18 : mm_dec q87 18 = some (.getfield 12) := by decide +kernel
theorem d87_21 : mm_dec q87 21 = some (.iload_n 1) := by decide +kernel
theorem d87_22 : mm_dec q87 22 = some (.putfield 106) := by decide +kernel
theorem d87_25 : mm_dec q87 25 = some (.iconst 1) := by decide +kernel
theorem d87_26 : mm_dec q87 26 = some (.ireturn) := by decide +kernel
theorem d88_0 : mm_dec q88 0 = some (.iload_n 1) := by decide +kernel
theorem d88_1 : mm_dec q88 1 = some (.ifCond .ne 11) := by decide +kernel
theorem d88_4 : mm_dec q88 4 = some (.aload_n 0) := by decide +kernel
theorem d88_5 : mm_dec q88 5 = some (.getfield 40) := by decide +kernel
theorem d88_8 : mm_dec q88 8 = some (.invokevirtual 113) := by decide +kernel
theorem d88_11 : mm_dec q88 11 = some (.ireturn) := by decide +kernel
theorem d88_12 : mm_dec q88 12 = some (.iload_n 1) := by decide +kernel
theorem d88_13 : mm_dec q88 13 = some (.iconst 1) := by decide +kernel
theorem d88_14 : mm_dec q88 14 = some (.if_icmp .ne 13) := by decide +kernel
theorem d88_17 : mm_dec q88 17 = some (.aload_n 0) := by decide +kernel
theorem d88_18 : mm_dec q88 18 = some (.getfield 58) := by decide +kernel
theorem d88_21 : mm_dec q88 21 = some (.invokevirtual 117) := by decide +kernel
theorem d88_24 : mm_dec q88 24 = some (.goto 5) := by decide +kernel
theorem d88_27 : mm_dec q88 27 = some (.bipush (-2)) := by decide +kernel
theorem d88_29 : mm_dec q88 29 = some (.ireturn) := by decide +kernel
theorem d89_0 : mm_dec q89 0 = some (.iload_n 1) := by decide +kernel
theorem d89_1 : mm_dec q89 1 = some (.ifCond .ne 19) := by decide +kernel
theorem d89_4 : mm_dec q89 4 = some (.aload_n 0) := by decide +kernel
theorem d89_5 : mm_dec q89 5 = some (.getfield 40) := by decide +kernel
theorem d89_8 : mm_dec q89 8 = some (.invokevirtual 113) := by decide +kernel
theorem d89_11 : mm_dec q89 11 = some (.iconst (-1)) := by decide +kernel
theorem d89_12 : mm_dec q89 12 = some (.if_icmp .ne 8) := by decide +kernel
theorem d89_15 : mm_dec q89 15 = some (.aload_n 0) := by decide +kernel
theorem d89_16 : mm_dec q89 16 = some (.invokevirtual 118) := by decide +kernel
theorem d89_19 : mm_dec q89 19 = some (.ireturn) := by decide +kernel
theorem d89_20 : mm_dec q89 20 = some (.iload_n 1) := by decide +kernel
theorem d89_21 : mm_dec q89 21 = some (.iconst 1) := by decide +kernel
theorem d89_22 : mm_dec q89 22 = some (.if_icmp .ne 21) := by decide +kernel
theorem d89_25 : mm_dec q89 25 = some (.aload_n 0) := by decide +kernel
theorem d89_26 : mm_dec q89 26 = some (.getfield 58) := by decide +kernel
theorem d89_29 : mm_dec q89 29 = some (.invokevirtual 117) := by decide +kernel
theorem d89_32 : mm_dec q89 32 = some (.iconst (-1)) := by decide +kernel
theorem d89_33 : mm_dec q89 33 = some (.if_icmp .ne 10) := by decide +kernel
theorem d89_36 : mm_dec q89 36 = some (.aload_n 0) := by decide +kernel
theorem d89_37 : mm_dec q89 37 = some (.invokevirtual 121) := by decide +kernel
theorem d89_40 : mm_dec q89 40 = some (.goto 4) := by decide +kernel
theorem d89_43 : mm_dec q89 43 = some (.iconst (-1)) := by decide +kernel
theorem d89_44 : mm_dec q89 44 = some (.ireturn) := by decide +kernel
theorem d90_0 : mm_dec q90 0 = some (.aload_n 0) := by decide +kernel
theorem d90_1 : mm_dec q90 1 = some (.getfield 12) := by decide +kernel
theorem d90_4 : mm_dec q90 4 = some (.iconst 0) := by decide +kernel
theorem d90_5 : mm_dec q90 5 = some (.putfield 106) := by decide +kernel
theorem d90_8 : mm_dec q90 8 = some (.aload_n 0) := by decide +kernel
theorem d90_9 : mm_dec q90 9 = some (.getfield 28) := by decide +kernel
theorem d90_12 : mm_dec q90 12 = some (.aload_n 0) := by decide +kernel
theorem d90_13 : mm_dec q90 13 = some (.getfield 32) := by decide +kernel
theorem d90_16 : mm_dec q90 16 = some (.invokevirtual 124) := by decide +kernel
theorem d90_19 : mm_dec q90 19 = some (.aload_n 0) := by decide +kernel
theorem d90_20 : mm_dec q90 20 = some (.getfield 69) := by decide +kernel
theorem d90_23 : mm_dec q90 23 = some (.invokevirtual 128) := by decide +kernel
theorem d90_26 : mm_dec q90 26 = some (.aload_n 0) := by decide +kernel
theorem d90_27 : mm_dec q90 27 = some (.getfield 82) := by decide +kernel
theorem d90_30 : mm_dec q90 30 = some (.invokevirtual 131) := by decide +kernel
theorem d90_33 : mm_dec q90 33 = some (.aload_n 0) := by decide +kernel
theorem d90_34 : mm_dec q90 34 = some (.getfield 89) := by decide +kernel
theorem d90_37 : mm_dec q90 37 = some (.invokevirtual 134) := by decide +kernel
theorem d90_40 : mm_dec q90 40 = some (.aload_n 0) := by decide +kernel
theorem d90_41 : mm_dec q90 41 = some (.iconst 0) := by decide +kernel
theorem d90_42 : mm_dec q90 42 = some (.putfield 135) := by decide +kernel
theorem d90_45 : mm_dec q90 45 = some (.aload_n 0) := by decide +kernel
theorem d90_46 : mm_dec q90 46 = some (.getfield 28) := by decide +kernel
theorem d90_49 : mm_dec q90 49 = some (.getfield 139) := by decide +kernel
theorem d90_52 : mm_dec q90 52 = some (.ireturn) := by decide +kernel
theorem d91_0 : mm_dec q91 0 = some (.aload_n 0) := by decide +kernel
theorem d91_1 : mm_dec q91 1 = some (.getfield 142) := by decide +kernel
theorem d91_4 : mm_dec q91 4 = some (.ifCond .lt 15) := by decide +kernel
theorem d91_7 : mm_dec q91 7 = some (.aload_n 0) := by decide +kernel
theorem d91_8 : mm_dec q91 8 = some (.getfield 142) := by decide +kernel
theorem d91_11 : mm_dec q91 11 = some (.aload_n 0) := by decide +kernel
theorem d91_12 : mm_dec q91 12 = some (.getfield 62) := by decide +kernel
theorem d91_15 : mm_dec q91 15 = some (.arraylength) := by decide +kernel
theorem d91_16 : mm_dec q91 16 = some (.if_icmp .lt 5) := by decide +kernel
theorem d91_19 : mm_dec q91 19 = some (.iconst (-1)) := by decide +kernel
theorem d91_20 : mm_dec q91 20 = some (.ireturn) := by decide +kernel
theorem d91_21 : mm_dec q91 21 = some (.aload_n 0) := by decide +kernel
theorem d91_22 : mm_dec q91 22 = some (.getfield 12) := by decide +kernel
theorem d91_25 : mm_dec q91 25 = some (.iconst 0) := by decide +kernel
theorem d91_26 : mm_dec q91 26 = some (.putfield 106) := by decide +kernel
theorem d91_29 : mm_dec q91 29 = some (.aload_n 0) := by decide +kernel
theorem d91_30 : mm_dec q91 30 = some (.getfield 62) := by decide +kernel
theorem d91_33 : mm_dec q91 33 = some (.aload_n 0) := by decide +kernel
theorem d91_34 : mm_dec q91 34 = some (.getfield 142) := by decide +kernel
theorem d91_37 : mm_dec q91 37 = some (.aaload) := by decide +kernel
theorem d91_38 : mm_dec q91 38 = some (.aload_n 0) := by decide +kernel
theorem d91_39 : mm_dec q91 39 = some (.getfield 49) := by decide +kernel
theorem d91_42 : mm_dec q91 42 = some (.invokevirtual 145) := by decide +kernel
theorem d91_45 : mm_dec q91 45 = some (.aload_n 0) := by decide +kernel
theorem d91_46 : mm_dec q91 46 = some (.dup) := by decide +kernel
theorem d91_47 : mm_dec q91 47 = some (.getfield 142) := by decide +kernel
theorem d91_50 : mm_dec q91 50 = some (.iconst 1) := by decide +kernel
theorem d91_51 : mm_dec q91 51 = some (.iadd) := by decide +kernel
theorem d91_52 : mm_dec q91 52 = some (.putfield 142) := by decide +kernel
theorem d91_55 : mm_dec q91 55 = some (.aload_n 0) := by decide +kernel
theorem d91_56 : mm_dec q91 56 = some (.getfield 142) := by decide +kernel
theorem d91_59 : mm_dec q91 59 = some (.iconst 1) := by decide +kernel
theorem d91_60 : mm_dec q91 60 = some (.isub) := by decide +kernel
theorem d91_61 : mm_dec q91 61 = some (.ireturn) := by decide +kernel
theorem d92_0 : mm_dec q92 0 = some (.aload_n 0) := by decide +kernel
theorem d92_1 : mm_dec q92 1 = some (.iload_n 1) := by decide +kernel
theorem d92_2 : mm_dec q92 2 = some (.invokevirtual 148) := by decide +kernel
theorem d92_5 : mm_dec q92 5 = some (.ifCond .eq 13) := by decide +kernel
theorem d92_8 : mm_dec q92 8 = some (.iload_n 2) := by decide +kernel
theorem d92_9 : mm_dec q92 9 = some (.ifCond .lt 9) := by decide +kernel
theorem d92_12 : mm_dec q92 12 = some (.iload_n 2) := by decide +kernel
theorem d92_13 : mm_dec q92 13 = some (.bipush 6) := by decide +kernel
theorem d92_15 : mm_dec q92 15 = some (.if_icmp .le 11) := by decide +kernel
theorem d92_18 : mm_dec q92 18 = some (.new 152) := by decide +kernel
theorem d92_21 : mm_dec q92 21 = some (.dup) := by decide +kernel
theorem d92_22 : mm_dec q92 22 = some (.invokespecial 154) := by decide +kernel
theorem d92_25 : mm_dec q92 25 = some (.athrow) := by decide +kernel
theorem d92_26 : mm_dec q92 26 = some (.iload_n 2) := by decide +kernel
theorem d92_27 : mm_dec q92 27 = some (.iconst 3) := by decide +kernel
theorem d92_28 : mm_dec q92 28 = some (.if_icmp .gt 15) := by decide +kernel
theorem d92_31 : mm_dec q92 31 = some (.aload_n 0) := by decide +kernel
theorem d92_32 : mm_dec q92 32 = some (.getfield 28) := by decide +kernel
theorem d92_35 : mm_dec q92 35 = some (.getfield 155) := by decide +kernel
theorem d92_38 : mm_dec q92 38 = some (.iload_n 1) := by decide +kernel
theorem d92_39 : mm_dec q92 39 = some (.aaload) := by decide +kernel
theorem d92_40 : mm_dec q92 40 = some (.iload_n 2) := by decide +kernel
theorem d92_41 : mm_dec q92 41 = some (.iaload) := by decide +kernel
theorem d92_42 : mm_dec q92 42 = some (.ireturn) := by decide +kernel
theorem d92_43 : mm_dec q92 43 = some (.iload_n 2) := by decide +kernel
theorem d92_44 : mm_dec q92 44 = some (.iconst 4) := by decide +kernel
theorem d92_45 : mm_dec q92 45 = some (.if_icmp .ne 26) := by decide +kernel
theorem d92_48 : mm_dec q92 48 = some (.aload_n 0) := by decide +kernel
theorem d92_49 : mm_dec q92 49 = some (.getfield 28) := by decide +kernel
theorem d92_52 : mm_dec q92 52 = some (.getfield 159) := by decide +kernel
theorem d92_55 : mm_dec q92 55 = some (.iload_n 1) := by decide +kernel
theorem d92_56 : mm_dec q92 56 = some (.aaload) := by decide +kernel
theorem d92_57 : mm_dec q92 57 = some (.astore_n 3) := by decide +kernel
theorem d92_58 : mm_dec q92 58 = some (.aload_n 3) := by decide +kernel
theorem d92_59 : mm_dec q92 59 = some (.ifnonnull 7) := by decide +kernel
theorem d92_62 : mm_dec q92 62 = some (.iconst (-1)) := by decide +kernel
theorem d92_63 : mm_dec q92 63 = some (.goto 7) := by decide +kernel
theorem d92_66 : mm_dec q92 66 = some (.aload_n 3) := by decide +kernel
theorem d92_67 : mm_dec q92 67 = some (.getfield 160) := by decide +kernel
theorem d92_70 : mm_dec q92 70 = some (.ireturn) := by decide +kernel
theorem d92_71 : mm_dec q92 71 = some (.aload_n 0) := by decide +kernel
theorem d92_72 : mm_dec q92 72 = some (.getfield 98) := by decide +kernel
theorem d92_75 : mm_dec q92 75 = some (.aload_n 0) := by decide +kernel
theorem d92_76 : mm_dec q92 76 = some (.getfield 69) := by decide +kernel
theorem d92_79 : mm_dec q92 79 = some (.iconst 1) := by decide +kernel
theorem d92_80 : mm_dec q92 80 = some (.invokevirtual 163) := by decide +kernel
theorem d92_83 : mm_dec q92 83 = some (.aload_n 0) := by decide +kernel
theorem d92_84 : mm_dec q92 84 = some (.getfield 98) := by decide +kernel
theorem d92_87 : mm_dec q92 87 = some (.invokevirtual 167) := by decide +kernel
theorem d92_90 : mm_dec q92 90 = some (.iload_n 2) := by decide +kernel
theorem d92_91 : mm_dec q92 91 = some (.iconst 5) := by decide +kernel
theorem d92_92 : mm_dec q92 92 = some (.if_icmp .ne 13) := by decide +kernel
theorem d92_95 : mm_dec q92 95 = some (.aload_n 0) := by decide +kernel
theorem d92_96 : mm_dec q92 96 = some (.getfield 98) := by decide +kernel
theorem d92_99 : mm_dec q92 99 = some (.getfield 170) := by decide +kernel
theorem d92_102 : mm_dec q92 102 = some (.goto 10) := by decide +kernel
theorem d92_105 : mm_dec q92 105 = some (.aload_n 0) := by decide +kernel
theorem d92_106 : mm_dec q92 106 = some (.getfield 98) := by decide +kernel
theorem d92_109 : mm_dec q92 109 = some (.getfield 173) := by decide +kernel
theorem d92_112 : mm_dec q92 112 = some (.iload_n 1) := by decide +kernel
theorem d92_113 : mm_dec q92 113 = some (.ishr) := by decide +kernel
theorem d92_114 : mm_dec q92 114 = some (.iconst 1) := by decide +kernel
theorem d92_115 : mm_dec q92 115 = some (.iand) := by decide +kernel
theorem d92_116 : mm_dec q92 116 = some (.ireturn) := by decide +kernel
theorem d93_0 : mm_dec q93 0 = some (.aload_n 0) := by decide +kernel
theorem d93_1 : mm_dec q93 1 = some (.iload_n 1) := by decide +kernel
theorem d93_2 : mm_dec q93 2 = some (.invokevirtual 176) := by decide +kernel
theorem d93_5 : mm_dec q93 5 = some (.ifCond .eq 12) := by decide +kernel
theorem d93_8 : mm_dec q93 8 = some (.iload_n 2) := by decide +kernel
theorem d93_9 : mm_dec q93 9 = some (.ifCond .lt 8) := by decide +kernel
theorem d93_12 : mm_dec q93 12 = some (.iload_n 2) := by decide +kernel
theorem d93_13 : mm_dec q93 13 = some (.iconst 4) := by decide +kernel
theorem d93_14 : mm_dec q93 14 = some (.if_icmp .le 5) := by decide +kernel
theorem d93_17 : mm_dec q93 17 = some (.iconst (-1)) := by decide +kernel
theorem d93_18 : mm_dec q93 18 = some (.ireturn) := by decide +kernel
theorem d93_19 : mm_dec q93 19 = some (.iload_n 2) := by decide +kernel
theorem d93_20 : mm_dec q93 20 = some (.iconst 2) := by decide +kernel
theorem d93_21 : mm_dec q93 21 = some (.if_icmp .gt 15) := by decide +kernel
theorem d93_24 : mm_dec q93 24 = some (.aload_n 0) := by decide +kernel
theorem d93_25 : mm_dec q93 25 = some (.getfield 28) := by decide +kernel
theorem d93_28 : mm_dec q93 28 = some (.getfield 179) := by decide +kernel
theorem d93_31 : mm_dec q93 31 = some (.iload_n 1) := by decide +kernel
theorem d93_32 : mm_dec q93 32 = some (.aaload) := by decide +kernel
theorem d93_33 : mm_dec q93 33 = some (.iload_n 2) := by decide +kernel
theorem d93_34 : mm_dec q93 34 = some (.iaload) := by decide +kernel
theorem d93_35 : mm_dec q93 35 = some (.ireturn) := by decide +kernel
theorem d93_36 : mm_dec q93 36 = some (.iload_n 2) := by decide +kernel
theorem d93_37 : mm_dec q93 37 = some (.iconst 3) := by decide +kernel
theorem d93_38 : mm_dec q93 38 = some (.if_icmp .ne 15) := by decide +kernel
theorem d93_41 : mm_dec q93 41 = some (.aload_n 0) := by decide +kernel
theorem d93_42 : mm_dec q93 42 = some (.getfield 69) := by decide +kernel
theorem d93_45 : mm_dec q93 45 = some (.getfield 182) := by decide +kernel
theorem d93_48 : mm_dec q93 48 = some (.iload_n 1) := by decide +kernel
theorem d93_49 : mm_dec q93 49 = some (.iaload) := by decide +kernel
theorem d93_50 : mm_dec q93 50 = some (.goto 12) := by decide +kernel
theorem d93_53 : mm_dec q93 53 = some (.aload_n 0) := by decide +kernel
theorem d93_54 : mm_dec q93 54 = some (.getfield 69) := by decide +kernel
theorem d93_57 : mm_dec q93 57 = some (.getfield 186) := by decide +kernel
theorem d93_60 : mm_dec q93 60 = some (.iload_n 1) := by decide +kernel
theorem d93_61 : mm_dec q93 61 = some (.iaload) := by decide +kernel
theorem d93_62 : mm_dec q93 62 = some (.ireturn) := by decide +kernel
theorem d94_0 : mm_dec q94 0 = some (.aload_n 0) := by decide +kernel
theorem d94_1 : mm_dec q94 1 = some (.invokevirtual 189) := by decide +kernel
theorem d94_4 : mm_dec q94 4 = some (.ifCond .eq 7) := by decide +kernel
theorem d94_7 : mm_dec q94 7 = some (.iload_n 1) := by decide +kernel
theorem d94_8 : mm_dec q94 8 = some (.ifCond .ge 5) := by decide +kernel
theorem d94_11 : mm_dec q94 11 = some (.iconst (-1)) := by decide +kernel
theorem d94_12 : mm_dec q94 12 = some (.ireturn) := by decide +kernel
theorem d94_13 : mm_dec q94 13 = some (.aload_n 0) := by decide +kernel
theorem d94_14 : mm_dec q94 14 = some (.getfield 28) := by decide +kernel
theorem d94_17 : mm_dec q94 17 = some (.iload_n 1) := by decide +kernel
theorem d94_18 : mm_dec q94 18 = some (.invokevirtual 193) := by decide +kernel
theorem d94_21 : mm_dec q94 21 = some (.ifCond .eq 7) := by decide +kernel
theorem d94_24 : mm_dec q94 24 = some (.iconst 1) := by decide +kernel
theorem d94_25 : mm_dec q94 25 = some (.goto 4) := by decide +kernel
theorem d94_28 : mm_dec q94 28 = some (.iconst 0) := by decide +kernel
theorem d94_29 : mm_dec q94 29 = some (.ireturn) := by decide +kernel
theorem d95_0 : mm_dec q95 0 = some (.aload_n 0) := by decide +kernel
theorem d95_1 : mm_dec q95 1 = some (.iload_n 1) := by decide +kernel
theorem d95_2 : mm_dec q95 2 = some (.invokevirtual 148) := by decide +kernel
theorem d95_5 : mm_dec q95 5 = some (.ifCond .eq 12) := by decide +kernel
theorem d95_8 : mm_dec q95 8 = some (.iload_n 2) := by decide +kernel
theorem d95_9 : mm_dec q95 9 = some (.ifCond .lt 8) := by decide +kernel
theorem d95_12 : mm_dec q95 12 = some (.iload_n 2) := by decide +kernel
theorem d95_13 : mm_dec q95 13 = some (.iconst 3) := by decide +kernel
theorem d95_14 : mm_dec q95 14 = some (.if_icmp .le 5) := by decide +kernel
theorem d95_17 : mm_dec q95 17 = some (.iconst 0) := by decide +kernel
theorem d95_18 : mm_dec q95 18 = some (.ireturn) := by decide +kernel
theorem d95_19 : mm_dec q95 19 = some (.iload_n 2) := by decide +kernel
theorem d95_20 : mm_dec q95 20 = some (.iconst 3) := by decide +kernel
theorem d95_21 : mm_dec q95 21 = some (.if_icmp .ne 10) := by decide +kernel
theorem d95_24 : mm_dec q95 24 = some (.aload_n 0) := by decide +kernel
theorem d95_25 : mm_dec q95 25 = some (.iload_n 1) := by decide +kernel
theorem d95_26 : mm_dec q95 26 = some (.iload_n 3) := by decide +kernel
theorem d95_27 : mm_dec q95 27 = some (.invokevirtual 196) := by decide +kernel
theorem d95_30 : mm_dec q95 30 = some (.ireturn) := by decide +kernel
theorem d95_31 : mm_dec q95 31 = some (.iload_n 3) := by decide +kernel
theorem d95_32 : mm_dec q95 32 = some (.getstatic 200) := by decide +kernel
theorem d95_35 : mm_dec q95 35 = some (.iconst 4) := by decide +kernel
theorem d95_36 : mm_dec q95 36 = some (.iload_n 2) := by decide +kernel
theorem d95_37 : mm_dec q95 37 = some (.imul) := by decide +kernel
theorem d95_38 : mm_dec q95 38 = some (.iconst 1) := by decide +kernel
theorem d95_39 : mm_dec q95 39 = some (.iadd) := by decide +kernel
theorem d95_40 : mm_dec q95 40 = some (.iaload) := by decide +kernel
theorem d95_41 : mm_dec q95 41 = some (.if_icmp .lt 16) := by decide +kernel
theorem d95_44 : mm_dec q95 44 = some (.iload_n 3) := by decide +kernel
theorem d95_45 : mm_dec q95 45 = some (.getstatic 200) := by decide +kernel
theorem d95_48 : mm_dec q95 48 = some (.iconst 4) := by decide +kernel
theorem d95_49 : mm_dec q95 49 = some (.iload_n 2) := by decide +kernel
theorem d95_50 : mm_dec q95 50 = some (.imul) := by decide +kernel
theorem d95_51 : mm_dec q95 51 = some (.iconst 2) := by decide +kernel
theorem d95_52 : mm_dec q95 52 = some (.iadd) := by decide +kernel
theorem d95_53 : mm_dec q95 53 = some (.iaload) := by decide +kernel
theorem d95_54 : mm_dec q95 54 = some (.if_icmp .le 5) := by decide +kernel
theorem d95_57 : mm_dec q95 57 = some (.iconst 0) := by decide +kernel
theorem d95_58 : mm_dec q95 58 = some (.ireturn) := by decide +kernel
theorem d95_59 : mm_dec q95 59 = some (.aload_n 0) := by decide +kernel
theorem d95_60 : mm_dec q95 60 = some (.getfield 28) := by decide +kernel
theorem d95_63 : mm_dec q95 63 = some (.getfield 155) := by decide +kernel
theorem d95_66 : mm_dec q95 66 = some (.iload_n 1) := by decide +kernel
theorem d95_67 : mm_dec q95 67 = some (.aaload) := by decide +kernel
theorem d95_68 : mm_dec q95 68 = some (.iload_n 2) := by decide +kernel
theorem d95_69 : mm_dec q95 69 = some (.iload_n 3) := by decide +kernel
theorem d95_70 : mm_dec q95 70 = some (.iastore) := by decide +kernel
theorem d95_71 : mm_dec q95 71 = some (.iconst 1) := by decide +kernel
theorem d95_72 : mm_dec q95 72 = some (.ireturn) := by decide +kernel
theorem d96_0 : mm_dec q96 0 = some (.iload_n 2) := by decide +kernel
theorem d96_1 : mm_dec q96 1 = some (.iconst (-1)) := by decide +kernel
theorem d96_2 : mm_dec q96 2 = some (.if_icmp .lt 11) := by decide +kernel
theorem d96_5 : mm_dec q96 5 = some (.iload_n 2) := by decide +kernel
theorem d96_6 : mm_dec q96 6 = some (.aload_n 0) := by decide +kernel
theorem d96_7 : mm_dec q96 7 = some (.getfield 142) := by decide +kernel
theorem d96_10 : mm_dec q96 10 = some (.if_icmp .lt 5) := by decide +kernel
theorem d96_13 : mm_dec q96 13 = some (.iconst 0) := by decide +kernel
theorem d96_14 : mm_dec q96 14 = some (.ireturn) := by decide +kernel
theorem d96_15 : mm_dec q96 15 = some (.aload_n 0) := by decide +kernel
theorem d96_16 : mm_dec q96 16 = some (.getfield 28) := by decide +kernel
theorem d96_19 : mm_dec q96 19 = some (.getfield 159) := by decide +kernel
theorem d96_22 : mm_dec q96 22 = some (.iload_n 1) := by decide +kernel
theorem d96_23 : mm_dec q96 23 = some (.iload_n 2) := by decide +kernel
theorem d96_24 : mm_dec q96 24 = some (.iconst (-1)) := by decide +kernel
theorem d96_25 : mm_dec q96 25 = some (.if_icmp .ne 7) := by decide +kernel
theorem d96_28 : mm_dec q96 28 = some (.aconst_null) := by decide +kernel
theorem d96_29 : mm_dec q96 29 = some (.goto 9) := by decide +kernel
theorem d96_32 : mm_dec q96 32 = some (.aload_n 0) := by decide +kernel
theorem d96_33 : mm_dec q96 33 = some (.getfield 62) := by decide +kernel
theorem d96_36 : mm_dec q96 36 = some (.iload_n 2) := by decide +kernel
theorem d96_37 : mm_dec q96 37 = some (.aaload) := by decide +kernel
theorem d96_38 : mm_dec q96 38 = some (.aastore) := by decide +kernel
theorem d96_39 : mm_dec q96 39 = some (.iconst 1) := by decide +kernel
theorem d96_40 : mm_dec q96 40 = some (.ireturn) := by decide +kernel
theorem d97_0 : mm_dec q97 0 = some (.iload_n 1) := by decide +kernel
theorem d97_1 : mm_dec q97 1 = some (.ifCond .lt 9) := by decide +kernel
theorem d97_4 : mm_dec q97 4 = some (.iload_n 1) := by decide +kernel
theorem d97_5 : mm_dec q97 5 = some (.bipush 100) := by decide +kernel
theorem d97_7 : mm_dec q97 7 = some (.if_icmp .le 5) := by decide +kernel
theorem d97_10 : mm_dec q97 10 = some (.iconst 0) := by decide +kernel
theorem d97_11 : mm_dec q97 11 = some (.ireturn) := by decide +kernel
theorem d97_12 : mm_dec q97 12 = some (.aload_n 0) := by decide +kernel
theorem d97_13 : mm_dec q97 13 = some (.iload_n 1) := by decide +kernel
theorem d97_14 : mm_dec q97 14 = some (.putfield 203) := by decide +kernel
theorem d97_17 : mm_dec q97 17 = some (.iconst 1) := by decide +kernel
theorem d97_18 : mm_dec q97 18 = some (.ireturn) := by decide +kernel
theorem d98_0 : mm_dec q98 0 = some (.aload_n 0) := by decide +kernel
theorem d98_1 : mm_dec q98 1 = some (.getfield 69) := by decide +kernel
theorem d98_4 : mm_dec q98 4 = some (.lload_n 1) := by decide +kernel
theorem d98_5 : mm_dec q98 5 = some (.putfield 206) := by decide +kernel
theorem d98_8 : mm_dec q98 8 = some (.iconst 1) := by decide +kernel
theorem d98_9 : mm_dec q98 9 = some (.ireturn) := by decide +kernel
theorem d99_0 : mm_dec q99 0 = some (.aload_n 0) := by decide +kernel
theorem d99_1 : mm_dec q99 1 = some (.invokevirtual 189) := by decide +kernel
theorem d99_4 : mm_dec q99 4 = some (.ifCond .eq 10) := by decide +kernel
theorem d99_7 : mm_dec q99 7 = some (.iload_n 1) := by decide +kernel
theorem d99_8 : mm_dec q99 8 = some (.invokestatic 210) := by decide +kernel
theorem d99_11 : mm_dec q99 11 = some (.ifCond .ne 5) := by decide +kernel
theorem d99_14 : mm_dec q99 14 = some (.iconst (-1)) := by decide +kernel
theorem d99_15 : mm_dec q99 15 = some (.ireturn) := by decide +kernel
theorem d99_16 : mm_dec q99 16 = some (.iconst 0) := by decide +kernel
theorem d99_17 : mm_dec q99 17 = some (.istore_n 2) := by decide +kernel
theorem d99_18 : mm_dec q99 18 = some (.iload_n 2) := by decide +kernel
theorem d99_19 : mm_dec q99 19 = some (.iload_n 1) := by decide +kernel
theorem d99_20 : mm_dec q99 20 = some (.if_icmp .ge 132) := by decide +kernel
theorem d99_23 : mm_dec q99 23 = some (.aload_n 0) := by decide +kernel
theorem d99_24 : mm_dec q99 24 = some (.getfield 82) := by decide +kernel
theorem d99_27 : mm_dec q99 27 = some (.aload_n 0) := by decide +kernel
theorem d99_28 : mm_dec q99 28 = some (.getfield 69) := by decide +kernel
theorem d99_31 : mm_dec q99 31 = some (.invokevirtual 213) := by decide +kernel
theorem d99_34 : mm_dec q99 34 = some (.aload_n 0) := by decide +kernel
theorem d99_35 : mm_dec q99 35 = some (.getfield 28) := by decide +kernel
theorem d99_38 : mm_dec q99 38 = some (.aload_n 0) := by decide +kernel
theorem d99_39 : mm_dec q99 39 = some (.getfield 69) := by decide +kernel
theorem d99_42 : mm_dec q99 42 = some (.getfield 217) := by decide +kernel
theorem d99_45 : mm_dec q99 45 = some (.aload_n 0) := by decide +kernel
theorem d99_46 : mm_dec q99 46 = some (.getfield 69) := by decide +kernel
theorem d99_49 : mm_dec q99 49 = some (.getfield 182) := by decide +kernel
theorem d99_52 : mm_dec q99 52 = some (.iconst 0) := by decide +kernel
theorem d99_53 : mm_dec q99 53 = some (.iaload) := by decide +kernel
theorem d99_54 : mm_dec q99 54 = some (.bipush 63) := by decide +kernel
theorem d99_56 : mm_dec q99 56 = some (.invokevirtual 220) := by decide +kernel
theorem d99_59 : mm_dec q99 59 = some (.istore_n 3) := by decide +kernel
theorem d99_60 : mm_dec q99 60 = some (.aload_n 0) := by decide +kernel
theorem d99_61 : mm_dec q99 61 = some (.getfield 28) := by decide +kernel
theorem d99_64 : mm_dec q99 64 = some (.iload_n 3) := by decide +kernel
theorem d99_65 : mm_dec q99 65 = some (.aload_n 0) := by decide +kernel
theorem d99_66 : mm_dec q99 66 = some (.getfield 69) := by decide +kernel
theorem d99_69 : mm_dec q99 69 = some (.getfield 217) := by decide +kernel
theorem d99_72 : mm_dec q99 72 = some (.aload_n 0) := by decide +kernel
theorem d99_73 : mm_dec q99 73 = some (.getfield 28) := by decide +kernel
theorem d99_76 : mm_dec q99 76 = some (.aload_n 0) := by decide +kernel
theorem d99_77 : mm_dec q99 77 = some (.getfield 28) := by decide +kernel
theorem d99_80 : mm_dec q99 80 = some (.invokevirtual 224) := by decide +kernel
theorem d99_83 : mm_dec q99 83 = some (.invokevirtual 227) := by decide +kernel
theorem d99_86 : mm_dec q99 86 = some (.invokevirtual 230) := by decide +kernel
theorem d99_89 : mm_dec q99 89 = some (.istore 4) := by decide +kernel
theorem d99_91 : mm_dec q99 91 = some (.aload_n 0) := by decide +kernel
theorem d99_92 : mm_dec q99 92 = some (.getfield 203) := by decide +kernel
theorem d99_95 : mm_dec q99 95 = some (.ifCond .le 21) := by decide +kernel
theorem d99_98 : mm_dec q99 98 = some (.aload_n 0) := by decide +kernel
theorem d99_99 : mm_dec q99 99 = some (.getfield 69) := by decide +kernel
theorem d99_102 : mm_dec q99 102 = some (.invokevirtual 233) := by decide +kernel
theorem d99_105 : mm_dec q99 105 = some (.aload_n 0) := by decide +kernel
theorem d99_106 : mm_dec q99 106 = some (.getfield 203) := by decide +kernel
theorem d99_109 : mm_dec q99 109 = some (.if_icmp .ge 7) := by decide +kernel
theorem d99_112 : mm_dec q99 112 = some (.iconst 1) := by decide +kernel
theorem d99_113 : mm_dec q99 113 = some (.goto 4) := by decide +kernel
theorem d99_116 : mm_dec q99 116 = some (.iconst 0) := by decide +kernel
theorem d99_117 : mm_dec q99 117 = some (.istore 5) := by decide +kernel
theorem d99_119 : mm_dec q99 119 = some (.aload_n 0) := by decide +kernel
theorem d99_120 : mm_dec q99 120 = some (.getfield 69) := by decide +kernel
theorem d99_123 : mm_dec q99 123 = some (.aload_n 0) := by decide +kernel
theorem d99_124 : mm_dec q99 124 = some (.getfield 28) := by decide +kernel
theorem d99_127 : mm_dec q99 127 = some (.iload 4) := by decide +kernel
theorem d99_129 : mm_dec q99 129 = some (.ifCond .ne 8) := by decide +kernel
theorem d99_132 : mm_dec q99 132 = some (.iload 5) := by decide +kernel
theorem d99_134 : mm_dec q99 134 = some (.ifCond .eq 7) := by decide +kernel
theorem d99_137 : mm_dec q99 137 = some (.iconst 1) := by decide +kernel
theorem d99_138 : mm_dec q99 138 = some (.goto 4) := by decide +kernel
theorem d99_141 : mm_dec q99 141 = some (.iconst 0) := by decide +kernel
theorem d99_142 : mm_dec q99 142 = some (.invokevirtual 236) := by decide +kernel
theorem d99_145 : mm_dec q99 145 = some (.pop) := by decide +kernel
theorem d99_146 : mm_dec q99 146 = some (.iinc 2 1) := by decide +kernel
theorem d99_149 : mm_dec q99 149 = some (.goto (-131)) := by decide +kernel
theorem d99_152 : mm_dec q99 152 = some (.aload_n 0) := by decide +kernel
theorem d99_153 : mm_dec q99 153 = some (.getfield 69) := by decide +kernel
theorem d99_156 : mm_dec q99 156 = some (.getfield 217) := by decide +kernel
theorem d99_159 : mm_dec q99 159 = some (.ireturn) := by decide +kernel
theorem d100_0 : mm_dec q100 0 = some (.aload_n 0) := by decide +kernel
theorem d100_1 : mm_dec q100 1 = some (.getfield 82) := by decide +kernel
theorem d100_4 : mm_dec q100 4 = some (.aload_n 0) := by decide +kernel
theorem d100_5 : mm_dec q100 5 = some (.getfield 69) := by decide +kernel
theorem d100_8 : mm_dec q100 8 = some (.invokevirtual 240) := by decide +kernel
theorem d100_11 : mm_dec q100 11 = some (.ifCond .eq 13) := by decide +kernel
theorem d100_14 : mm_dec q100 14 = some (.aload_n 0) := by decide +kernel
theorem d100_15 : mm_dec q100 15 = some (.getfield 69) := by decide +kernel
theorem d100_18 : mm_dec q100 18 = some (.getfield 217) := by decide +kernel
theorem d100_21 : mm_dec q100 21 = some (.goto 4) := by decide +kernel
theorem d100_24 : mm_dec q100 24 = some (.iconst (-1)) := by decide +kernel
theorem d100_25 : mm_dec q100 25 = some (.ireturn) := by decide +kernel
theorem d101_0 : mm_dec q101 0 = some (.aload_n 0) := by decide +kernel
theorem d101_1 : mm_dec q101 1 = some (.iload_n 1) := by decide +kernel
theorem d101_2 : mm_dec q101 2 = some (.invokevirtual 176) := by decide +kernel
theorem d101_5 : mm_dec q101 5 = some (.ifCond .eq 19) := by decide +kernel
theorem d101_8 : mm_dec q101 8 = some (.iload_n 2) := by decide +kernel
theorem d101_9 : mm_dec q101 9 = some (.invokestatic 210) := by decide +kernel
theorem d101_12 : mm_dec q101 12 = some (.ifCond .eq 12) := by decide +kernel
theorem d101_15 : mm_dec q101 15 = some (.iload_n 3) := by decide +kernel
theorem d101_16 : mm_dec q101 16 = some (.ifCond .lt 8) := by decide +kernel
theorem d101_19 : mm_dec q101 19 = some (.iload_n 3) := by decide +kernel
theorem d101_20 : mm_dec q101 20 = some (.iconst 1) := by decide +kernel
theorem d101_21 : mm_dec q101 21 = some (.if_icmp .le 5) := by decide +kernel
theorem d101_24 : mm_dec q101 24 = some (.iconst (-1)) := by decide +kernel
theorem d101_25 : mm_dec q101 25 = some (.ireturn) := by decide +kernel
theorem d101_26 : mm_dec q101 26 = some (.aload_n 0) := by decide +kernel
theorem d101_27 : mm_dec q101 27 = some (.getfield 98) := by decide +kernel
theorem d101_30 : mm_dec q101 30 = some (.aload_n 0) := by decide +kernel
theorem d101_31 : mm_dec q101 31 = some (.getfield 69) := by decide +kernel
theorem d101_34 : mm_dec q101 34 = some (.iload_n 2) := by decide +kernel
theorem d101_35 : mm_dec q101 35 = some (.invokevirtual 163) := by decide +kernel
theorem d101_38 : mm_dec q101 38 = some (.aload_n 0) := by decide +kernel
theorem d101_39 : mm_dec q101 39 = some (.getfield 98) := by decide +kernel
theorem d101_42 : mm_dec q101 42 = some (.iload_n 2) := by decide +kernel
theorem d101_43 : mm_dec q101 43 = some (.invokevirtual 244) := by decide +kernel
theorem d101_46 : mm_dec q101 46 = some (.iload_n 3) := by decide +kernel
theorem d101_47 : mm_dec q101 47 = some (.ifCond .ne 18) := by decide +kernel
theorem d101_50 : mm_dec q101 50 = some (.aload_n 0) := by decide +kernel
theorem d101_51 : mm_dec q101 51 = some (.getfield 98) := by decide +kernel
theorem d101_54 : mm_dec q101 54 = some (.getfield 247) := by decide +kernel
theorem d101_57 : mm_dec q101 57 = some (.getfield 182) := by decide +kernel
theorem d101_60 : mm_dec q101 60 = some (.iload_n 1) := by decide +kernel
theorem d101_61 : mm_dec q101 61 = some (.iaload) := by decide +kernel
theorem d101_62 : mm_dec q101 62 = some (.goto 25) := by decide +kernel
theorem d101_65 : mm_dec q101 65 = some (.aload_n 0) := by decide +kernel
theorem d101_66 : mm_dec q101 66 = some (.getfield 98) := by decide +kernel
theorem d101_69 : mm_dec q101 69 = some (.getfield 247) := by decide +kernel
theorem d101_72 : mm_dec q101 72 = some (.getfield 186) := by decide +kernel
theorem d101_75 : mm_dec q101 75 = some (.iload_n 1) := by decide +kernel
theorem d101_76 : mm_dec q101 76 = some (.iaload) := by decide +kernel
theorem d101_77 : mm_dec q101 77 = some (.aload_n 0) := by decide +kernel
theorem d101_78 : mm_dec q101 78 = some (.getfield 69) := by decide +kernel
theorem d101_81 : mm_dec q101 81 = some (.getfield 186) := by decide +kernel
theorem d101_84 : mm_dec q101 84 = some (.iload_n 1) := by decide +kernel
theorem d101_85 : mm_dec q101 85 = some (.iaload) := by decide +kernel
theorem d101_86 : mm_dec q101 86 = some (.isub) := by decide +kernel
theorem d101_87 : mm_dec q101 87 = some (.ireturn) := by decide +kernel
theorem d102_0 : mm_dec q102 0 = some (.aload_n 0) := by decide +kernel
theorem d102_1 : mm_dec q102 1 = some (.iload_n 1) := by decide +kernel
theorem d102_2 : mm_dec q102 2 = some (.invokevirtual 176) := by decide +kernel
theorem d102_5 : mm_dec q102 5 = some (.ifCond .eq 7) := by decide +kernel
theorem d102_8 : mm_dec q102 8 = some (.iload_n 2) := by decide +kernel
theorem d102_9 : mm_dec q102 9 = some (.ifCond .ge 5) := by decide +kernel
theorem d102_12 : mm_dec q102 12 = some (.iconst (-1)) := by decide +kernel
theorem d102_13 : mm_dec q102 13 = some (.ireturn) := by decide +kernel
theorem d102_14 : mm_dec q102 14 = some (.aload_n 0) := by decide +kernel
theorem d102_15 : mm_dec q102 15 = some (.getfield 98) := by decide +kernel
theorem d102_18 : mm_dec q102 18 = some (.aload_n 0) := by decide +kernel
theorem d102_19 : mm_dec q102 19 = some (.getfield 69) := by decide +kernel
theorem d102_22 : mm_dec q102 22 = some (.sipush 240) := by decide +kernel
theorem d102_25 : mm_dec q102 25 = some (.invokevirtual 163) := by decide +kernel
theorem d102_28 : mm_dec q102 28 = some (.iconst 0) := by decide +kernel
theorem d102_29 : mm_dec q102 29 = some (.istore_n 3) := by decide +kernel
theorem d102_30 : mm_dec q102 30 = some (.iload_n 3) := by decide +kernel
theorem d102_31 : mm_dec q102 31 = some (.sipush 240) := by decide +kernel
theorem d102_34 : mm_dec q102 34 = some (.if_icmp .ge 44) := by decide +kernel
theorem d102_37 : mm_dec q102 37 = some (.aload_n 0) := by decide +kernel
theorem d102_38 : mm_dec q102 38 = some (.getfield 98) := by decide +kernel
theorem d102_41 : mm_dec q102 41 = some (.invokevirtual 167) := by decide +kernel
theorem d102_44 : mm_dec q102 44 = some (.aload_n 0) := by decide +kernel
theorem d102_45 : mm_dec q102 45 = some (.getfield 98) := by decide +kernel
theorem d102_48 : mm_dec q102 48 = some (.getfield 247) := by decide +kernel
theorem d102_51 : mm_dec q102 51 = some (.getfield 186) := by decide +kernel
theorem d102_54 : mm_dec q102 54 = some (.iload_n 1) := by decide +kernel
theorem d102_55 : mm_dec q102 55 = some (.iaload) := by decide +kernel
theorem d102_56 : mm_dec q102 56 = some (.aload_n 0) := by decide +kernel
theorem d102_57 : mm_dec q102 57 = some (.getfield 69) := by decide +kernel
theorem d102_60 : mm_dec q102 60 = some (.getfield 186) := by decide +kernel
theorem d102_63 : mm_dec q102 63 = some (.iload_n 1) := by decide +kernel
theorem d102_64 : mm_dec q102 64 = some (.iaload) := by decide +kernel
theorem d102_65 : mm_dec q102 65 = some (.isub) := by decide +kernel
theorem d102_66 : mm_dec q102 66 = some (.iload_n 2) := by decide +kernel
theorem d102_67 : mm_dec q102 67 = some (.if_icmp .le 5) := by decide +kernel
theorem d102_70 : mm_dec q102 70 = some (.iload_n 3) := by decide +kernel
theorem d102_71 : mm_dec q102 71 = some (.ireturn) := by decide +kernel
theorem d102_72 : mm_dec q102 72 = some (.iinc 3 1) := by decide +kernel
theorem d102_75 : mm_dec q102 75 = some (.goto (-45)) := by decide +kernel
theorem d102_78 : mm_dec q102 78 = some (.iconst (-1)) := by decide +kernel
theorem d102_79 : mm_dec q102 79 = some (.ireturn) := by decide +kernel
theorem d103_0 : mm_dec q103 0 = some (.aload_n 0) := by decide +kernel
theorem d103_1 : mm_dec q103 1 = some (.iload_n 1) := by decide +kernel
theorem d103_2 : mm_dec q103 2 = some (.invokevirtual 176) := by decide +kernel
theorem d103_5 : mm_dec q103 5 = some (.ifCond .eq 10) := by decide +kernel
theorem d103_8 : mm_dec q103 8 = some (.iload_n 2) := by decide +kernel
theorem d103_9 : mm_dec q103 9 = some (.invokestatic 210) := by decide +kernel
theorem d103_12 : mm_dec q103 12 = some (.ifCond .ne 5) := by decide +kernel
theorem d103_15 : mm_dec q103 15 = some (.iconst (-1)) := by decide +kernel
theorem d103_16 : mm_dec q103 16 = some (.ireturn) := by decide +kernel
theorem d103_17 : mm_dec q103 17 = some (.aload_n 0) := by decide +kernel
theorem d103_18 : mm_dec q103 18 = some (.getfield 98) := by decide +kernel
theorem d103_21 : mm_dec q103 21 = some (.aload_n 0) := by decide +kernel
theorem d103_22 : mm_dec q103 22 = some (.getfield 69) := by decide +kernel
theorem d103_25 : mm_dec q103 25 = some (.iload_n 2) := by decide +kernel
theorem d103_26 : mm_dec q103 26 = some (.invokevirtual 163) := by decide +kernel
theorem d103_29 : mm_dec q103 29 = some (.aload_n 0) := by decide +kernel
theorem d103_30 : mm_dec q103 30 = some (.getfield 98) := by decide +kernel
theorem d103_33 : mm_dec q103 33 = some (.iload_n 1) := by decide +kernel
theorem d103_34 : mm_dec q103 34 = some (.iload_n 2) := by decide +kernel
theorem d103_35 : mm_dec q103 35 = some (.invokevirtual 250) := by decide +kernel
theorem d103_38 : mm_dec q103 38 = some (.ireturn) := by decide +kernel
theorem d104_0 : mm_dec q104 0 = some (.aload_n 0) := by decide +kernel
theorem d104_1 : mm_dec q104 1 = some (.iload_n 1) := by decide +kernel
theorem d104_2 : mm_dec q104 2 = some (.invokevirtual 176) := by decide +kernel
theorem d104_5 : mm_dec q104 5 = some (.ifCond .eq 10) := by decide +kernel
theorem d104_8 : mm_dec q104 8 = some (.iload_n 2) := by decide +kernel
theorem d104_9 : mm_dec q104 9 = some (.invokestatic 210) := by decide +kernel
theorem d104_12 : mm_dec q104 12 = some (.ifCond .ne 5) := by decide +kernel
theorem d104_15 : mm_dec q104 15 = some (.iconst (-1)) := by decide +kernel
theorem d104_16 : mm_dec q104 16 = some (.ireturn) := by decide +kernel
theorem d104_17 : mm_dec q104 17 = some (.aload_n 0) := by decide +kernel
theorem d104_18 : mm_dec q104 18 = some (.getfield 98) := by decide +kernel
theorem d104_21 : mm_dec q104 21 = some (.aload_n 0) := by decide +kernel
theorem d104_22 : mm_dec q104 22 = some (.getfield 69) := by decide +kernel
theorem d104_25 : mm_dec q104 25 = some (.iload_n 2) := by decide +kernel
theorem d104_26 : mm_dec q104 26 = some (.invokevirtual 163) := by decide +kernel
theorem d104_29 : mm_dec q104 29 = some (.iconst 0) := by decide +kernel
theorem d104_30 : mm_dec q104 30 = some (.istore_n 3) := by decide +kernel
theorem d104_31 : mm_dec q104 31 = some (.iconst 0) := by decide +kernel
theorem d104_32 : mm_dec q104 32 = some (.istore 4) := by decide +kernel
theorem d104_34 : mm_dec q104 34 = some (.iconst 0) := by decide +kernel
theorem d104_35 : mm_dec q104 35 = some (.istore 5) := by decide +kernel
theorem d104_37 : mm_dec q104 37 = some (.iload 5) := by decide +kernel
theorem d104_39 : mm_dec q104 39 = some (.iload_n 2) := by decide +kernel
theorem d104_40 : mm_dec q104 40 = some (.if_icmp .ge 47) := by decide +kernel
theorem d104_43 : mm_dec q104 43 = some (.aload_n 0) := by decide +kernel
theorem d104_44 : mm_dec q104 44 = some (.getfield 98) := by decide +kernel
theorem d104_47 : mm_dec q104 47 = some (.invokevirtual 167) := by decide +kernel
theorem d104_50 : mm_dec q104 50 = some (.aload_n 0) := by decide +kernel
theorem d104_51 : mm_dec q104 51 = some (.getfield 98) := by decide +kernel
theorem d104_54 : mm_dec q104 54 = some (.getfield 254) := by decide +kernel
theorem d104_57 : mm_dec q104 57 = some (.iload_n 1) := by decide +kernel
theorem d104_58 : mm_dec q104 58 = some (.ishr) := by decide +kernel
theorem d104_59 : mm_dec q104 59 = some (.iconst 1) := by decide +kernel
theorem d104_60 : mm_dec q104 60 = some (.iand) := by decide +kernel
theorem d104_61 : mm_dec q104 61 = some (.ifCond .eq 10) := by decide +kernel
theorem d104_64 : mm_dec q104 64 = some (.iload 4) := by decide +kernel
theorem d104_66 : mm_dec q104 66 = some (.iconst 1) := by decide +kernel
theorem d104_67 : mm_dec q104 67 = some (.iadd) := by decide +kernel
theorem d104_68 : mm_dec q104 68 = some (.goto 4) := by decide +kernel
theorem d104_71 : mm_dec q104 71 = some (.iconst 0) := by decide +kernel
theorem d104_72 : mm_dec q104 72 = some (.istore 4) := by decide +kernel
theorem d104_74 : mm_dec q104 74 = some (.iload_n 3) := by decide +kernel
theorem d104_75 : mm_dec q104 75 = some (.iload 4) := by decide +kernel
theorem d104_77 : mm_dec q104 77 = some (.invokestatic 257) := by decide +kernel
theorem d104_80 : mm_dec q104 80 = some (.istore_n 3) := by decide +kernel
theorem d104_81 : mm_dec q104 81 = some (.iinc 5 1) := by decide +kernel
theorem d104_84 : mm_dec q104 84 = some (.goto (-47)) := by decide +kernel
theorem d104_87 : mm_dec q104 87 = some (.iload_n 3) := by decide +kernel
theorem d104_88 : mm_dec q104 88 = some (.ireturn) := by decide +kernel
theorem d105_0 : mm_dec q105 0 = some (.aload_n 0) := by decide +kernel
theorem d105_1 : mm_dec q105 1 = some (.iload_n 1) := by decide +kernel
theorem d105_2 : mm_dec q105 2 = some (.invokevirtual 148) := by decide +kernel
theorem d105_5 : mm_dec q105 5 = some (.ifCond .eq 10) := by decide +kernel
theorem d105_8 : mm_dec q105 8 = some (.iload_n 2) := by decide +kernel
theorem d105_9 : mm_dec q105 9 = some (.invokestatic 210) := by decide +kernel
theorem d105_12 : mm_dec q105 12 = some (.ifCond .ne 5) := by decide +kernel
theorem d105_15 : mm_dec q105 15 = some (.iconst (-1)) := by decide +kernel
theorem d105_16 : mm_dec q105 16 = some (.ireturn) := by decide +kernel
theorem d105_17 : mm_dec q105 17 = some (.aload_n 0) := by decide +kernel
theorem d105_18 : mm_dec q105 18 = some (.getfield 28) := by decide +kernel
theorem d105_21 : mm_dec q105 21 = some (.iload_n 1) := by decide +kernel
theorem d105_22 : mm_dec q105 22 = some (.invokevirtual 262) := by decide +kernel
theorem d105_25 : mm_dec q105 25 = some (.istore_n 3) := by decide +kernel
theorem d105_26 : mm_dec q105 26 = some (.aload_n 0) := by decide +kernel
theorem d105_27 : mm_dec q105 27 = some (.getfield 98) := by decide +kernel
theorem d105_30 : mm_dec q105 30 = some (.aload_n 0) := by decide +kernel
theorem d105_31 : mm_dec q105 31 = some (.getfield 69) := by decide +kernel
theorem d105_34 : mm_dec q105 34 = some (.iload_n 2) := by decide +kernel
theorem d105_35 : mm_dec q105 35 = some (.invokevirtual 163) := by decide +kernel
theorem d105_38 : mm_dec q105 38 = some (.iconst 0) := by decide +kernel
theorem d105_39 : mm_dec q105 39 = some (.istore 4) := by decide +kernel
theorem d105_41 : mm_dec q105 41 = some (.iconst 0) := by decide +kernel
theorem d105_42 : mm_dec q105 42 = some (.istore 5) := by decide +kernel
theorem d105_44 : mm_dec q105 44 = some (.iload 5) := by decide +kernel
theorem d105_46 : mm_dec q105 46 = some (.iload_n 2) := by decide +kernel
theorem d105_47 : mm_dec q105 47 = some (.if_icmp .ge 33) := by decide +kernel
theorem d105_50 : mm_dec q105 50 = some (.aload_n 0) := by decide +kernel
theorem d105_51 : mm_dec q105 51 = some (.getfield 98) := by decide +kernel
theorem d105_54 : mm_dec q105 54 = some (.invokevirtual 167) := by decide +kernel
theorem d105_57 : mm_dec q105 57 = some (.iload 4) := by decide +kernel
theorem d105_59 : mm_dec q105 59 = some (.aload_n 0) := by decide +kernel
theorem d105_60 : mm_dec q105 60 = some (.getfield 98) := by decide +kernel
theorem d105_63 : mm_dec q105 63 = some (.getfield 254) := by decide +kernel
theorem d105_66 : mm_dec q105 66 = some (.iload_n 3) := by decide +kernel
theorem d105_67 : mm_dec q105 67 = some (.iand) := by decide +kernel
theorem d105_68 : mm_dec q105 68 = some (.invokestatic 265) := by decide +kernel
theorem d105_71 : mm_dec q105 71 = some (.iadd) := by decide +kernel
theorem d105_72 : mm_dec q105 72 = some (.istore 4) := by decide +kernel
theorem d105_74 : mm_dec q105 74 = some (.iinc 5 1) := by decide +kernel
theorem d105_77 : mm_dec q105 77 = some (.goto (-33)) := by decide +kernel
theorem d105_80 : mm_dec q105 80 = some (.iload 4) := by decide +kernel
theorem d105_82 : mm_dec q105 82 = some (.ireturn) := by decide +kernel
theorem d106_0 : mm_dec q106 0 = some (.aload_n 0) := by decide +kernel
theorem d106_1 : mm_dec q106 1 = some (.invokevirtual 189) := by decide +kernel
theorem d106_4 : mm_dec q106 4 = some (.ifCond .eq 19) := by decide +kernel
theorem d106_7 : mm_dec q106 7 = some (.iload_n 1) := by decide +kernel
theorem d106_8 : mm_dec q106 8 = some (.invokestatic 210) := by decide +kernel
theorem d106_11 : mm_dec q106 11 = some (.ifCond .eq 12) := by decide +kernel
theorem d106_14 : mm_dec q106 14 = some (.iload_n 2) := by decide +kernel
theorem d106_15 : mm_dec q106 15 = some (.ifCond .lt 8) := by decide +kernel
theorem d106_18 : mm_dec q106 18 = some (.iload_n 2) := by decide +kernel
theorem d106_19 : mm_dec q106 19 = some (.iconst 1) := by decide +kernel
theorem d106_20 : mm_dec q106 20 = some (.if_icmp .le 5) := by decide +kernel
theorem d106_23 : mm_dec q106 23 = some (.iconst (-1)) := by decide +kernel
theorem d106_24 : mm_dec q106 24 = some (.ireturn) := by decide +kernel
theorem d106_25 : mm_dec q106 25 = some (.aload_n 0) := by decide +kernel
theorem d106_26 : mm_dec q106 26 = some (.getfield 98) := by decide +kernel
theorem d106_29 : mm_dec q106 29 = some (.aload_n 0) := by decide +kernel
theorem d106_30 : mm_dec q106 30 = some (.getfield 69) := by decide +kernel
theorem d106_33 : mm_dec q106 33 = some (.iload_n 1) := by decide +kernel
theorem d106_34 : mm_dec q106 34 = some (.invokevirtual 163) := by decide +kernel
theorem d106_37 : mm_dec q106 37 = some (.iconst 0) := by decide +kernel
theorem d106_38 : mm_dec q106 38 = some (.istore_n 3) := by decide +kernel
theorem d106_39 : mm_dec q106 39 = some (.iconst 0) := by decide +kernel
theorem d106_40 : mm_dec q106 40 = some (.istore 4) := by decide +kernel
theorem d106_42 : mm_dec q106 42 = some (.iconst 0) := by decide +kernel
theorem d106_43 : mm_dec q106 43 = some (.istore 5) := by decide +kernel
theorem d106_45 : mm_dec q106 45 = some (.iconst 0) := by decide +kernel
theorem d106_46 : mm_dec q106 46 = some (.istore 6) := by decide +kernel
theorem d106_48 : mm_dec q106 48 = some (.iload 6) := by decide +kernel
theorem d106_50 : mm_dec q106 50 = some (.iload_n 1) := by decide +kernel
theorem d106_51 : mm_dec q106 51 = some (.if_icmp .ge 70) := by decide +kernel
theorem d106_54 : mm_dec q106 54 = some (.aload_n 0) := by decide +kernel
theorem d106_55 : mm_dec q106 55 = some (.getfield 98) := by decide +kernel
theorem d106_58 : mm_dec q106 58 = some (.invokevirtual 167) := by decide +kernel
theorem d106_61 : mm_dec q106 61 = some (.aload_n 0) := by decide +kernel
theorem d106_62 : mm_dec q106 62 = some (.getfield 98) := by decide +kernel
theorem d106_65 : mm_dec q106 65 = some (.getfield 173) := by decide +kernel
theorem d106_68 : mm_dec q106 68 = some (.ifCond .eq 7) := by decide +kernel
theorem d106_71 : mm_dec q106 71 = some (.iconst 1) := by decide +kernel
theorem d106_72 : mm_dec q106 72 = some (.goto 4) := by decide +kernel
theorem d106_75 : mm_dec q106 75 = some (.iconst 0) := by decide +kernel
theorem d106_76 : mm_dec q106 76 = some (.istore 7) := by decide +kernel
theorem d106_78 : mm_dec q106 78 = some (.iload_n 3) := by decide +kernel
theorem d106_79 : mm_dec q106 79 = some (.iload 7) := by decide +kernel
theorem d106_81 : mm_dec q106 81 = some (.ifCond .eq 7) := by decide +kernel
theorem d106_84 : mm_dec q106 84 = some (.iconst 1) := by decide +kernel
theorem d106_85 : mm_dec q106 85 = some (.goto 4) := by decide +kernel
theorem d106_88 : mm_dec q106 88 = some (.iconst 0) := by decide +kernel
theorem d106_89 : mm_dec q106 89 = some (.iadd) := by decide +kernel
theorem d106_90 : mm_dec q106 90 = some (.istore_n 3) := by decide +kernel
theorem d106_91 : mm_dec q106 91 = some (.iload 7) := by decide +kernel
theorem d106_93 : mm_dec q106 93 = some (.ifCond .eq 7) := by decide +kernel
theorem d106_96 : mm_dec q106 96 = some (.iconst 0) := by decide +kernel
theorem d106_97 : mm_dec q106 97 = some (.goto 7) := by decide +kernel
theorem d106_100 : mm_dec q106 100 = some (.iload 4) := by decide +kernel
theorem d106_102 : mm_dec q106 102 = some (.iconst 1) := by decide +kernel
theorem d106_103 : mm_dec q106 103 = some (.iadd) := by decide +kernel
theorem d106_104 : mm_dec q106 104 = some (.istore 4) := by decide +kernel
theorem d106_106 : mm_dec q106 106 = some (.iload 5) := by decide +kernel
theorem d106_108 : mm_dec q106 108 = some (.iload 4) := by decide +kernel
theorem d106_110 : mm_dec q106 110 = some (.invokestatic 257) := by decide +kernel
theorem d106_113 : mm_dec q106 113 = some (.istore 5) := by decide +kernel
theorem d106_115 : mm_dec q106 115 = some (.iinc 6 1) := by decide +kernel
theorem d106_118 : mm_dec q106 118 = some (.goto (-70)) := by decide +kernel
theorem d106_121 : mm_dec q106 121 = some (.iload_n 2) := by decide +kernel
theorem d106_122 : mm_dec q106 122 = some (.ifCond .ne 7) := by decide +kernel
theorem d106_125 : mm_dec q106 125 = some (.iload_n 3) := by decide +kernel
theorem d106_126 : mm_dec q106 126 = some (.goto 5) := by decide +kernel
theorem d106_129 : mm_dec q106 129 = some (.iload 5) := by decide +kernel
theorem d106_131 : mm_dec q106 131 = some (.ireturn) := by decide +kernel
theorem d107_0 : mm_dec q107 0 = some (.aload_n 0) := by decide +kernel
theorem d107_1 : mm_dec q107 1 = some (.invokevirtual 189) := by decide +kernel
theorem d107_4 : mm_dec q107 4 = some (.ifCond .eq 10) := by decide +kernel
theorem d107_7 : mm_dec q107 7 = some (.iload_n 1) := by decide +kernel
theorem d107_8 : mm_dec q107 8 = some (.invokestatic 210) := by decide +kernel
theorem d107_11 : mm_dec q107 11 = some (.ifCond .ne 5) := by decide +kernel
theorem d107_14 : mm_dec q107 14 = some (.iconst (-1)) := by decide +kernel
theorem d107_15 : mm_dec q107 15 = some (.ireturn) := by decide +kernel
theorem d107_16 : mm_dec q107 16 = some (.aload_n 0) := by decide +kernel
theorem d107_17 : mm_dec q107 17 = some (.getfield 98) := by decide +kernel
theorem d107_20 : mm_dec q107 20 = some (.aload_n 0) := by decide +kernel
theorem d107_21 : mm_dec q107 21 = some (.getfield 69) := by decide +kernel
theorem d107_24 : mm_dec q107 24 = some (.iload_n 1) := by decide +kernel
theorem d107_25 : mm_dec q107 25 = some (.invokevirtual 163) := by decide +kernel
theorem d107_28 : mm_dec q107 28 = some (.iconst 0) := by decide +kernel
theorem d107_29 : mm_dec q107 29 = some (.istore_n 2) := by decide +kernel
theorem d107_30 : mm_dec q107 30 = some (.iload_n 2) := by decide +kernel
theorem d107_31 : mm_dec q107 31 = some (.aload_n 0) := by decide +kernel
theorem d107_32 : mm_dec q107 32 = some (.getfield 28) := by decide +kernel
theorem d107_35 : mm_dec q107 35 = some (.getfield 139) := by decide +kernel
theorem d107_38 : mm_dec q107 38 = some (.if_icmp .gt 81) := by decide +kernel
theorem d107_41 : mm_dec q107 41 = some (.iconst 0) := by decide +kernel
theorem d107_42 : mm_dec q107 42 = some (.istore_n 3) := by decide +kernel
theorem d107_43 : mm_dec q107 43 = some (.iload_n 3) := by decide +kernel
theorem d107_44 : mm_dec q107 44 = some (.iconst 1) := by decide +kernel
theorem d107_45 : mm_dec q107 45 = some (.aload_n 0) := by decide +kernel
theorem d107_46 : mm_dec q107 46 = some (.getfield 28) := by decide +kernel
theorem d107_49 : mm_dec q107 49 = some (.getfield 139) := by decide +kernel
theorem d107_52 : mm_dec q107 52 = some (.ishl) := by decide +kernel
theorem d107_53 : mm_dec q107 53 = some (.if_icmp .ge 60) := by decide +kernel
theorem d107_56 : mm_dec q107 56 = some (.iload_n 3) := by decide +kernel
theorem d107_57 : mm_dec q107 57 = some (.invokestatic 265) := by decide +kernel
theorem d107_60 : mm_dec q107 60 = some (.iload_n 2) := by decide +kernel
theorem d107_61 : mm_dec q107 61 = some (.if_icmp .eq 6) := by decide +kernel
theorem d107_64 : mm_dec q107 64 = some (.goto 43) := by decide +kernel
theorem d107_67 : mm_dec q107 67 = some (.aload_n 0) := by decide +kernel
theorem d107_68 : mm_dec q107 68 = some (.getfield 98) := by decide +kernel
theorem d107_71 : mm_dec q107 71 = some (.invokevirtual 270) := by decide +kernel
theorem d107_74 : mm_dec q107 74 = some (.aload_n 0) := by decide +kernel
theorem d107_75 : mm_dec q107 75 = some (.getfield 98) := by decide +kernel
theorem d107_78 : mm_dec q107 78 = some (.iload_n 3) := by decide +kernel
theorem d107_79 : mm_dec q107 79 = some (.putfield 271) := by decide +kernel
theorem d107_82 : mm_dec q107 82 = some (.aload_n 0) := by decide +kernel
theorem d107_83 : mm_dec q107 83 = some (.getfield 98) := by decide +kernel
theorem d107_86 : mm_dec q107 86 = some (.iload_n 1) := by decide +kernel
theorem d107_87 : mm_dec q107 87 = some (.invokevirtual 244) := by decide +kernel
theorem d107_90 : mm_dec q107 90 = some (.aload_n 0) := by decide +kernel
theorem d107_91 : mm_dec q107 91 = some (.getfield 98) := by decide +kernel
theorem d107_94 : mm_dec q107 94 = some (.getfield 247) := by decide +kernel
theorem d107_97 : mm_dec q107 97 = some (.getfield 182) := by decide +kernel
theorem d107_100 : mm_dec q107 100 = some (.iconst 0) := by decide +kernel
theorem d107_101 : mm_dec q107 101 = some (.iaload) := by decide +kernel
theorem d107_102 : mm_dec q107 102 = some (.ifCond .ne 5) := by decide +kernel
theorem d107_105 : mm_dec q107 105 = some (.iload_n 3) := by decide +kernel
theorem d107_106 : mm_dec q107 106 = some (.ireturn) := by decide +kernel
theorem d107_107 : mm_dec q107 107 = some (.iinc 3 1) := by decide +kernel
theorem d107_110 : mm_dec q107 110 = some (.goto (-67)) := by decide +kernel
theorem d107_113 : mm_dec q107 113 = some (.iinc 2 1) := by decide +kernel
theorem d107_116 : mm_dec q107 116 = some (.goto (-86)) := by decide +kernel
theorem d107_119 : mm_dec q107 119 = some (.iconst (-1)) := by decide +kernel
theorem d107_120 : mm_dec q107 120 = some (.ireturn) := by decide +kernel
theorem d108_0 : mm_dec q108 0 = some (.aload_n 0) := by decide +kernel
theorem d108_1 : mm_dec q108 1 = some (.invokevirtual 189) := by decide +kernel
theorem d108_4 : mm_dec q108 4 = some (.ifCond .eq 10) := by decide +kernel
theorem d108_7 : mm_dec q108 7 = some (.iload_n 1) := by decide +kernel
theorem d108_8 : mm_dec q108 8 = some (.invokestatic 210) := by decide +kernel
theorem d108_11 : mm_dec q108 11 = some (.ifCond .ne 5) := by decide +kernel
theorem d108_14 : mm_dec q108 14 = some (.iconst (-1)) := by decide +kernel
theorem d108_15 : mm_dec q108 15 = some (.ireturn) := by decide +kernel
theorem d108_16 : mm_dec q108 16 = some (.aload_n 0) := by decide +kernel
theorem d108_17 : mm_dec q108 17 = some (.getfield 98) := by decide +kernel
theorem d108_20 : mm_dec q108 20 = some (.aload_n 0) := by decide +kernel
theorem d108_21 : mm_dec q108 21 = some (.getfield 69) := by decide +kernel
theorem d108_24 : mm_dec q108 24 = some (.iload_n 1) := by decide +kernel
theorem d108_25 : mm_dec q108 25 = some (.invokevirtual 163) := by decide +kernel
theorem d108_28 : mm_dec q108 28 = some (.iconst 0) := by decide +kernel
theorem d108_29 : mm_dec q108 29 = some (.istore_n 2) := by decide +kernel
theorem d108_30 : mm_dec q108 30 = some (.iload_n 2) := by decide +kernel
theorem d108_31 : mm_dec q108 31 = some (.aload_n 0) := by decide +kernel
theorem d108_32 : mm_dec q108 32 = some (.getfield 28) := by decide +kernel
theorem d108_35 : mm_dec q108 35 = some (.getfield 139) := by decide +kernel
theorem d108_38 : mm_dec q108 38 = some (.if_icmp .gt 52) := by decide +kernel
theorem d108_41 : mm_dec q108 41 = some (.iconst 0) := by decide +kernel
theorem d108_42 : mm_dec q108 42 = some (.istore_n 3) := by decide +kernel
theorem d108_43 : mm_dec q108 43 = some (.iload_n 3) := by decide +kernel
theorem d108_44 : mm_dec q108 44 = some (.iconst 1) := by decide +kernel
theorem d108_45 : mm_dec q108 45 = some (.aload_n 0) := by decide +kernel
theorem d108_46 : mm_dec q108 46 = some (.getfield 28) := by decide +kernel
theorem d108_49 : mm_dec q108 49 = some (.getfield 139) := by decide +kernel
theorem d108_52 : mm_dec q108 52 = some (.ishl) := by decide +kernel
theorem d108_53 : mm_dec q108 53 = some (.if_icmp .ge 31) := by decide +kernel
theorem d108_56 : mm_dec q108 56 = some (.iload_n 3) := by decide +kernel
theorem d108_57 : mm_dec q108 57 = some (.invokestatic 265) := by decide +kernel
theorem d108_60 : mm_dec q108 60 = some (.iload_n 2) := by decide +kernel
theorem d108_61 : mm_dec q108 61 = some (.if_icmp .ne 17) := by decide +kernel
theorem d108_64 : mm_dec q108 64 = some (.aload_n 0) := by decide +kernel
theorem d108_65 : mm_dec q108 65 = some (.getfield 98) := by decide +kernel
theorem d108_68 : mm_dec q108 68 = some (.iload_n 3) := by decide +kernel
theorem d108_69 : mm_dec q108 69 = some (.iload_n 1) := by decide +kernel
theorem d108_70 : mm_dec q108 70 = some (.invokevirtual 274) := by decide +kernel
theorem d108_73 : mm_dec q108 73 = some (.ifCond .eq 5) := by decide +kernel
theorem d108_76 : mm_dec q108 76 = some (.iload_n 3) := by decide +kernel
theorem d108_77 : mm_dec q108 77 = some (.ireturn) := by decide +kernel
theorem d108_78 : mm_dec q108 78 = some (.iinc 3 1) := by decide +kernel
theorem d108_81 : mm_dec q108 81 = some (.goto (-38)) := by decide +kernel
theorem d108_84 : mm_dec q108 84 = some (.iinc 2 1) := by decide +kernel
theorem d108_87 : mm_dec q108 87 = some (.goto (-57)) := by decide +kernel
theorem d108_90 : mm_dec q108 90 = some (.iconst (-1)) := by decide +kernel
theorem d108_91 : mm_dec q108 91 = some (.ireturn) := by decide +kernel
theorem d109_0 : mm_dec q109 0 = some (.aload_n 0) := by decide +kernel
theorem d109_1 : mm_dec q109 1 = some (.iload_n 1) := by decide +kernel
theorem d109_2 : mm_dec q109 2 = some (.invokevirtual 148) := by decide +kernel
theorem d109_5 : mm_dec q109 5 = some (.ifCond .eq 34) := by decide +kernel
theorem d109_8 : mm_dec q109 8 = some (.aload_n 0) := by decide +kernel
theorem d109_9 : mm_dec q109 9 = some (.iload_n 2) := by decide +kernel
theorem d109_10 : mm_dec q109 10 = some (.invokevirtual 148) := by decide +kernel
theorem d109_13 : mm_dec q109 13 = some (.ifCond .eq 26) := by decide +kernel
theorem d109_16 : mm_dec q109 16 = some (.iload_n 1) := by decide +kernel
theorem d109_17 : mm_dec q109 17 = some (.iload_n 2) := by decide +kernel
theorem d109_18 : mm_dec q109 18 = some (.if_icmp .eq 21) := by decide +kernel
theorem d109_21 : mm_dec q109 21 = some (.iload_n 3) := by decide +kernel
theorem d109_22 : mm_dec q109 22 = some (.invokestatic 210) := by decide +kernel
theorem d109_25 : mm_dec q109 25 = some (.ifCond .eq 14) := by decide +kernel
theorem d109_28 : mm_dec q109 28 = some (.iload 4) := by decide +kernel
theorem d109_30 : mm_dec q109 30 = some (.ifCond .lt 9) := by decide +kernel
theorem d109_33 : mm_dec q109 33 = some (.iload 4) := by decide +kernel
theorem d109_35 : mm_dec q109 35 = some (.iconst 1) := by decide +kernel
theorem d109_36 : mm_dec q109 36 = some (.if_icmp .le 7) := by decide +kernel
theorem d109_39 : mm_dec q109 39 = some (.ldc_w 277) := by decide +kernel
theorem d109_42 : mm_dec q109 42 = some (.ireturn) := by decide +kernel
theorem d109_43 : mm_dec q109 43 = some (.iconst 1) := by decide +kernel
theorem d109_44 : mm_dec q109 44 = some (.iload_n 1) := by decide +kernel
theorem d109_45 : mm_dec q109 45 = some (.ishl) := by decide +kernel
theorem d109_46 : mm_dec q109 46 = some (.iconst 1) := by decide +kernel
theorem d109_47 : mm_dec q109 47 = some (.iload_n 2) := by decide +kernel
theorem d109_48 : mm_dec q109 48 = some (.ishl) := by decide +kernel
theorem d109_49 : mm_dec q109 49 = some (.ior) := by decide +kernel
theorem d109_50 : mm_dec q109 50 = some (.istore 5) := by decide +kernel
theorem d109_52 : mm_dec q109 52 = some (.aload_n 0) := by decide +kernel
theorem d109_53 : mm_dec q109 53 = some (.getfield 98) := by decide +kernel
theorem d109_56 : mm_dec q109 56 = some (.aload_n 0) := by decide +kernel
theorem d109_57 : mm_dec q109 57 = some (.getfield 69) := by decide +kernel
theorem d109_60 : mm_dec q109 60 = some (.iload_n 3) := by decide +kernel
theorem d109_61 : mm_dec q109 61 = some (.invokevirtual 163) := by decide +kernel
theorem d109_64 : mm_dec q109 64 = some (.iconst (-1)) := by decide +kernel
theorem d109_65 : mm_dec q109 65 = some (.istore 6) := by decide +kernel
theorem d109_67 : mm_dec q109 67 = some (.iconst 0) := by decide +kernel
theorem d109_68 : mm_dec q109 68 = some (.istore 7) := by decide +kernel
theorem d109_70 : mm_dec q109 70 = some (.iconst 0) := by decide +kernel
theorem d109_71 : mm_dec q109 71 = some (.istore 8) := by decide +kernel
theorem d109_73 : mm_dec q109 73 = some (.iload 8) := by decide +kernel
theorem d109_75 : mm_dec q109 75 = some (.iload_n 3) := by decide +kernel
theorem d109_76 : mm_dec q109 76 = some (.if_icmp .ge 46) := by decide +kernel
theorem d109_79 : mm_dec q109 79 = some (.aload_n 0) := by decide +kernel
theorem d109_80 : mm_dec q109 80 = some (.getfield 98) := by decide +kernel
theorem d109_83 : mm_dec q109 83 = some (.invokevirtual 167) := by decide +kernel
theorem d109_86 : mm_dec q109 86 = some (.aload_n 0) := by decide +kernel
theorem d109_87 : mm_dec q109 87 = some (.getfield 98) := by decide +kernel
theorem d109_90 : mm_dec q109 90 = some (.getfield 170) := by decide +kernel
theorem d109_93 : mm_dec q109 93 = some (.iload 5) := by decide +kernel
theorem d109_95 : mm_dec q109 95 = some (.iand) := by decide +kernel
theorem d109_96 : mm_dec q109 96 = some (.ifCond .ne 20) := by decide +kernel
theorem d109_99 : mm_dec q109 99 = some (.iload 7) := by decide +kernel
theorem d109_101 : mm_dec q109 101 = some (.ifCond .ne 8) := by decide +kernel
theorem d109_104 : mm_dec q109 104 = some (.iload 8) := by decide +kernel
theorem d109_106 : mm_dec q109 106 = some (.goto 5) := by decide +kernel
theorem d109_109 : mm_dec q109 109 = some (.iload 6) := by decide +kernel
theorem d109_111 : mm_dec q109 111 = some (.istore 6) := by decide +kernel
theorem d109_113 : mm_dec q109 113 = some (.iinc 7 1) := by decide +kernel
theorem d109_116 : mm_dec q109 116 = some (.iinc 8 1) := by decide +kernel
theorem d109_119 : mm_dec q109 119 = some (.goto (-46)) := by decide +kernel
theorem d109_122 : mm_dec q109 122 = some (.iload 4) := by decide +kernel
theorem d109_124 : mm_dec q109 124 = some (.ifCond .ne 8) := by decide +kernel
theorem d109_127 : mm_dec q109 127 = some (.iload 6) := by decide +kernel
theorem d109_129 : mm_dec q109 129 = some (.goto 5) := by decide +kernel
theorem d109_132 : mm_dec q109 132 = some (.iload 7) := by decide +kernel
theorem d109_134 : mm_dec q109 134 = some (.ireturn) := by decide +kernel
theorem d110_0 : mm_dec q110 0 = some (.aload_n 0) := by decide +kernel
theorem d110_1 : mm_dec q110 1 = some (.invokevirtual 189) := by decide +kernel
theorem d110_4 : mm_dec q110 4 = some (.ifCond .eq 19) := by decide +kernel
theorem d110_7 : mm_dec q110 7 = some (.iload_n 1) := by decide +kernel
theorem d110_8 : mm_dec q110 8 = some (.invokestatic 210) := by decide +kernel
theorem d110_11 : mm_dec q110 11 = some (.ifCond .eq 12) := by decide +kernel
theorem d110_14 : mm_dec q110 14 = some (.iload_n 2) := by decide +kernel
theorem d110_15 : mm_dec q110 15 = some (.ifCond .lt 8) := by decide +kernel
theorem d110_18 : mm_dec q110 18 = some (.iload_n 2) := by decide +kernel
theorem d110_19 : mm_dec q110 19 = some (.iconst 1) := by decide +kernel
theorem d110_20 : mm_dec q110 20 = some (.if_icmp .le 5) := by decide +kernel
theorem d110_23 : mm_dec q110 23 = some (.iconst (-1)) := by decide +kernel
theorem d110_24 : mm_dec q110 24 = some (.ireturn) := by decide +kernel
theorem d110_25 : mm_dec q110 25 = some (.aload_n 0) := by decide +kernel
theorem d110_26 : mm_dec q110 26 = some (.getfield 98) := by decide +kernel
theorem d110_29 : mm_dec q110 29 = some (.aload_n 0) := by decide +kernel
theorem d110_30 : mm_dec q110 30 = some (.getfield 69) := by decide +kernel
theorem d110_33 : mm_dec q110 33 = some (.iload_n 1) := by decide +kernel
theorem d110_34 : mm_dec q110 34 = some (.invokevirtual 163) := by decide +kernel
theorem d110_37 : mm_dec q110 37 = some (.iconst 0) := by decide +kernel
theorem d110_38 : mm_dec q110 38 = some (.istore_n 3) := by decide +kernel
theorem d110_39 : mm_dec q110 39 = some (.iload_n 3) := by decide +kernel
theorem d110_40 : mm_dec q110 40 = some (.aload_n 0) := by decide +kernel
theorem d110_41 : mm_dec q110 41 = some (.getfield 28) := by decide +kernel
theorem d110_44 : mm_dec q110 44 = some (.getfield 139) := by decide +kernel
theorem d110_47 : mm_dec q110 47 = some (.if_icmp .ge 43) := by decide +kernel
theorem d110_50 : mm_dec q110 50 = some (.aload_n 0) := by decide +kernel
theorem d110_51 : mm_dec q110 51 = some (.getfield 98) := by decide +kernel
theorem d110_54 : mm_dec q110 54 = some (.invokevirtual 270) := by decide +kernel
theorem d110_57 : mm_dec q110 57 = some (.aload_n 0) := by decide +kernel
theorem d110_58 : mm_dec q110 58 = some (.getfield 98) := by decide +kernel
theorem d110_61 : mm_dec q110 61 = some (.iconst 1) := by decide +kernel
theorem d110_62 : mm_dec q110 62 = some (.iload_n 3) := by decide +kernel
theorem d110_63 : mm_dec q110 63 = some (.ishl) := by decide +kernel
theorem d110_64 : mm_dec q110 64 = some (.putfield 271) := by decide +kernel
theorem d110_67 : mm_dec q110 67 = some (.aload_n 0) := by decide +kernel
theorem d110_68 : mm_dec q110 68 = some (.getfield 98) := by decide +kernel
theorem d110_71 : mm_dec q110 71 = some (.iload_n 3) := by decide +kernel
theorem d110_72 : mm_dec q110 72 = some (.aload_n 0) := by decide +kernel
theorem d110_73 : mm_dec q110 73 = some (.getfield 98) := by decide +kernel
theorem d110_76 : mm_dec q110 76 = some (.iconst 0) := by decide +kernel
theorem d110_77 : mm_dec q110 77 = some (.iload_n 1) := by decide +kernel
theorem d110_78 : mm_dec q110 78 = some (.invokevirtual 250) := by decide +kernel
theorem d110_81 : mm_dec q110 81 = some (.invokevirtual 278) := by decide +kernel
theorem d110_84 : mm_dec q110 84 = some (.iinc 3 1) := by decide +kernel
theorem d110_87 : mm_dec q110 87 = some (.goto (-48)) := by decide +kernel
theorem d110_90 : mm_dec q110 90 = some (.iload_n 2) := by decide +kernel
theorem d110_91 : mm_dec q110 91 = some (.ifCond .ne 13) := by decide +kernel
theorem d110_94 : mm_dec q110 94 = some (.aload_n 0) := by decide +kernel
theorem d110_95 : mm_dec q110 95 = some (.getfield 98) := by decide +kernel
theorem d110_98 : mm_dec q110 98 = some (.getfield 282) := by decide +kernel
theorem d110_101 : mm_dec q110 101 = some (.goto 10) := by decide +kernel
theorem d110_104 : mm_dec q110 104 = some (.aload_n 0) := by decide +kernel
theorem d110_105 : mm_dec q110 105 = some (.getfield 98) := by decide +kernel
theorem d110_108 : mm_dec q110 108 = some (.getfield 285) := by decide +kernel
theorem d110_111 : mm_dec q110 111 = some (.ireturn) := by decide +kernel
theorem d111_0 : mm_dec q111 0 = some (.aload_n 0) := by decide +kernel
theorem d111_1 : mm_dec q111 1 = some (.iload_n 1) := by decide +kernel
theorem d111_2 : mm_dec q111 2 = some (.invokevirtual 288) := by decide +kernel
theorem d111_5 : mm_dec q111 5 = some (.ifCond .eq 19) := by decide +kernel
theorem d111_8 : mm_dec q111 8 = some (.iload_n 2) := by decide +kernel
theorem d111_9 : mm_dec q111 9 = some (.invokestatic 210) := by decide +kernel
theorem d111_12 : mm_dec q111 12 = some (.ifCond .eq 12) := by decide +kernel
theorem d111_15 : mm_dec q111 15 = some (.iload_n 3) := by decide +kernel
theorem d111_16 : mm_dec q111 16 = some (.ifCond .lt 8) := by decide +kernel
theorem d111_19 : mm_dec q111 19 = some (.iload_n 3) := by decide +kernel
theorem d111_20 : mm_dec q111 20 = some (.iconst 1) := by decide +kernel
theorem d111_21 : mm_dec q111 21 = some (.if_icmp .le 5) := by decide +kernel
theorem d111_24 : mm_dec q111 24 = some (.iconst (-1)) := by decide +kernel
theorem d111_25 : mm_dec q111 25 = some (.ireturn) := by decide +kernel
theorem d111_26 : mm_dec q111 26 = some (.aload_n 0) := by decide +kernel
theorem d111_27 : mm_dec q111 27 = some (.getfield 98) := by decide +kernel
theorem d111_30 : mm_dec q111 30 = some (.aload_n 0) := by decide +kernel
theorem d111_31 : mm_dec q111 31 = some (.getfield 69) := by decide +kernel
theorem d111_34 : mm_dec q111 34 = some (.iload_n 2) := by decide +kernel
theorem d111_35 : mm_dec q111 35 = some (.invokevirtual 163) := by decide +kernel
theorem d111_38 : mm_dec q111 38 = some (.iconst 0) := by decide +kernel
theorem d111_39 : mm_dec q111 39 = some (.istore 4) := by decide +kernel
theorem d111_41 : mm_dec q111 41 = some (.iload 4) := by decide +kernel
theorem d111_43 : mm_dec q111 43 = some (.bipush 60) := by decide +kernel
theorem d111_45 : mm_dec q111 45 = some (.if_icmp .ge 44) := by decide +kernel
theorem d111_48 : mm_dec q111 48 = some (.aload_n 0) := by decide +kernel
theorem d111_49 : mm_dec q111 49 = some (.getfield 98) := by decide +kernel
theorem d111_52 : mm_dec q111 52 = some (.invokevirtual 270) := by decide +kernel
theorem d111_55 : mm_dec q111 55 = some (.aload_n 0) := by decide +kernel
theorem d111_56 : mm_dec q111 56 = some (.getfield 98) := by decide +kernel
theorem d111_59 : mm_dec q111 59 = some (.iload_n 1) := by decide +kernel
theorem d111_60 : mm_dec q111 60 = some (.iload 4) := by decide +kernel
theorem d111_62 : mm_dec q111 62 = some (.invokevirtual 291) := by decide +kernel
theorem d111_65 : mm_dec q111 65 = some (.aload_n 0) := by decide +kernel
theorem d111_66 : mm_dec q111 66 = some (.getfield 98) := by decide +kernel
theorem d111_69 : mm_dec q111 69 = some (.iload 4) := by decide +kernel
theorem d111_71 : mm_dec q111 71 = some (.aload_n 0) := by decide +kernel
theorem d111_72 : mm_dec q111 72 = some (.getfield 98) := by decide +kernel
theorem d111_75 : mm_dec q111 75 = some (.iconst 0) := by decide +kernel
theorem d111_76 : mm_dec q111 76 = some (.iload_n 2) := by decide +kernel
theorem d111_77 : mm_dec q111 77 = some (.invokevirtual 250) := by decide +kernel
theorem d111_80 : mm_dec q111 80 = some (.invokevirtual 278) := by decide +kernel
theorem d111_83 : mm_dec q111 83 = some (.iinc 4 1) := by decide +kernel
theorem d111_86 : mm_dec q111 86 = some (.goto (-45)) := by decide +kernel
theorem d111_89 : mm_dec q111 89 = some (.iload_n 3) := by decide +kernel
theorem d111_90 : mm_dec q111 90 = some (.ifCond .ne 13) := by decide +kernel
theorem d111_93 : mm_dec q111 93 = some (.aload_n 0) := by decide +kernel
theorem d111_94 : mm_dec q111 94 = some (.getfield 98) := by decide +kernel
theorem d111_97 : mm_dec q111 97 = some (.getfield 282) := by decide +kernel
theorem d111_100 : mm_dec q111 100 = some (.goto 10) := by decide +kernel
theorem d111_103 : mm_dec q111 103 = some (.aload_n 0) := by decide +kernel
theorem d111_104 : mm_dec q111 104 = some (.getfield 98) := by decide +kernel
theorem d111_107 : mm_dec q111 107 = some (.getfield 285) := by decide +kernel
theorem d111_110 : mm_dec q111 110 = some (.ireturn) := by decide +kernel
theorem d112_0 : mm_dec q112 0 = some (.aload_n 0) := by decide +kernel
theorem d112_1 : mm_dec q112 1 = some (.invokevirtual 189) := by decide +kernel
theorem d112_4 : mm_dec q112 4 = some (.ifCond .eq 25) := by decide +kernel
theorem d112_7 : mm_dec q112 7 = some (.iload_n 1) := by decide +kernel
theorem d112_8 : mm_dec q112 8 = some (.ifCond .lt 21) := by decide +kernel
theorem d112_11 : mm_dec q112 11 = some (.iload_n 1) := by decide +kernel
theorem d112_12 : mm_dec q112 12 = some (.bipush 60) := by decide +kernel
theorem d112_14 : mm_dec q112 14 = some (.if_icmp .gt 15) := by decide +kernel
theorem d112_17 : mm_dec q112 17 = some (.aload_n 0) := by decide +kernel
theorem d112_18 : mm_dec q112 18 = some (.getfield 89) := by decide +kernel
theorem d112_21 : mm_dec q112 21 = some (.getfield 294) := by decide +kernel
theorem d112_24 : mm_dec q112 24 = some (.bipush 20) := by decide +kernel
theorem d112_26 : mm_dec q112 26 = some (.if_icmp .lt 5) := by decide +kernel
theorem d112_29 : mm_dec q112 29 = some (.iconst (-1)) := by decide +kernel
theorem d112_30 : mm_dec q112 30 = some (.ireturn) := by decide +kernel
theorem d112_31 : mm_dec q112 31 = some (.aload_n 0) := by decide +kernel
theorem d112_32 : mm_dec q112 32 = some (.getfield 89) := by decide +kernel
theorem d112_35 : mm_dec q112 35 = some (.iload_n 1) := by decide +kernel
theorem d112_36 : mm_dec q112 36 = some (.iload_n 2) := by decide +kernel
theorem d112_37 : mm_dec q112 37 = some (.invokevirtual 295) := by decide +kernel
theorem d112_40 : mm_dec q112 40 = some (.aload_n 0) := by decide +kernel
theorem d112_41 : mm_dec q112 41 = some (.getfield 89) := by decide +kernel
theorem d112_44 : mm_dec q112 44 = some (.getfield 294) := by decide +kernel
theorem d112_47 : mm_dec q112 47 = some (.ireturn) := by decide +kernel
theorem d113_0 : mm_dec q113 0 = some (.aload_n 0) := by decide +kernel
theorem d113_1 : mm_dec q113 1 = some (.invokevirtual 189) := by decide +kernel
