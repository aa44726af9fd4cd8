theorem d75_51 : mm_dec q75 51 = some (.iload_n 3) := by decide +kernel
theorem d75_52 : mm_dec q75 52 = some (.iload 5) := by decide +kernel
theorem d75_54 : mm_dec q75 54 = some (.ishr) := by decide +kernel
theorem d75_55 : mm_dec q75 55 = some (.iconst 1) := by decide +kernel
theorem d75_56 : mm_dec q75 56 = some (.iand) := by decide +kernel
theorem d75_57 : mm_dec q75 57 = some (.ifCond .eq 18) := by decide +kernel
theorem d75_60 : mm_dec q75 60 = some (.aload_n 0) := by decide +kernel
theorem d75_61 : mm_dec q75 61 = some (.getfield 9) := by decide +kernel
theorem d75_64 : mm_dec q75 64 = some (.aload_n 0) := by decide +kernel
theorem d75_65 : mm_dec q75 65 = some (.getfield 9) := by decide +kernel
theorem d75_68 : mm_dec q75 68 = some (.getfield 51) := by decide +kernel
theorem d75_71 : mm_dec q75 71 = some (.invokevirtual 64) := by decide +kernel
theorem d75_74 : mm_dec q75 74 = some (.ireturn) := by decide +kernel
theorem d75_75 : mm_dec q75 75 = some (.iload_n 3) := by decide +kernel
theorem d75_76 : mm_dec q75 76 = some (.iconst 1) := by decide +kernel
theorem d75_77 : mm_dec q75 77 = some (.iload 5) := by decide +kernel
theorem d75_79 : mm_dec q75 79 = some (.ishl) := by decide +kernel
theorem d75_80 : mm_dec q75 80 = some (.ior) := by decide +kernel
theorem d75_81 : mm_dec q75 81 = some (.istore_n 3) := by decide +kernel
theorem d75_82 : mm_dec q75 82 = some (.aload_n 0) := by decide +kernel
theorem d75_83 : mm_dec q75 83 = some (.getfield 9) := by decide +kernel
theorem d75_86 : mm_dec q75 86 = some (.invokevirtual 67) := by decide +kernel
theorem d75_89 : mm_dec q75 89 = some (.aload_n 0) := by decide +kernel
theorem d75_90 : mm_dec q75 90 = some (.getfield 9) := by decide +kernel
theorem d75_93 : mm_dec q75 93 = some (.iconst 2) := by decide +kernel
theorem d75_94 : mm_dec q75 94 = some (.invokevirtual 88) := by decide +kernel
theorem d75_97 : mm_dec q75 97 = some (.istore 6) := by decide +kernel
theorem d75_99 : mm_dec q75 99 = some (.iload 6) := by decide +kernel
theorem d75_101 : mm_dec q75 101 = some (.iconst (-1)) := by decide +kernel
theorem d75_102 : mm_dec q75 102 = some (.if_icmp .ne 5) := by decide +kernel
theorem d75_105 : mm_dec q75 105 = some (.iconst 0) := by decide +kernel
theorem d75_106 : mm_dec q75 106 = some (.ireturn) := by decide +kernel
theorem d75_107 : mm_dec q75 107 = some (.iload 6) := by decide +kernel
theorem d75_109 : mm_dec q75 109 = some (.aload_n 2) := by decide +kernel
theorem d75_110 : mm_dec q75 110 = some (.iconst 4) := by decide +kernel
theorem d75_111 : mm_dec q75 111 = some (.iload 5) := by decide +kernel
theorem d75_113 : mm_dec q75 113 = some (.imul) := by decide +kernel
theorem d75_114 : mm_dec q75 114 = some (.iconst 1) := by decide +kernel
theorem d75_115 : mm_dec q75 115 = some (.iadd) := by decide +kernel
theorem d75_116 : mm_dec q75 116 = some (.iaload) := by decide +kernel
theorem d75_117 : mm_dec q75 117 = some (.if_icmp .lt 16) := by decide +kernel
theorem d75_120 : mm_dec q75 120 = some (.iload 6) := by decide +kernel
theorem d75_122 : mm_dec q75 122 = some (.aload_n 2) := by decide +kernel
theorem d75_123 : mm_dec q75 123 = some (.iconst 4) := by decide +kernel
theorem d75_124 : mm_dec q75 124 = some (.iload 5) := by decide +kernel
theorem d75_126 : mm_dec q75 126 = some (.imul) := by decide +kernel
theorem d75_127 : mm_dec q75 127 = some (.iconst 2) := by decide +kernel
theorem d75_128 : mm_dec q75 128 = some (.iadd) := by decide +kernel
theorem d75_129 : mm_dec q75 129 = some (.iaload) := by decide +kernel
theorem d75_130 : mm_dec q75 130 = some (.if_icmp .le 20) := by decide +kernel
theorem d75_133 : mm_dec q75 133 = some (.aload_n 0) := by decide +kernel
theorem d75_134 : mm_dec q75 134 = some (.getfield 9) := by decide +kernel
theorem d75_137 : mm_dec q75 137 = some (.aload_n 0) := by decide +kernel
theorem d75_138 : mm_dec q75 138 = some (.getfield 9) := by decide +kernel
theorem d75_141 : mm_dec q75 141 = some (.getfield 51) := by decide +kernel
theorem d75_144 : mm_dec q75 144 = some (.iconst 1) := by decide +kernel
theorem d75_145 : mm_dec q75 145 = some (.isub) := by decide +kernel
theorem d75_146 : mm_dec q75 146 = some (.invokevirtual 64) := by decide +kernel
theorem d75_149 : mm_dec q75 149 = some (.ireturn) := by decide +kernel
theorem d75_150 : mm_dec q75 150 = some (.aload_n 1) := by decide +kernel
theorem d75_151 : mm_dec q75 151 = some (.iload 5) := by decide +kernel
theorem d75_153 : mm_dec q75 153 = some (.iload 6) := by decide +kernel
theorem d75_155 : mm_dec q75 155 = some (.iastore) := by decide +kernel
theorem d75_156 : mm_dec q75 156 = some (.iinc 4 1) := by decide +kernel
theorem d75_159 : mm_dec q75 159 = some (.goto (-154)) := by decide +kernel
theorem d75_162 : mm_dec q75 162 = some (.iconst 1) := by decide +kernel
theorem d75_163 : mm_dec q75 163 = some (.ireturn) := by decide +kernel
theorem d76_0 : mm_dec q76 0 = some (.iconst 0) := by decide +kernel
theorem d76_1 : mm_dec q76 1 = some (.istore_n 2) := by decide +kernel
theorem d76_2 : mm_dec q76 2 = some (.iconst 4) := by decide +kernel
theorem d76_3 : mm_dec q76 3 = some (.iload_n 2) := by decide +kernel
theorem d76_4 : mm_dec q76 4 = some (.imul) := by decide +kernel
theorem d76_5 : mm_dec q76 5 = some (.aload_n 1) := by decide +kernel
theorem d76_6 : mm_dec q76 6 = some (.arraylength) := by decide +kernel
theorem d76_7 : mm_dec q76 7 = some (.if_icmp .ge 20) := by decide +kernel
theorem d76_10 : mm_dec q76 10 = some (.aload_n 1) := by decide +kernel
theorem d76_11 : mm_dec q76 11 = some (.iconst 4) := by decide +kernel
theorem d76_12 : mm_dec q76 12 = some (.iload_n 2) := by decide +kernel
theorem d76_13 : mm_dec q76 13 = some (.imul) := by decide +kernel
theorem d76_14 : mm_dec q76 14 = some (.iaload) := by decide +kernel
theorem d76_15 : mm_dec q76 15 = some (.iload_n 0) := by decide +kernel
theorem d76_16 : mm_dec q76 16 = some (.if_icmp .ne 5) := by decide +kernel
theorem d76_19 : mm_dec q76 19 = some (.iload_n 2) := by decide +kernel
theorem d76_20 : mm_dec q76 20 = some (.ireturn) := by decide +kernel
theorem d76_21 : mm_dec q76 21 = some (.iinc 2 1) := by decide +kernel
theorem d76_24 : mm_dec q76 24 = some (.goto (-22)) := by decide +kernel
theorem d76_27 : mm_dec q76 27 = some (.iconst (-1)) := by decide +kernel
theorem d76_28 : mm_dec q76 28 = some (.ireturn) := by decide +kernel
theorem d77_0 : mm_dec q77 0 = some (.aload_n 0) := by decide +kernel
theorem d77_1 : mm_dec q77 1 = some (.invokespecial 3) := by decide +kernel
theorem d77_4 : mm_dec q77 4 = some (.aload_n 0) := by decide +kernel
theorem d77_5 : mm_dec q77 5 = some (.new 9) := by decide +kernel
theorem d77_8 : mm_dec q77 8 = some (.dup) := by decide +kernel
theorem d77_9 : mm_dec q77 9 = some (.invokespecial 11) := by decide +kernel
theorem d77_12 : mm_dec q77 12 = some (.putfield 12) := by decide +kernel
theorem d77_15 : mm_dec q77 15 = some (.aload_n 0) := by decide +kernel
theorem d77_16 : mm_dec q77 16 = some (.sipush 540) := by decide +kernel
theorem d77_19 : mm_dec q77 19 = some (.newarray .int) := by decide +kernel
theorem d77_21 : mm_dec q77 21 = some (.putfield 18) := by decide +kernel
theorem d77_24 : mm_dec q77 24 = some (.aload_n 0) := by decide +kernel
theorem d77_25 : mm_dec q77 25 = some (.sipush 540) := by decide +kernel
theorem d77_28 : mm_dec q77 28 = some (.newarray .boolean) := by decide +kernel
theorem d77_30 : mm_dec q77 30 = some (.putfield 22) := by decide +kernel
theorem d77_33 : mm_dec q77 33 = some (.aload_n 0) := by decide +kernel
theorem d77_34 : mm_dec q77 34 = some (.aload_n 1) := by decide +kernel
theorem d77_35 : mm_dec q77 35 = some (.putfield 26) := by decide +kernel
theorem d77_38 : mm_dec q77 38 = some (.aload_n 0) := by decide +kernel
theorem d77_39 : mm_dec q77 39 = some (.aload_n 2) := by decide +kernel
theorem d77_40 : mm_dec q77 40 = some (.putfield 30) := by decide +kernel
theorem d77_43 : mm_dec q77 43 = some (.return_) := by decide +kernel
theorem d78_0 : mm_dec q78 0 = some (.aload_n 0) := by decide +kernel
theorem d78_1 : mm_dec q78 1 = some (.aload_n 1) := by decide +kernel
theorem d78_2 : mm_dec q78 2 = some (.putfield 30) := by decide +kernel
theorem d78_5 : mm_dec q78 5 = some (.aload_n 0) := by decide +kernel
theorem d78_6 : mm_dec q78 6 = some (.iconst (-1)) := by decide +kernel
theorem d78_7 : mm_dec q78 7 = some (.putfield 33) := by decide +kernel
theorem d78_10 : mm_dec q78 10 = some (.aload_n 0) := by decide +kernel
theorem d78_11 : mm_dec q78 11 = some (.aload_n 0) := by decide +kernel
theorem d78_12 : mm_dec q78 12 = some (.getfield 26) := by decide +kernel
theorem d78_15 : mm_dec q78 15 = some (.invokevirtual 37) := by decide +kernel
theorem d78_18 : mm_dec q78 18 = some (.putfield 43) := by decide +kernel
theorem d78_21 : mm_dec q78 21 = some (.iconst 0) := by decide +kernel
theorem d78_22 : mm_dec q78 22 = some (.istore_n 3) := by decide +kernel
theorem d78_23 : mm_dec q78 23 = some (.iload_n 3) := by decide +kernel
theorem d78_24 : mm_dec q78 24 = some (.iload_n 2) := by decide +kernel
theorem d78_25 : mm_dec q78 25 = some (.if_icmp .ge 44) := by decide +kernel
theorem d78_28 : mm_dec q78 28 = some (.iload_n 3) := by decide +kernel
theorem d78_29 : mm_dec q78 29 = some (.aload_n 0) := by decide +kernel
theorem d78_30 : mm_dec q78 30 = some (.getfield 18) := by decide +kernel
theorem d78_33 : mm_dec q78 33 = some (.arraylength) := by decide +kernel
theorem d78_34 : mm_dec q78 34 = some (.if_icmp .ge 35) := by decide +kernel
theorem d78_37 : mm_dec q78 37 = some (.aload_n 0) := by decide +kernel
theorem d78_38 : mm_dec q78 38 = some (.getfield 18) := by decide +kernel
theorem d78_41 : mm_dec q78 41 = some (.iload_n 3) := by decide +kernel
theorem d78_42 : mm_dec q78 42 = some (.aload_n 0) := by decide +kernel
theorem d78_43 : mm_dec q78 43 = some (.getfield 26) := by decide +kernel
theorem d78_46 : mm_dec q78 46 = some (.aload_n 1) := by decide +kernel
theorem d78_47 : mm_dec q78 47 = some (.getfield 45) := by decide +kernel
theorem d78_50 : mm_dec q78 50 = some (.iload_n 3) := by decide +kernel
theorem d78_51 : mm_dec q78 51 = some (.iadd) := by decide +kernel
theorem d78_52 : mm_dec q78 52 = some (.iconst 0) := by decide +kernel
theorem d78_53 : mm_dec q78 53 = some (.aload_n 0) := by decide +kernel
theorem d78_54 : mm_dec q78 54 = some (.getfield 43) := by decide +kernel
theorem d78_57 : mm_dec q78 57 = some (.iconst (-1)) := by decide +kernel
theorem d78_58 : mm_dec q78 58 = some (.ixor) := by decide +kernel
theorem d78_59 : mm_dec q78 59 = some (.invokevirtual 48) := by decide +kernel
theorem d78_62 : mm_dec q78 62 = some (.iastore) := by decide +kernel
theorem d78_63 : mm_dec q78 63 = some (.iinc 3 1) := by decide +kernel
theorem d78_66 : mm_dec q78 66 = some (.goto (-43)) := by decide +kernel
theorem d78_69 : mm_dec q78 69 = some (.aload_n 0) := by decide +kernel
theorem d78_70 : mm_dec q78 70 = some (.invokevirtual 52) := by decide +kernel
theorem d78_73 : mm_dec q78 73 = some (.return_) := by decide +kernel
theorem d79_0 : mm_dec q79 0 = some (.aload_n 0) := by decide +kernel
theorem d79_1 : mm_dec q79 1 = some (.getfield 12) := by decide +kernel
theorem d79_4 : mm_dec q79 4 = some (.aload_n 0) := by decide +kernel
theorem d79_5 : mm_dec q79 5 = some (.getfield 30) := by decide +kernel
theorem d79_8 : mm_dec q79 8 = some (.invokevirtual 55) := by decide +kernel
theorem d79_11 : mm_dec q79 11 = some (.aload_n 0) := by decide +kernel
theorem d79_12 : mm_dec q79 12 = some (.iconst 0) := by decide +kernel
theorem d79_13 : mm_dec q79 13 = some (.putfield 59) := by decide +kernel
theorem d79_16 : mm_dec q79 16 = some (.aload_n 0) := by decide +kernel
theorem d79_17 : mm_dec q79 17 = some (.iconst 0) := by decide +kernel
theorem d79_18 : mm_dec q79 18 = some (.putfield 62) := by decide +kernel
theorem d79_21 : mm_dec q79 21 = some (.aload_n 0) := by decide +kernel
theorem d79_22 : mm_dec q79 22 = some (.iconst 0) := by decide +kernel
theorem d79_23 : mm_dec q79 23 = some (.putfield 65) := by decide +kernel
theorem d79_26 : mm_dec q79 26 = some (.aload_n 0) := by decide +kernel
theorem d79_27 : mm_dec q79 27 = some (.iconst (-1)) := by decide +kernel
theorem d79_28 : mm_dec q79 28 = some (.putfield 68) := by decide +kernel
theorem d79_31 : mm_dec q79 31 = some (.aload_n 0) := by decide +kernel
theorem d79_32 : mm_dec q79 32 = some (.aload_n 0) := by decide +kernel
theorem d79_33 : mm_dec q79 33 = some (.getfield 26) := by decide +kernel
theorem d79_36 : mm_dec q79 36 = some (.aload_n 0) := by decide +kernel
theorem d79_37 : mm_dec q79 37 = some (.getfield 26) := by decide +kernel
theorem d79_40 : mm_dec q79 40 = some (.invokevirtual 71) := by decide +kernel
theorem d79_43 : mm_dec q79 43 = some (.invokevirtual 74) := by decide +kernel
theorem d79_46 : mm_dec q79 46 = some (.putfield 78) := by decide +kernel
theorem d79_49 : mm_dec q79 49 = some (.return_) := by decide +kernel
theorem d80_0 : mm_dec q80 0 = some (.aload_n 0) := by decide +kernel
theorem d80_1 : mm_dec q80 1 = some (.iload_n 1) := by decide +kernel
theorem d80_2 : mm_dec q80 2 = some (.putfield 68) := by decide +kernel
theorem d80_5 : mm_dec q80 5 = some (.aload_n 0) := by decide +kernel
theorem d80_6 : mm_dec q80 6 = some (.iload_n 2) := by decide +kernel
theorem d80_7 : mm_dec q80 7 = some (.putfield 80) := by decide +kernel
theorem d80_10 : mm_dec q80 10 = some (.return_) := by decide +kernel
theorem d81_0 : mm_dec q81 0 = some (.iload_n 1) := by decide +kernel
theorem d81_1 : mm_dec q81 1 = some (.ifCond .lt 21) := by decide +kernel
theorem d81_4 : mm_dec q81 4 = some (.iload_n 1) := by decide +kernel
theorem d81_5 : mm_dec q81 5 = some (.aload_n 0) := by decide +kernel
theorem d81_6 : mm_dec q81 6 = some (.getfield 18) := by decide +kernel
theorem d81_9 : mm_dec q81 9 = some (.arraylength) := by decide +kernel
theorem d81_10 : mm_dec q81 10 = some (.if_icmp .ge 12) := by decide +kernel
theorem d81_13 : mm_dec q81 13 = some (.aload_n 0) := by decide +kernel
theorem d81_14 : mm_dec q81 14 = some (.getfield 18) := by decide +kernel
theorem d81_17 : mm_dec q81 17 = some (.iload_n 1) := by decide +kernel
theorem d81_18 : mm_dec q81 18 = some (.iaload) := by decide +kernel
theorem d81_19 : mm_dec q81 19 = some (.goto 4) := by decide +kernel
theorem d81_22 : mm_dec q81 22 = some (.iconst 0) := by decide +kernel
theorem d81_23 : mm_dec q81 23 = some (.istore_n 3) := by decide +kernel
theorem d81_24 : mm_dec q81 24 = some (.aload_n 0) := by decide +kernel
theorem d81_25 : mm_dec q81 25 = some (.getfield 30) := by decide +kernel
theorem d81_28 : mm_dec q81 28 = some (.getfield 45) := by decide +kernel
theorem d81_31 : mm_dec q81 31 = some (.iload_n 1) := by decide +kernel
theorem d81_32 : mm_dec q81 32 = some (.iadd) := by decide +kernel
theorem d81_33 : mm_dec q81 33 = some (.istore 4) := by decide +kernel
theorem d81_35 : mm_dec q81 35 = some (.aload_n 0) := by decide +kernel
theorem d81_36 : mm_dec q81 36 = some (.getfield 43) := by decide +kernel
theorem d81_39 : mm_dec q81 39 = some (.aload_n 0) := by decide +kernel
theorem d81_40 : mm_dec q81 40 = some (.getfield 62) := by decide +kernel
theorem d81_43 : mm_dec q81 43 = some (.iconst (-1)) := by decide +kernel
theorem d81_44 : mm_dec q81 44 = some (.ixor) := by decide +kernel
theorem d81_45 : mm_dec q81 45 = some (.iand) := by decide +kernel
theorem d81_46 : mm_dec q81 46 = some (.aload_n 0) := by decide +kernel
theorem d81_47 : mm_dec q81 47 = some (.getfield 65) := by decide +kernel
theorem d81_50 : mm_dec q81 50 = some (.iconst (-1)) := by decide +kernel
theorem d81_51 : mm_dec q81 51 = some (.ixor) := by decide +kernel
theorem d81_52 : mm_dec q81 52 = some (.iand) := by decide +kernel
theorem d81_53 : mm_dec q81 53 = some (.istore 5) := by decide +kernel
theorem d81_55 : mm_dec q81 55 = some (.iconst 0) := by decide +kernel
theorem d81_56 : mm_dec q81 56 = some (.istore 6) := by decide +kernel
theorem d81_58 : mm_dec q81 58 = some (.iload 5) := by decide +kernel
theorem d81_60 : mm_dec q81 60 = some (.ifCond .eq 57) := by decide +kernel
theorem d81_63 : mm_dec q81 63 = some (.iload 6) := by decide +kernel
theorem d81_65 : mm_dec q81 65 = some (.aload_n 0) := by decide +kernel
theorem d81_66 : mm_dec q81 66 = some (.getfield 26) := by decide +kernel
theorem d81_69 : mm_dec q81 69 = some (.getfield 83) := by decide +kernel
theorem d81_72 : mm_dec q81 72 = some (.if_icmp .ge 45) := by decide +kernel
theorem d81_75 : mm_dec q81 75 = some (.iload_n 3) := by decide +kernel
theorem d81_76 : mm_dec q81 76 = some (.iload 5) := by decide +kernel
theorem d81_78 : mm_dec q81 78 = some (.iload 6) := by decide +kernel
theorem d81_80 : mm_dec q81 80 = some (.ishr) := by decide +kernel
theorem d81_81 : mm_dec q81 81 = some (.iconst 1) := by decide +kernel
theorem d81_82 : mm_dec q81 82 = some (.iand) := by decide +kernel
theorem d81_83 : mm_dec q81 83 = some (.ifCond .eq 25) := by decide +kernel
theorem d81_86 : mm_dec q81 86 = some (.aload_n 0) := by decide +kernel
theorem d81_87 : mm_dec q81 87 = some (.getfield 26) := by decide +kernel
theorem d81_90 : mm_dec q81 90 = some (.iload 6) := by decide +kernel
theorem d81_92 : mm_dec q81 92 = some (.iload 4) := by decide +kernel
theorem d81_94 : mm_dec q81 94 = some (.iload_n 2) := by decide +kernel
theorem d81_95 : mm_dec q81 95 = some (.invokevirtual 86) := by decide +kernel
theorem d81_98 : mm_dec q81 98 = some (.ifCond .eq 10) := by decide +kernel
theorem d81_101 : mm_dec q81 101 = some (.iconst 1) := by decide +kernel
theorem d81_102 : mm_dec q81 102 = some (.iload 6) := by decide +kernel
theorem d81_104 : mm_dec q81 104 = some (.ishl) := by decide +kernel
theorem d81_105 : mm_dec q81 105 = some (.goto 4) := by decide +kernel
theorem d81_108 : mm_dec q81 108 = some (.iconst 0) := by decide +kernel
theorem d81_109 : mm_dec q81 109 = some (.ior) := by decide +kernel
theorem d81_110 : mm_dec q81 110 = some (.istore_n 3) := by decide +kernel
theorem d81_111 : mm_dec q81 111 = some (.iinc 6 1) := by decide +kernel
theorem d81_114 : mm_dec q81 114 = some (.goto (-56)) := by decide +kernel
theorem d81_117 : mm_dec q81 117 = some (.aload_n 0) := by decide +kernel
theorem d81_118 : mm_dec q81 118 = some (.getfield 68) := by decide +kernel
theorem d81_121 : mm_dec q81 121 = some (.iconst (-1)) := by decide +kernel
theorem d81_122 : mm_dec q81 122 = some (.if_icmp .eq 45) := by decide +kernel
theorem d81_125 : mm_dec q81 125 = some (.iconst 1) := by decide +kernel
theorem d81_126 : mm_dec q81 126 = some (.aload_n 0) := by decide +kernel
theorem d81_127 : mm_dec q81 127 = some (.getfield 68) := by decide +kernel
theorem d81_130 : mm_dec q81 130 = some (.ishl) := by decide +kernel
theorem d81_131 : mm_dec q81 131 = some (.istore 6) := by decide +kernel
theorem d81_133 : mm_dec q81 133 = some (.aload_n 0) := by decide +kernel
theorem d81_134 : mm_dec q81 134 = some (.getfield 26) := by decide +kernel
theorem d81_137 : mm_dec q81 137 = some (.aload_n 0) := by decide +kernel
theorem d81_138 : mm_dec q81 138 = some (.getfield 68) := by decide +kernel
theorem d81_141 : mm_dec q81 141 = some (.aload_n 0) := by decide +kernel
theorem d81_142 : mm_dec q81 142 = some (.getfield 80) := by decide +kernel
theorem d81_145 : mm_dec q81 145 = some (.iload 4) := by decide +kernel
theorem d81_147 : mm_dec q81 147 = some (.invokevirtual 90) := by decide +kernel
theorem d81_150 : mm_dec q81 150 = some (.ifCond .eq 10) := by decide +kernel
theorem d81_153 : mm_dec q81 153 = some (.iload_n 3) := by decide +kernel
theorem d81_154 : mm_dec q81 154 = some (.iload 6) := by decide +kernel
theorem d81_156 : mm_dec q81 156 = some (.ior) := by decide +kernel
theorem d81_157 : mm_dec q81 157 = some (.goto 9) := by decide +kernel
theorem d81_160 : mm_dec q81 160 = some (.iload_n 3) := by decide +kernel
theorem d81_161 : mm_dec q81 161 = some (.iload 6) := by decide +kernel
theorem d81_163 : mm_dec q81 163 = some (.iconst (-1)) := by decide +kernel
theorem d81_164 : mm_dec q81 164 = some (.ixor) := by decide +kernel
theorem d81_165 : mm_dec q81 165 = some (.iand) := by decide +kernel
theorem d81_166 : mm_dec q81 166 = some (.istore_n 3) := by decide +kernel
theorem d81_167 : mm_dec q81 167 = some (.iload_n 3) := by decide +kernel
theorem d81_168 : mm_dec q81 168 = some (.aload_n 0) := by decide +kernel
theorem d81_169 : mm_dec q81 169 = some (.getfield 65) := by decide +kernel
theorem d81_172 : mm_dec q81 172 = some (.ior) := by decide +kernel
theorem d81_173 : mm_dec q81 173 = some (.aload_n 0) := by decide +kernel
theorem d81_174 : mm_dec q81 174 = some (.getfield 62) := by decide +kernel
theorem d81_177 : mm_dec q81 177 = some (.iconst (-1)) := by decide +kernel
theorem d81_178 : mm_dec q81 178 = some (.ixor) := by decide +kernel
theorem d81_179 : mm_dec q81 179 = some (.iand) := by decide +kernel
theorem d81_180 : mm_dec q81 180 = some (.ireturn) := by decide +kernel
theorem d82_0 : mm_dec q82 0 = some (.aload_n 0) := by decide +kernel
theorem d82_1 : mm_dec q82 1 = some (.aload_n 0) := by decide +kernel
theorem d82_2 : mm_dec q82 2 = some (.aload_n 0) := by decide +kernel
theorem d82_3 : mm_dec q82 3 = some (.getfield 59) := by decide +kernel
theorem d82_6 : mm_dec q82 6 = some (.aload_n 0) := by decide +kernel
theorem d82_7 : mm_dec q82 7 = some (.getfield 12) := by decide +kernel
theorem d82_10 : mm_dec q82 10 = some (.getfield 93) := by decide +kernel
theorem d82_13 : mm_dec q82 13 = some (.iconst 0) := by decide +kernel
theorem d82_14 : mm_dec q82 14 = some (.iaload) := by decide +kernel
theorem d82_15 : mm_dec q82 15 = some (.invokevirtual 96) := by decide +kernel
theorem d82_18 : mm_dec q82 18 = some (.putfield 99) := by decide +kernel
theorem d82_21 : mm_dec q82 21 = some (.aload_n 0) := by decide +kernel
theorem d82_22 : mm_dec q82 22 = some (.aload_n 0) := by decide +kernel
theorem d82_23 : mm_dec q82 23 = some (.getfield 26) := by decide +kernel
theorem d82_26 : mm_dec q82 26 = some (.aload_n 0) := by decide +kernel
theorem d82_27 : mm_dec q82 27 = some (.getfield 99) := by decide +kernel
theorem d82_30 : mm_dec q82 30 = some (.aload_n 0) := by decide +kernel
theorem d82_31 : mm_dec q82 31 = some (.getfield 12) := by decide +kernel
theorem d82_34 : mm_dec q82 34 = some (.getfield 45) := by decide +kernel
theorem d82_37 : mm_dec q82 37 = some (.aload_n 0) := by decide +kernel
theorem d82_38 : mm_dec q82 38 = some (.getfield 78) := by decide +kernel
theorem d82_41 : mm_dec q82 41 = some (.invokevirtual 102) := by decide +kernel
theorem d82_44 : mm_dec q82 44 = some (.putfield 105) := by decide +kernel
theorem d82_47 : mm_dec q82 47 = some (.aload_n 0) := by decide +kernel
theorem d82_48 : mm_dec q82 48 = some (.aload_n 0) := by decide +kernel
theorem d82_49 : mm_dec q82 49 = some (.getfield 12) := by decide +kernel
theorem d82_52 : mm_dec q82 52 = some (.aload_n 0) := by decide +kernel
theorem d82_53 : mm_dec q82 53 = some (.getfield 26) := by decide +kernel
theorem d82_56 : mm_dec q82 56 = some (.aload_n 0) := by decide +kernel
theorem d82_57 : mm_dec q82 57 = some (.getfield 105) := by decide +kernel
theorem d82_60 : mm_dec q82 60 = some (.ifCond .eq 7) := by decide +kernel
theorem d82_63 : mm_dec q82 63 = some (.iconst 1) := by decide +kernel
theorem d82_64 : mm_dec q82 64 = some (.goto 4) := by decide +kernel
theorem d82_67 : mm_dec q82 67 = some (.iconst 0) := by decide +kernel
theorem d82_68 : mm_dec q82 68 = some (.invokevirtual 108) := by decide +kernel
theorem d82_71 : mm_dec q82 71 = some (.putfield 112) := by decide +kernel
theorem d82_74 : mm_dec q82 74 = some (.aload_n 0) := by decide +kernel
theorem d82_75 : mm_dec q82 75 = some (.getfield 59) := by decide +kernel
theorem d82_78 : mm_dec q82 78 = some (.ifCond .lt 38) := by decide +kernel
theorem d82_81 : mm_dec q82 81 = some (.aload_n 0) := by decide +kernel
theorem d82_82 : mm_dec q82 82 = some (.getfield 59) := by decide +kernel
theorem d82_85 : mm_dec q82 85 = some (.aload_n 0) := by decide +kernel
theorem d82_86 : mm_dec q82 86 = some (.getfield 22) := by decide +kernel
theorem d82_89 : mm_dec q82 89 = some (.arraylength) := by decide +kernel
theorem d82_90 : mm_dec q82 90 = some (.if_icmp .ge 26) := by decide +kernel
theorem d82_93 : mm_dec q82 93 = some (.aload_n 0) := by decide +kernel
theorem d82_94 : mm_dec q82 94 = some (.getfield 22) := by decide +kernel
theorem d82_97 : mm_dec q82 97 = some (.aload_n 0) := by decide +kernel
theorem d82_98 : mm_dec q82 98 = some (.getfield 59) := by decide +kernel
theorem d82_101 : mm_dec q82 101 = some (.aload_n 0) := by decide +kernel
theorem d82_102 : mm_dec q82 102 = some (.getfield 112) := by decide +kernel
theorem d82_105 : mm_dec q82 105 = some (.iconst 1) := by decide +kernel
theorem d82_106 : mm_dec q82 106 = some (.iand) := by decide +kernel
theorem d82_107 : mm_dec q82 107 = some (.ifCond .eq 7) := by decide +kernel
theorem d82_110 : mm_dec q82 110 = some (.iconst 1) := by decide +kernel
theorem d82_111 : mm_dec q82 111 = some (.goto 4) := by decide +kernel
theorem d82_114 : mm_dec q82 114 = some (.iconst 0) := by decide +kernel
theorem d82_115 : mm_dec q82 115 = some (.bastore) := by decide +kernel
theorem d82_116 : mm_dec q82 116 = some (.aload_n 0) := by decide +kernel
theorem d82_117 : mm_dec q82 117 = some (.dup) := by decide +kernel
theorem d82_118 : mm_dec q82 118 = some (.getfield 59) := by decide +kernel
theorem d82_121 : mm_dec q82 121 = some (.iconst 1) := by decide +kernel
theorem d82_122 : mm_dec q82 122 = some (.iadd) := by decide +kernel
theorem d82_123 : mm_dec q82 123 = some (.putfield 59) := by decide +kernel
theorem d82_126 : mm_dec q82 126 = some (.return_) := by decide +kernel
theorem d83_0 : mm_dec q83 0 = some (.iconst 0) := by decide +kernel
theorem d83_1 : mm_dec q83 1 = some (.istore_n 2) := by decide +kernel
theorem d83_2 : mm_dec q83 2 = some (.iload_n 2) := by decide +kernel
theorem d83_3 : mm_dec q83 3 = some (.iload_n 1) := by decide +kernel
theorem d83_4 : mm_dec q83 4 = some (.if_icmp .ge 13) := by decide +kernel
theorem d83_7 : mm_dec q83 7 = some (.aload_n 0) := by decide +kernel
theorem d83_8 : mm_dec q83 8 = some (.invokevirtual 115) := by decide +kernel
theorem d83_11 : mm_dec q83 11 = some (.iinc 2 1) := by decide +kernel
theorem d83_14 : mm_dec q83 14 = some (.goto (-12)) := by decide +kernel
theorem d83_17 : mm_dec q83 17 = some (.return_) := by decide +kernel
theorem d84_0 : mm_dec q84 0 = some (.iconst 0) := by decide +kernel
theorem d84_1 : mm_dec q84 1 = some (.istore_n 3) := by decide +kernel
theorem d84_2 : mm_dec q84 2 = some (.iconst 0) := by decide +kernel
theorem d84_3 : mm_dec q84 3 = some (.istore 4) := by decide +kernel
theorem d84_5 : mm_dec q84 5 = some (.iload 4) := by decide +kernel
theorem d84_7 : mm_dec q84 7 = some (.iload_n 2) := by decide +kernel
theorem d84_8 : mm_dec q84 8 = some (.if_icmp .ge 34) := by decide +kernel
theorem d84_11 : mm_dec q84 11 = some (.iload_n 1) := by decide +kernel
theorem d84_12 : mm_dec q84 12 = some (.ifCond .lt 30) := by decide +kernel
theorem d84_15 : mm_dec q84 15 = some (.iload_n 1) := by decide +kernel
theorem d84_16 : mm_dec q84 16 = some (.iconst 2) := by decide +kernel
theorem d84_17 : mm_dec q84 17 = some (.if_icmp .ge 25) := by decide +kernel
theorem d84_20 : mm_dec q84 20 = some (.aload_n 0) := by decide +kernel
theorem d84_21 : mm_dec q84 21 = some (.invokevirtual 115) := by decide +kernel
theorem d84_24 : mm_dec q84 24 = some (.iload_n 3) := by decide +kernel
theorem d84_25 : mm_dec q84 25 = some (.aload_n 0) := by decide +kernel
theorem d84_26 : mm_dec q84 26 = some (.getfield 12) := by decide +kernel
theorem d84_29 : mm_dec q84 29 = some (.getfield 93) := by decide +kernel
theorem d84_32 : mm_dec q84 32 = some (.iload_n 1) := by decide +kernel
theorem d84_33 : mm_dec q84 33 = some (.iaload) := by decide +kernel
theorem d84_34 : mm_dec q84 34 = some (.iadd) := by decide +kernel
theorem d84_35 : mm_dec q84 35 = some (.istore_n 3) := by decide +kernel
theorem d84_36 : mm_dec q84 36 = some (.iinc 4 1) := by decide +kernel
theorem d84_39 : mm_dec q84 39 = some (.goto (-34)) := by decide +kernel
theorem d84_42 : mm_dec q84 42 = some (.iload_n 3) := by decide +kernel
theorem d84_43 : mm_dec q84 43 = some (.ireturn) := by decide +kernel
theorem d85_0 : mm_dec q85 0 = some (.aload_n 0) := by decide +kernel
theorem d85_1 : mm_dec q85 1 = some (.getfield 33) := by decide +kernel
theorem d85_4 : mm_dec q85 4 = some (.iconst (-1)) := by decide +kernel
theorem d85_5 : mm_dec q85 5 = some (.if_icmp .eq 11) := by decide +kernel
theorem d85_8 : mm_dec q85 8 = some (.iload_n 2) := by decide +kernel
theorem d85_9 : mm_dec q85 9 = some (.aload_n 0) := by decide +kernel
theorem d85_10 : mm_dec q85 10 = some (.getfield 118) := by decide +kernel
theorem d85_13 : mm_dec q85 13 = some (.if_icmp .ge 13) := by decide +kernel
theorem d85_16 : mm_dec q85 16 = some (.aload_n 0) := by decide +kernel
theorem d85_17 : mm_dec q85 17 = some (.iload_n 1) := by decide +kernel
theorem d85_18 : mm_dec q85 18 = some (.putfield 33) := by decide +kernel
theorem d85_21 : mm_dec q85 21 = some (.aload_n 0) := by decide +kernel
theorem d85_22 : mm_dec q85 22 = some (.iload_n 2) := by decide +kernel
theorem d85_23 : mm_dec q85 23 = some (.putfield 118) := by decide +kernel
theorem d85_26 : mm_dec q85 26 = some (.return_) := by decide +kernel
theorem d86_0 : mm_dec q86 0 = some (.aload_n 0) := by decide +kernel
theorem d86_1 : mm_dec q86 1 = some (.invokevirtual 52) := by decide +kernel
theorem d86_4 : mm_dec q86 4 = some (.aload_n 0) := by decide +kernel
theorem d86_5 : mm_dec q86 5 = some (.iload_n 1) := by decide +kernel
theorem d86_6 : mm_dec q86 6 = some (.putfield 65) := by decide +kernel
theorem d86_9 : mm_dec q86 9 = some (.iconst 0) := by decide +kernel
theorem d86_10 : mm_dec q86 10 = some (.istore_n 3) := by decide +kernel
theorem d86_11 : mm_dec q86 11 = some (.iload_n 3) := by decide +kernel
theorem d86_12 : mm_dec q86 12 = some (.iload_n 2) := by decide +kernel
theorem d86_13 : mm_dec q86 13 = some (.if_icmp .ge 24) := by decide +kernel
theorem d86_16 : mm_dec q86 16 = some (.aload_n 0) := by decide +kernel
theorem d86_17 : mm_dec q86 17 = some (.invokevirtual 115) := by decide +kernel
theorem d86_20 : mm_dec q86 20 = some (.aload_n 0) := by decide +kernel
theorem d86_21 : mm_dec q86 21 = some (.getfield 112) := by decide +kernel
theorem d86_24 : mm_dec q86 24 = some (.iconst 1) := by decide +kernel
theorem d86_25 : mm_dec q86 25 = some (.iand) := by decide +kernel
theorem d86_26 : mm_dec q86 26 = some (.ifCond .eq 5) := by decide +kernel
theorem d86_29 : mm_dec q86 29 = some (.iconst 0) := by decide +kernel
theorem d86_30 : mm_dec q86 30 = some (.ireturn) := by decide +kernel
theorem d86_31 : mm_dec q86 31 = some (.iinc 3 1) := by decide +kernel
theorem d86_34 : mm_dec q86 34 = some (.goto (-23)) := by decide +kernel
theorem d86_37 : mm_dec q86 37 = some (.iconst 1) := by decide +kernel
theorem d86_38 : mm_dec q86 38 = some (.ireturn) := by decide +kernel
theorem d87_0 : mm_dec q87 0 = some (.aload_n 0) := by decide +kernel
theorem d87_1 : mm_dec q87 1 = some (.invokespecial 3) := by decide +kernel
theorem d87_4 : mm_dec q87 4 = some (.aload_n 0) := by decide +kernel
theorem d87_5 : mm_dec q87 5 = some (.new 9) := by decide +kernel
theorem d87_8 : mm_dec q87 8 = some (.dup) := by decide +kernel
theorem d87_9 : mm_dec q87 9 = some (.invokespecial 11) := by decide +kernel
theorem d87_12 : mm_dec q87 12 = some (.putfield 12) := by decide +kernel
theorem d87_15 : mm_dec q87 15 = some (.aload_n 0) := by decide +kernel
theorem d87_16 : mm_dec q87 16 = some (.new 16) := by decide +kernel
theorem d87_19 : mm_dec q87 19 = some (.dup) := by decide +kernel
theorem d87_20 : mm_dec q87 20 = some (.aload_n 0) := by decide +kernel
theorem d87_21 : mm_dec q87 21 = some (.getfield 12) := by decide +kernel
theorem d87_24 : mm_dec q87 24 = some (.invokespecial 18) := by decide +kernel
theorem d87_27 : mm_dec q87 27 = some (.putfield 21) := by decide +kernel
theorem d87_30 : mm_dec q87 30 = some (.aload_n 0) := by decide +kernel
theorem d87_31 : mm_dec q87 31 = some (.new 25) := by decide +kernel
theorem d87_34 : mm_dec q87 34 = some (.dup) := by decide +kernel
theorem d87_35 : mm_dec q87 35 = some (.invokespecial 27) := by decide +kernel
theorem d87_38 : mm_dec q87 38 = some (.putfield 28) := by decide +kernel
theorem d87_41 : mm_dec q87 41 = some (.aload_n 0) := by decide +kernel
theorem d87_42 : mm_dec q87 42 = some (.new 25) := by decide +kernel
theorem d87_45 : mm_dec q87 45 = some (.dup) := by decide +kernel
theorem d87_46 : mm_dec q87 46 = some (.invokespecial 27) := by decide +kernel
theorem d87_49 : mm_dec q87 49 = some (.putfield 32) := by decide +kernel
theorem d87_52 : mm_dec q87 52 = some (.aload_n 0) := by decide +kernel
theorem d87_53 : mm_dec q87 53 = some (.new 35) := by decide +kernel
theorem d87_56 : mm_dec q87 56 = some (.dup) := by decide +kernel
theorem d87_57 : mm_dec q87 57 = some (.aload_n 0) := by decide +kernel
theorem d87_58 : mm_dec q87 58 = some (.getfield 21) := by decide +kernel
theorem d87_61 : mm_dec q87 61 = some (.aload_n 0) := by decide +kernel
theorem d87_62 : mm_dec q87 62 = some (.getfield 32) := by decide +kernel
theorem d87_65 : mm_dec q87 65 = some (.invokespecial 37) := by decide +kernel
theorem d87_68 : mm_dec q87 68 = some (.putfield 40) := by decide +kernel
theorem d87_71 : mm_dec q87 71 = some (.aload_n 0) := by decide +kernel
theorem d87_72 : mm_dec q87 72 = some (.new 44) := by decide +kernel
theorem d87_75 : mm_dec q87 75 = some (.dup) := by decide +kernel
theorem d87_76 : mm_dec q87 76 = some (.iconst (-1)) := by decide +kernel
theorem d87_77 : mm_dec q87 77 = some (.invokespecial 46) := by decide +kernel
theorem d87_80 : mm_dec q87 80 = some (.putfield 49) := by decide +kernel
theorem d87_83 : mm_dec q87 83 = some (.aload_n 0) := by decide +kernel
theorem d87_84 : mm_dec q87 84 = some (.new 53) := by decide +kernel
theorem d87_87 : mm_dec q87 87 = some (.dup) := by decide +kernel
theorem d87_88 : mm_dec q87 88 = some (.aload_n 0) := by decide +kernel
theorem d87_89 : mm_dec q87 89 = some (.getfield 21) := by decide +kernel
theorem d87_92 : mm_dec q87 92 = some (.aload_n 0) := by decide +kernel
theorem d87_93 : mm_dec q87 93 = some (.getfield 49) := by decide +kernel
theorem d87_96 : mm_dec q87 96 = some (.invokespecial 55) := by decide +kernel
theorem d87_99 : mm_dec q87 99 = some (.putfield 58) := by decide +kernel
theorem d87_102 : mm_dec q87 102 = some (.aload_n 0) := by decide +kernel
theorem d87_103 : mm_dec q87 103 = some (.iconst 4) := by decide +kernel
theorem d87_104 : mm_dec q87 104 = some (.anewarray 44) := by decide +kernel
theorem d87_107 : mm_dec q87 107 = some (.putfield 62) := by decide +kernel
theorem d87_110 : mm_dec q87 110 = some (.aload_n 0) := by decide +kernel
theorem d87_111 : mm_dec q87 111 = some (.new 66) := by decide +kernel
theorem d87_114 : mm_dec q87 114 = some (.dup) := by decide +kernel
theorem d87_115 : mm_dec q87 115 = some (.invokespecial 68) := by decide +kernel
theorem d87_118 : mm_dec q87 118 = some (.putfield 69) := by decide +kernel
theorem d87_121 : mm_dec q87 121 = some (.aload_n 0) := by decide +kernel
theorem d87_122 : mm_dec q87 122 = some (.new 66) := by decide +kernel
theorem d87_125 : mm_dec q87 125 = some (.dup) := by decide +kernel
theorem d87_126 : mm_dec q87 126 = some (.invokespecial 68) := by decide +kernel
theorem d87_129 : mm_dec q87 129 = some (.putfield 73) := by decide +kernel
theorem d87_132 : mm_dec q87 132 = some (.aload_n 0) := by decide +kernel
theorem d87_133 : mm_dec q87 133 = some (.new 66) := by decide +kernel
theorem d87_136 : mm_dec q87 136 = some (.dup) := by decide +kernel
theorem d87_137 : mm_dec q87 137 = some (.invokespecial 68) := by decide +kernel
theorem d87_140 : mm_dec q87 140 = some (.putfield 76) := by decide +kernel
theorem d87_143 : mm_dec q87 143 = some (.aload_n 0) := by decide +kernel
theorem d87_144 : mm_dec q87 144 = some (.new 79) := by decide +kernel
theorem d87_147 : mm_dec q87 147 = some (.dup) := by decide +kernel
theorem d87_148 : mm_dec q87 148 = some (.invokespecial 81) := by decide +kernel
theorem d87_151 : mm_dec q87 151 = some (.putfield 82) := by decide +kernel
theorem d87_154 : mm_dec q87 154 = some (.aload_n 0) := by decide +kernel
theorem d87_155 : mm_dec q87 155 = some (.new 86) := by decide +kernel
theorem d87_158 : mm_dec q87 158 = some (.dup) := by decide +kernel
theorem d87_159 : mm_dec q87 159 = some (.invokespecial 88) := by decide +kernel
theorem d87_162 : mm_dec q87 162 = some (.putfield 89) := by decide +kernel
theorem d87_165 : mm_dec q87 165 = some (.aload_n 0) := by decide +kernel
theorem d87_166 : mm_dec q87 166 = some (.new 93) := by decide +kernel
theorem d87_169 : mm_dec q87 169 = some (.dup) := by decide +kernel
theorem d87_170 : mm_dec q87 170 = some (.aload_n 0) := by decide +kernel
theorem d87_171 : mm_dec q87 171 = some (.getfield 28) := by decide +kernel
theorem d87_174 : mm_dec q87 174 = some (.aload_n 0) := by decide +kernel
theorem d87_175 : mm_dec q87 175 = some (.getfield 69) := by decide +kernel
theorem d87_178 : mm_dec q87 178 = some (.invokespecial 95) := by decide +kernel
theorem d87_181 : mm_dec q87 181 = some (.putfield 98) := by decide +kernel
theorem d87_184 : mm_dec q87 184 = some (.iconst 0) := by decide +kernel
theorem d87_185 : mm_dec q87 185 = some (.istore_n 1) := by decide +kernel
theorem d87_186 : mm_dec q87 186 = some (.iload_n 1) := by decide +kernel
theorem d87_187 : mm_dec q87 187 = some (.aload_n 0) := by decide +kernel
theorem d87_188 : mm_dec q87 188 = some (.getfield 62) := by decide +kernel
theorem d87_191 : mm_dec q87 191 = some (.arraylength) := by decide +kernel
theorem d87_192 : mm_dec q87 192 = some (.if_icmp .ge 23) := by decide +kernel
theorem d87_195 : mm_dec q87 195 = some (.aload_n 0) := by decide +kernel
theorem d87_196 : mm_dec q87 196 = some (.getfield 62) := by decide +kernel
theorem d87_199 : mm_dec q87 199 = some (.iload_n 1) := by decide +kernel
theorem d87_200 : mm_dec q87 200 = some (.new 44) := by decide +kernel
theorem d87_203 : mm_dec q87 203 = some (.dup) := by decide +kernel
theorem d87_204 : mm_dec q87 204 = some (.iload_n 1) := by decide +kernel
theorem d87_205 : mm_dec q87 205 = some (.invokespecial 46) := by decide +kernel
theorem d87_208 : mm_dec q87 208 = some (.aastore) := by decide +kernel
theorem d87_209 : mm_dec q87 209 = some (.iinc 1 1) := by decide +kernel
theorem d87_212 : mm_dec q87 212 = some (.goto (-26)) := by decide +kernel
theorem d87_215 : mm_dec q87 215 = some (.return_) := by decide +kernel
theorem d88_0 : mm_dec q88 0 = some (.iload_n 1) := by decide +kernel
theorem d88_1 : mm_dec q88 1 = some (.invokestatic 102) := by decide +kernel
theorem d88_4 : mm_dec q88 4 = some (.iload_n 2) := by decide +kernel
theorem d88_5 : mm_dec q88 5 = some (.invokestatic 102) := by decide +kernel
theorem d88_8 : mm_dec q88 8 = some (.iadd) := by decide +kernel
theorem d88_9 : mm_dec q88 9 = some (.iload_n 3) := by decide +kernel
theorem d88_10 : mm_dec q88 10 = some (.invokestatic 102) := by decide +kernel
theorem d88_13 : mm_dec q88 13 = some (.iadd) := by decide +kernel
theorem d88_14 : mm_dec q88 14 = some (.iload 4) := by decide +kernel
theorem d88_16 : mm_dec q88 16 = some (.invokestatic 102) := by decide +kernel
theorem d88_19 : mm_dec q88 19 = some (.iadd) := by decide +kernel
theorem d88_20 : mm_dec q88 20 = some (.iload 5) := by decide +kernel
theorem d88_22 : mm_dec q88 22 = some (.invokestatic 102) := by decide +kernel
theorem d88_25 : mm_dec q88 25 = some (.iadd) := by decide +kernel
theorem d88_26 : mm_dec q88 26 = some (.istore 6) := by decide +kernel
theorem d88_28 : mm_dec q88 28 = some (.aload_n 0) := by decide +kernel
theorem d88_29 : mm_dec q88 29 = some (.getfield 12) := by decide +kernel
theorem d88_32 : mm_dec q88 32 = some (.getfield 106) := by decide +kernel
theorem d88_35 : mm_dec q88 35 = some (.iload 6) := by decide +kernel
theorem d88_37 : mm_dec q88 37 = some (.iadd) := by decide +kernel
theorem d88_38 : mm_dec q88 38 = some (.sipush 160) := by decide +kernel
theorem d88_41 : mm_dec q88 41 = some (.if_icmp .le 5) := by decide +kernel
theorem d88_44 : mm_dec q88 44 = some (.iconst (-1)) := by decide +kernel
theorem d88_45 : mm_dec q88 45 = some (.ireturn) := by decide +kernel
theorem d88_46 : mm_dec q88 46 = some (.aload_n 0) := by decide +kernel
theorem d88_47 : mm_dec q88 47 = some (.getfield 12) := by decide +kernel
theorem d88_50 : mm_dec q88 50 = some (.iload_n 1) := by decide +kernel
theorem d88_51 : mm_dec q88 51 = some (.invokevirtual 110) := by decide +kernel
theorem d88_54 : mm_dec q88 54 = some (.aload_n 0) := by decide +kernel
theorem d88_55 : mm_dec q88 55 = some (.getfield 12) := by decide +kernel
theorem d88_58 : mm_dec q88 58 = some (.iload_n 2) := by decide +kernel
theorem d88_59 : mm_dec q88 59 = some (.invokevirtual 110) := by decide +kernel
theorem d88_62 : mm_dec q88 62 = some (.aload_n 0) := by decide +kernel
theorem d88_63 : mm_dec q88 63 = some (.getfield 12) := by decide +kernel
theorem d88_66 : mm_dec q88 66 = some (.iload_n 3) := by decide +kernel
theorem d88_67 : mm_dec q88 67 = some (.invokevirtual 110) := by decide +kernel
theorem d88_70 : mm_dec q88 70 = some (.aload_n 0) := by decide +kernel
theorem d88_71 : mm_dec q88 71 = some (.getfield 12) := by decide +kernel
theorem d88_74 : mm_dec q88 74 = some (.iload 4) := by decide +kernel
theorem d88_76 : mm_dec q88 76 = some (.invokevirtual 110) := by decide +kernel
theorem d88_79 : mm_dec q88 79 = some (.aload_n 0) := by decide +kernel
theorem d88_80 : mm_dec q88 80 = some (.getfield 12) := by decide +kernel
theorem d88_83 : mm_dec q88 83 = some (.iload 5) := by decide +kernel
theorem d88_85 : mm_dec q88 85 = some (.invokevirtual 110) := by decide +kernel
theorem d88_88 : mm_dec q88 88 = some (.aload_n 0) := by decide +kernel
theorem d88_89 : mm_dec q88 89 = some (.getfield 12) := by decide +kernel
theorem d88_92 : mm_dec q88 92 = some (.getfield 106) := by decide +kernel
theorem d88_95 : mm_dec q88 95 = some (.ireturn) := by decide +kernel
theorem d89_0 : mm_dec q89 0 = some (.iload_n 1) := by decide +kernel
theorem d89_1 : mm_dec q89 1 = some (.ifCond .lt 14) := by decide +kernel
theorem d89_4 : mm_dec q89 4 = some (.iload_n 1) := by decide +kernel
theorem d89_5 : mm_dec q89 5 = some (.aload_n 0) := by decide +kernel
theorem d89_6 : mm_dec q89 6 = some (.getfield 12) := by decide +kernel
theorem d89_9 : mm_dec q89 9 = some (.getfield 106) := by decide +kernel
theorem d89_12 : mm_dec q89 12 = some (.if_icmp .le 5) := by decide +kernel
theorem d89_15 : mm_dec q89 15 = some (.iconst 0) := by decide +kernel
theorem d89_16 : mm_dec q89 16 = some (.ireturn) := by decide +kernel
theorem d89_17 : mm_dec q89 17 = some (.aload_n 0) := by decide +kernel
theorem d89_18 : mm_dec q89 18 = some (.getfield 12) := by decide +kernel
theorem d89_21 : mm_dec q89 21 = some (.iload_n 1) := by decide +kernel
theorem d89_22 : mm_dec q89 22 = some (.putfield 106) := by decide +kernel
theorem d89_25 : mm_dec q89 25 = some (.iconst 1) := by decide +kernel
theorem d89_26 : mm_dec q89 26 = some (.ireturn) := by decide +kernel
theorem d90_0 : mm_dec q90 0 = some (.iload_n 1) := by decide +kernel
theorem d90_1 : mm_dec q90 1 = some (.ifCond .ne 11) := by decide +kernel
theorem d90_4 : mm_dec q90 4 = some (.aload_n 0) := by decide +kernel
theorem d90_5 : mm_dec q90 5 = some (.getfield 40) := by decide +kernel
theorem d90_8 : mm_dec q90 8 = some (.invokevirtual 113) := by decide +kernel
theorem d90_11 : mm_dec q90 11 = some (.ireturn) := by decide +kernel
theorem d90_12 : mm_dec q90 12 = some (.iload_n 1) := by decide +kernel
theorem d90_13 : mm_dec q90 13 = some (.iconst 1) := by decide +kernel
theorem d90_14 : mm_dec q90 14 = some (.if_icmp .ne 13) := by decide +kernel
theorem d90_17 : mm_dec q90 17 = some (.aload_n 0) := by decide +kernel
theorem d90_18 : mm_dec q90 18 = some (.getfield 58) := by decide +kernel
theorem d90_21 : mm_dec q90 21 = some (.invokevirtual 117) := by decide +kernel
theorem d90_24 : mm_dec q90 24 = some (.goto 5) := by decide +kernel
theorem d90_27 : mm_dec q90 27 = some (.bipush (-2)) := by decide +kernel
theorem d90_29 : mm_dec q90 29 = some (.ireturn) := by decide +kernel
theorem d91_0 : mm_dec q91 0 = some (.iload_n 1) := by decide +kernel
theorem d91_1 : mm_dec q91 1 = some (.ifCond .ne 19) := by decide +kernel
theorem d91_4 : mm_dec q91 4 = some (.aload_n 0) := by decide +kernel
theorem d91_5 : mm_dec q91 5 = some (.getfield 40) := by decide +kernel
theorem d91_8 : mm_dec q91 8 = some (.invokevirtual 113) := by decide +kernel
theorem d91_11 : mm_dec q91 11 = some (.iconst (-1)) := by decide +kernel
theorem d91_12 : mm_dec q91 12 = some (.if_icmp .ne 8) := by decide +kernel
theorem d91_15 : mm_dec q91 15 = some (.aload_n 0) := by decide +kernel
theorem d91_16 : mm_dec q91 16 = some (.invokevirtual 118) := by decide +kernel
theorem d91_19 : mm_dec q91 19 = some (.ireturn) := by decide +kernel
theorem d91_20 : mm_dec q91 20 = some (.iload_n 1) := by decide +kernel
theorem d91_21 : mm_dec q91 21 = some (.iconst 1) := by decide +kernel
theorem d91_22 : mm_dec q91 22 = some (.if_icmp .ne 21) := by decide +kernel
theorem d91_25 : mm_dec q91 25 = some (.aload_n 0) := by decide +kernel
theorem d91_26 : mm_dec q91 26 = some (.getfield 58) := by decide +kernel
theorem d91_29 : mm_dec q91 29 = some (.invokevirtual 117) := by decide +kernel
theorem d91_32 : mm_dec q91 32 = some (.iconst (-1)) := by decide +kernel
theorem d91_33 : mm_dec q91 33 = some (.if_icmp .ne 10) := by decide +kernel
theorem d91_36 : mm_dec q91 36 = some (.aload_n 0) := by decide +kernel
theorem d91_37 : mm_dec q91 37 = some (.invokevirtual 121) := by decide +kernel
theorem d91_40 : mm_dec q91 40 = some (.goto 4) := by decide +kernel
theorem d91_43 : mm_dec q91 43 = some (.iconst (-1)) := by decide +kernel
theorem d91_44 : mm_dec q91 44 = some (.ireturn) := by decide +kernel
theorem d92_0 : mm_dec q92 0 = some (.aload_n 0) := by decide +kernel
theorem d92_1 : mm_dec q92 1 = some (.getfield 12) := by decide +kernel
theorem d92_4 : mm_dec q92 4 = some (.iconst 0) := by decide +kernel
theorem d92_5 : mm_dec q92 5 = some (.putfield 106) := by decide +kernel
theorem d92_8 : mm_dec q92 8 = some (.aload_n 0) := by decide +kernel
theorem d92_9 : mm_dec q92 9 = some (.getfield 28) := by decide +kernel
theorem d92_12 : mm_dec q92 12 = some (.aload_n 0) := by decide +kernel
theorem d92_13 : mm_dec q92 13 = some (.getfield 32) := by decide +kernel
theorem d92_16 : mm_dec q92 16 = some (.invokevirtual 124) := by decide +kernel
theorem d92_19 : mm_dec q92 19 = some (.aload_n 0) := by decide +kernel
theorem d92_20 : mm_dec q92 20 = some (.getfield 69) := by decide +kernel
theorem d92_23 : mm_dec q92 23 = some (.invokevirtual 128) := by decide +kernel
theorem d92_26 : mm_dec q92 26 = some (.aload_n 0) := by decide +kernel
theorem d92_27 : mm_dec q92 27 = some (.getfield 82) := by decide +kernel
theorem d92_30 : mm_dec q92 30 = some (.invokevirtual 131) := by decide +kernel
theorem d92_33 : mm_dec q92 33 = some (.aload_n 0) := by decide +kernel
theorem d92_34 : mm_dec q92 34 = some (.getfield 89) := by decide +kernel
theorem d92_37 : mm_dec q92 37 = some (.invokevirtual 134) := by decide +kernel
theorem d92_40 : mm_dec q92 40 = some (.aload_n 0) := by decide +kernel
theorem d92_41 : mm_dec q92 41 = some (.iconst 0) := by decide +kernel
theorem d92_42 : mm_dec q92 42 = some (.putfield 135) := by decide +kernel
theorem d92_45 : mm_dec q92 45 = some (.aload_n 0) := by decide +kernel
theorem d92_46 : mm_dec q92 46 = some (.getfield 28) := by decide +kernel
theorem d92_49 : mm_dec q92 49 = some (.getfield 139) := by decide +kernel
theorem d92_52 : mm_dec q92 52 = some (.ireturn) := by decide +kernel
theorem d93_0 : mm_dec q93 0 = some (.aload_n 0) := by decide +kernel
theorem d93_1 : mm_dec q93 1 = some (.getfield 142) := by decide +kernel
theorem d93_4 : mm_dec q93 4 = some (.ifCond .lt 27) := by decide +kernel
theorem d93_7 : mm_dec q93 7 = some (.aload_n 0) := by decide +kernel
theorem d93_8 : mm_dec q93 8 = some (.getfield 142) := by decide +kernel
theorem d93_11 : mm_dec q93 11 = some (.aload_n 0) := by decide +kernel
theorem d93_12 : mm_dec q93 12 = some (.getfield 62) := by decide +kernel
theorem d93_15 : mm_dec q93 15 = some (.arraylength) := by decide +kernel
theorem d93_16 : mm_dec q93 16 = some (.if_icmp .ge 15) := by decide +kernel
theorem d93_19 : mm_dec q93 19 = some (.aload_n 0) := by decide +kernel
theorem d93_20 : mm_dec q93 20 = some (.getfield 62) := by decide +kernel
theorem d93_23 : mm_dec q93 23 = some (.aload_n 0) := by decide +kernel
theorem d93_24 : mm_dec q93 24 = some (.getfield 142) := by decide +kernel
theorem d93_27 : mm_dec q93 27 = some (.aaload) := by decide +kernel
theorem d93_28 : mm_dec q93 28 = some (.ifnonnull 5) := by decide +kernel
theorem d93_31 : mm_dec q93 31 = some (.iconst (-1)) := by decide +kernel
theorem d93_32 : mm_dec q93 32 = some (.ireturn) := by decide +kernel
theorem d93_33 : mm_dec q93 33 = some (.aload_n 0) := by decide +kernel
theorem d93_34 : mm_dec q93 34 = some (.getfield 12) := by decide +kernel
theorem d93_37 : mm_dec q93 37 = some (.iconst 0) := by decide +kernel
theorem d93_38 : mm_dec q93 38 = some (.putfield 106) := by decide +kernel
theorem d93_41 : mm_dec q93 41 = some (.aload_n 0) := by decide +kernel
theorem d93_42 : mm_dec q93 42 = some (.getfield 62) := by decide +kernel
theorem d93_45 : mm_dec q93 45 = some (.aload_n 0) := by decide +kernel
theorem d93_46 : mm_dec q93 46 = some (.getfield 142) := by decide +kernel
theorem d93_49 : mm_dec q93 49 = some (.aaload) := by decide +kernel
theorem d93_50 : mm_dec q93 50 = some (.aload_n 0) := by decide +kernel
theorem d93_51 : mm_dec q93 51 = some (.getfield 49) := by decide +kernel
theorem d93_54 : mm_dec q93 54 = some (.invokevirtual 145) := by decide +kernel
theorem d93_57 : mm_dec q93 57 = some (.aload_n 0) := by decide +kernel
theorem d93_58 : mm_dec q93 58 = some (.dup) := by decide +kernel
theorem d93_59 : mm_dec q93 59 = some (.getfield 142) := by decide +kernel
theorem d93_62 : mm_dec q93 62 = some (.iconst 1) := by decide +kernel
theorem d93_63 : mm_dec q93 63 = some (.iadd) := by decide +kernel
theorem d93_64 : mm_dec q93 64 = some (.putfield 142) := by decide +kernel
theorem d93_67 : mm_dec q93 67 = some (.aload_n 0) := by decide +kernel
theorem d93_68 : mm_dec q93 68 = some (.getfield 142) := by decide +kernel
theorem d93_71 : mm_dec q93 71 = some (.iconst 1) := by decide +kernel
theorem d93_72 : mm_dec q93 72 = some (.isub) := by decide +kernel
theorem d93_73 : mm_dec q93 73 = some (.ireturn) := by decide +kernel
theorem d94_0 : mm_dec q94 0 = some (.aload_n 0) := by decide +kernel
theorem d94_1 : mm_dec q94 1 = some (.iload_n 1) := by decide +kernel
theorem d94_2 : mm_dec q94 2 = some (.invokevirtual 148) := by decide +kernel
theorem d94_5 : mm_dec q94 5 = some (.ifCond .eq 13) := by decide +kernel
theorem d94_8 : mm_dec q94 8 = some (.iload_n 2) := by decide +kernel
theorem d94_9 : mm_dec q94 9 = some (.ifCond .lt 9) := by decide +kernel
theorem d94_12 : mm_dec q94 12 = some (.iload_n 2) := by decide +kernel
theorem d94_13 : mm_dec q94 13 = some (.bipush 6) := by decide +kernel
theorem d94_15 : mm_dec q94 15 = some (.if_icmp .le 11) := by decide +kernel
theorem d94_18 : mm_dec q94 18 = some (.new 152) := by decide +kernel
theorem d94_21 : mm_dec q94 21 = some (.dup) := by decide +kernel
theorem d94_22 : mm_dec q94 22 = some (.invokespecial 154) := by decide +kernel
theorem d94_25 : mm_dec q94 25 = some (.athrow) := by decide +kernel
theorem d94_26 : mm_dec q94 26 = some (.iload_n 2) := by decide +kernel
theorem d94_27 : mm_dec q94 27 = some (.iconst 3) := by decide +kernel
theorem d94_28 : mm_dec q94 28 = some (.if_icmp .gt 15) := by decide +kernel
theorem d94_31 : mm_dec q94 31 = some (.aload_n 0) := by decide +kernel
theorem d94_32 : mm_dec q94 32 = some (.getfield 28) := by decide +kernel
theorem d94_35 : mm_dec q94 35 = some (.getfield 155) := by decide +kernel
theorem d94_38 : mm_dec q94 38 = some (.iload_n 1) := by decide +kernel
theorem d94_39 : mm_dec q94 39 = some (.aaload) := by decide +kernel
theorem d94_40 : mm_dec q94 40 = some (.iload_n 2) := by decide +kernel
theorem d94_41 : mm_dec q94 41 = some (.iaload) := by decide +kernel
theorem d94_42 : mm_dec q94 42 = some (.ireturn) := by decide +kernel
theorem d94_43 : mm_dec q94 43 = some (.iload_n 2) := by decide +kernel
theorem d94_44 : mm_dec q94 44 = some (.iconst 4) := by decide +kernel
theorem d94_45 : mm_dec q94 45 = some (.if_icmp .ne 26) := by decide +kernel
theorem d94_48 : mm_dec q94 48 = some (.aload_n 0) := by decide +kernel
theorem d94_49 : mm_dec q94 49 = some (.getfield 28) := by decide +kernel
theorem d94_52 : mm_dec q94 52 = some (.getfield 159) := by decide +kernel
theorem d94_55 : mm_dec q94 55 = some (.iload_n 1) := by decide +kernel
theorem d94_56 : mm_dec q94 56 = some (.aaload) := by decide +kernel
theorem d94_57 : mm_dec q94 57 = some (.astore_n 3) := by decide +kernel
theorem d94_58 : mm_dec q94 58 = some (.aload_n 3) := by decide +kernel
theorem d94_59 : mm_dec q94 59 = some (.ifnonnull 7) := by decide +kernel
theorem d94_62 : mm_dec q94 62 = some (.iconst (-1)) := by decide +kernel
theorem d94_63 : mm_dec q94 63 = some (.goto 7) := by decide +kernel
theorem d94_66 : mm_dec q94 66 = some (.aload_n 3) := by decide +kernel
theorem d94_67 : mm_dec q94 67 = some (.getfield 160) := by decide +kernel
theorem d94_70 : mm_dec q94 70 = some (.ireturn) := by decide +kernel
theorem d94_71 : mm_dec q94 71 = some (.aload_n 0) := by decide +kernel
theorem d94_72 : mm_dec q94 72 = some (.getfield 98) := by decide +kernel
theorem d94_75 : mm_dec q94 75 = some (.aload_n 0) := by decide +kernel
theorem d94_76 : mm_dec q94 76 = some (.getfield 69) := by decide +kernel
theorem d94_79 : mm_dec q94 79 = some (.iconst 1) := by decide +kernel
theorem d94_80 : mm_dec q94 80 = some (.invokevirtual 163) := by decide +kernel
theorem d94_83 : mm_dec q94 83 = some (.aload_n 0) := by decide +kernel
theorem d94_84 : mm_dec q94 84 = some (.getfield 98) := by decide +kernel
theorem d94_87 : mm_dec q94 87 = some (.invokevirtual 167) := by decide +kernel
theorem d94_90 : mm_dec q94 90 = some (.iload_n 2) := by decide +kernel
theorem d94_91 : mm_dec q94 91 = some (.iconst 5) := by decide +kernel
theorem d94_92 : mm_dec q94 92 = some (.if_icmp .ne 13) := by decide +kernel
theorem d94_95 : mm_dec q94 95 = some (.aload_n 0) := by decide +kernel
theorem d94_96 : mm_dec q94 96 = some (.getfield 98) := by decide +kernel
theorem d94_99 : mm_dec q94 99 = some (.getfield 170) := by decide +kernel
theorem d94_102 : mm_dec q94 102 = some (.goto 10) := by decide +kernel
theorem d94_105 : mm_dec q94 105 = some (.aload_n 0) := by decide +kernel
theorem d94_106 : mm_dec q94 106 = some (.getfield 98) := by decide +kernel
theorem d94_109 : mm_dec q94 109 = some (.getfield 173) := by decide +kernel
theorem d94_112 : mm_dec q94 112 = some (.iload_n 1) := by decide +kernel
theorem d94_113 : mm_dec q94 113 = some (.ishr) := by decide +kernel
theorem d94_114 : mm_dec q94 114 = some (.iconst 1) := by decide +kernel
theorem d94_115 : mm_dec q94 115 = some (.iand) := by decide +kernel
theorem d94_116 : mm_dec q94 116 = some (.ireturn) := by decide +kernel
theorem d95_0 : mm_dec q95 0 = some (.aload_n 0) := by decide +kernel
theorem d95_1 : mm_dec q95 1 = some (.iload_n 1) := by decide +kernel
theorem d95_2 : mm_dec q95 2 = some (.invokevirtual 176) := by decide +kernel
theorem d95_5 : mm_dec q95 5 = some (.ifCond .eq 12) := by decide +kernel
theorem d95_8 : mm_dec q95 8 = some (.iload_n 2) := by decide +kernel
theorem d95_9 : mm_dec q95 9 = some (.ifCond .lt 8) := by decide +kernel
theorem d95_12 : mm_dec q95 12 = some (.iload_n 2) := by decide +kernel
theorem d95_13 : mm_dec q95 13 = some (.iconst 4) := by decide +kernel
theorem d95_14 : mm_dec q95 14 = some (.if_icmp .le 5) := by decide +kernel
theorem d95_17 : mm_dec q95 17 = some (.iconst (-1)) := by decide +kernel
theorem d95_18 : mm_dec q95 18 = some (.ireturn) := by decide +kernel
theorem d95_19 : mm_dec q95 19 = some (.iload_n 2) := by decide +kernel
theorem d95_20 : mm_dec q95 20 = some (.iconst 2) := by decide +kernel
theorem d95_21 : mm_dec q95 21 = some (.if_icmp .gt 15) := by decide +kernel
theorem d95_24 : mm_dec q95 24 = some (.aload_n 0) := by decide +kernel
theorem d95_25 : mm_dec q95 25 = some (.getfield 28) := by decide +kernel
theorem d95_28 : mm_dec q95 28 = some (.getfield 179) := by decide +kernel
theorem d95_31 : mm_dec q95 31 = some (.iload_n 1) := by decide +kernel
theorem d95_32 : mm_dec q95 32 = some (.aaload) := by decide +kernel
theorem d95_33 : mm_dec q95 33 = some (.iload_n 2) := by decide +kernel
theorem d95_34 : mm_dec q95 34 = some (.iaload) := by decide +kernel
theorem d95_35 : mm_dec q95 35 = some (.ireturn) := by decide +kernel
theorem d95_36 : mm_dec q95 36 = some (.iload_n 2) := by decide +kernel
theorem d95_37 : mm_dec q95 37 = some (.iconst 3) := by decide +kernel
theorem d95_38 : mm_dec q95 38 = some (.if_icmp .ne 15) := by decide +kernel
theorem d95_41 : mm_dec q95 41 = some (.aload_n 0) := by decide +kernel
theorem d95_42 : mm_dec q95 42 = some (.getfield 69) := by decide +kernel
theorem d95_45 : mm_dec q95 45 = some (.getfield 182) := by decide +kernel
theorem d95_48 : mm_dec q95 48 = some (.iload_n 1) := by decide +kernel
theorem d95_49 : mm_dec q95 49 = some (.iaload) := by decide +kernel
theorem d95_50 : mm_dec q95 50 = some (.goto 12) := by decide +kernel
theorem d95_53 : mm_dec q95 53 = some (.aload_n 0) := by decide +kernel
theorem d95_54 : mm_dec q95 54 = some (.getfield 69) := by decide +kernel
theorem d95_57 : mm_dec q95 57 = some (.getfield 186) := by decide +kernel
theorem d95_60 : mm_dec q95 60 = some (.iload_n 1) := by decide +kernel
theorem d95_61 : mm_dec q95 61 = some (.iaload) := by decide +kernel
theorem d95_62 : mm_dec q95 62 = some (.ireturn) := by decide +kernel
theorem d96_0 : mm_dec q96 0 = some (.aload_n 0) := by decide +kernel
theorem d96_1 : mm_dec q96 1 = some (.invokevirtual 189) := by decide +kernel
theorem d96_4 : mm_dec q96 4 = some (.ifCond .eq 7) := by decide +kernel
theorem d96_7 : mm_dec q96 7 = some (.iload_n 1) := by decide +kernel
theorem d96_8 : mm_dec q96 8 = some (.ifCond .ge 5) := by decide +kernel
theorem d96_11 : mm_dec q96 11 = some (.iconst (-1)) := by decide +kernel
theorem d96_12 : mm_dec q96 12 = some (.ireturn) := by decide +kernel
theorem d96_13 : mm_dec q96 13 = some (.aload_n 0) := by decide +kernel
theorem d96_14 : mm_dec q96 14 = some (.getfield 28) := by decide +kernel
theorem d96_17 : mm_dec q96 17 = some (.iload_n 1) := by decide +kernel
theorem d96_18 : mm_dec q96 18 = some (.invokevirtual 193) := by decide +kernel
theorem d96_21 : mm_dec q96 21 = some (.ifCond .eq 7) := by decide +kernel
theorem d96_24 : mm_dec q96 24 = some (.iconst 1) := by decide +kernel
theorem d96_25 : mm_dec q96 25 = some (.goto 4) := by decide +kernel
theorem d96_28 : mm_dec q96 28 = some (.iconst 0) := by decide +kernel
theorem d96_29 : mm_dec q96 29 = some (.ireturn) := by decide +kernel
theorem d97_0 : mm_dec q97 0 = some (.aload_n 0) := by decide +kernel
theorem d97_1 : mm_dec q97 1 = some (.iload_n 1) := by decide +kernel
theorem d97_2 : mm_dec q97 2 = some (.invokevirtual 148) := by decide +kernel
theorem d97_5 : mm_dec q97 5 = some (.ifCond .eq 12) := by decide +kernel
theorem d97_8 : mm_dec q97 8 = some (.iload_n 2) := by decide +kernel
theorem d97_9 : mm_dec q97 9 = some (.ifCond .lt 8) := by decide +kernel
theorem d97_12 : mm_dec q97 12 = some (.iload_n 2) := by decide +kernel
theorem d97_13 : mm_dec q97 13 = some (.iconst 3) := by decide +kernel
theorem d97_14 : mm_dec q97 14 = some (.if_icmp .le 5) := by decide +kernel
theorem d97_17 : mm_dec q97 17 = some (.iconst 0) := by decide +kernel
theorem d97_18 : mm_dec q97 18 = some (.ireturn) := by decide +kernel
theorem d97_19 : mm_dec q97 19 = some (.iload_n 2) := by decide +kernel
theorem d97_20 : mm_dec q97 20 = some (.iconst 3) := by decide +kernel
theorem d97_21 : mm_dec q97 21 = some (.if_icmp .ne 10) := by decide +kernel
theorem d97_24 : mm_dec q97 24 = some (.aload_n 0) := by decide +kernel
theorem d97_25 : mm_dec q97 25 = some (.iload_n 1) := by decide +kernel
theorem d97_26 : mm_dec q97 26 = some (.iload_n 3) := by decide +kernel
theorem d97_27 : mm_dec q97 27 = some (.invokevirtual 196) := by decide +kernel
theorem d97_30 : mm_dec q97 30 = some (.ireturn) := by decide +kernel
theorem d97_31 : mm_dec q97 31 = some (.iload_n 3) := by decide +kernel
theorem d97_32 : mm_dec q97 32 = some (.getstatic 200) := by decide +kernel
theorem d97_35 : mm_dec q97 35 = some (.iconst 4) := by decide +kernel
theorem d97_36 : mm_dec q97 36 = some (.iload_n 2) := by decide +kernel
theorem d97_37 : mm_dec q97 37 = some (.imul) := by decide +kernel
theorem d97_38 : mm_dec q97 38 = some (.iconst 1) := by decide +kernel
theorem d97_39 : mm_dec q97 39 = some (.iadd) := by decide +kernel
theorem d97_40 : mm_dec q97 40 = some (.iaload) := by decide +kernel
theorem d97_41 : mm_dec q97 41 = some (.if_icmp .lt 16) := by decide +kernel
theorem d97_44 : mm_dec q97 44 = some (.iload_n 3) := by decide +kernel
theorem d97_45 : mm_dec q97 45 = some (.getstatic 200) := by decide +kernel
theorem d97_48 : mm_dec q97 48 = some (.iconst 4) := by decide +kernel
theorem d97_49 : mm_dec q97 49 = some (.iload_n 2) := by decide +kernel
theorem d97_50 : mm_dec q97 50 = some (.imul) := by decide +kernel
theorem d97_51 : mm_dec q97 51 = some (.iconst 2) := by decide +kernel
theorem d97_52 : mm_dec q97 52 = some (.iadd) := by decide +kernel
theorem d97_53 : mm_dec q97 53 = some (.iaload) := by decide +kernel
theorem d97_54 : mm_dec q97 54 = some (.if_icmp .le 5) := by decide +kernel
theorem d97_57 : mm_dec q97 57 = some (.iconst 0) := by decide +kernel
theorem d97_58 : mm_dec q97 58 = some (.ireturn) := by decide +kernel
theorem d97_59 : mm_dec q97 59 = some (.aload_n 0) := by decide +kernel
theorem d97_60 : mm_dec q97 60 = some (.getfield 28) := by decide +kernel
theorem d97_63 : mm_dec q97 63 = some (.getfield 155) := by decide +kernel
theorem d97_66 : mm_dec q97 66 = some (.iload_n 1) := by decide +kernel
theorem d97_67 : mm_dec q97 67 = some (.aaload) := by decide +kernel
theorem d97_68 : mm_dec q97 68 = some (.iload_n 2) := by decide +kernel
theorem d97_69 : mm_dec q97 69 = some (.iload_n 3) := by decide +kernel
theorem d97_70 : mm_dec q97 70 = some (.iastore) := by decide +kernel
theorem d97_71 : mm_dec q97 71 = some (.iconst 1) := by decide +kernel
theorem d97_72 : mm_dec q97 72 = some (.ireturn) := by decide +kernel
theorem d98_0 : mm_dec q98 0 = some (.iload_n 2) := by decide +kernel
theorem d98_1 : mm_dec q98 1 = some (.iconst (-1)) := by decide +kernel
theorem d98_2 : mm_dec q98 2 = some (.if_icmp .lt 20) := by decide +kernel
theorem d98_5 : mm_dec q98 5 = some (.iload_n 2) := by decide +kernel
theorem d98_6 : mm_dec q98 6 = some (.aload_n 0) := by decide +kernel
theorem d98_7 : mm_dec q98 7 = some (.getfield 142) := by decide +kernel
theorem d98_10 : mm_dec q98 10 = some (.if_icmp .ge 12) := by decide +kernel
theorem d98_13 : mm_dec q98 13 = some (.iload_n 2) := by decide +kernel
theorem d98_14 : mm_dec q98 14 = some (.aload_n 0) := by decide +kernel
theorem d98_15 : mm_dec q98 15 = some (.getfield 62) := by decide +kernel
theorem d98_18 : mm_dec q98 18 = some (.arraylength) := by decide +kernel
theorem d98_19 : mm_dec q98 19 = some (.if_icmp .lt 5) := by decide +kernel
theorem d98_22 : mm_dec q98 22 = some (.iconst 0) := by decide +kernel
theorem d98_23 : mm_dec q98 23 = some (.ireturn) := by decide +kernel
theorem d98_24 : mm_dec q98 24 = some (.aload_n 0) := by decide +kernel
theorem d98_25 : mm_dec q98 25 = some (.getfield 28) := by decide +kernel
theorem d98_28 : mm_dec q98 28 = some (.getfield 159) := by decide +kernel
theorem d98_31 : mm_dec q98 31 = some (.iload_n 1) := by decide +kernel
theorem d98_32 : mm_dec q98 32 = some (.iload_n 2) := by decide +kernel
theorem d98_33 : mm_dec q98 33 = some (.iconst (-1)) := by decide +kernel
theorem d98_34 : mm_dec q98 34 = some (.if_icmp .ne 7) := by decide +kernel
theorem d98_37 : mm_dec q98 37 = some (.aconst_null) := by decide +kernel
theorem d98_38 : mm_dec q98 38 = some (.goto 9) := by decide +kernel
theorem d98_41 : mm_dec q98 41 = some (.aload_n 0) := by decide +kernel
theorem d98_42 : mm_dec q98 42 = some (.getfield 62) := by decide +kernel
theorem d98_45 : mm_dec q98 45 = some (.iload_n 2) := by decide +kernel
theorem d98_46 : mm_dec q98 46 = some (.aaload) := by decide +kernel
theorem d98_47 : mm_dec q98 47 = some (.aastore) := by decide +kernel
theorem d98_48 : mm_dec q98 48 = some (.iconst 1) := by decide +kernel
theorem d98_49 : mm_dec q98 49 = some (.ireturn) := by decide +kernel
theorem d99_0 : mm_dec q99 0 = some (.iload_n 1) := by decide +kernel
theorem d99_1 : mm_dec q99 1 = some (.ifCond .lt 9) := by decide +kernel
theorem d99_4 : mm_dec q99 4 = some (.iload_n 1) := by decide +kernel
theorem d99_5 : mm_dec q99 5 = some (.bipush 100) := by decide +kernel
theorem d99_7 : mm_dec q99 7 = some (.if_icmp .le 5) := by decide +kernel
theorem d99_10 : mm_dec q99 10 = some (.iconst 0) := by decide +kernel
theorem d99_11 : mm_dec q99 11 = some (.ireturn) := by decide +kernel
theorem d99_12 : mm_dec q99 12 = some (.aload_n 0) := by decide +kernel
theorem d99_13 : mm_dec q99 13 = some (.iload_n 1) := by decide +kernel
theorem d99_14 : mm_dec q99 14 = some (.putfield 203) := by decide +kernel
theorem d99_17 : mm_dec q99 17 = some (.iconst 1) := by decide +kernel
theorem d99_18 : mm_dec q99 18 = some (.ireturn) := by decide +kernel
theorem d100_0 : mm_dec q100 0 = some (.aload_n 0) := by decide +kernel
theorem d100_1 : mm_dec q100 1 = some (.getfield 69) := by decide +kernel
theorem d100_4 : mm_dec q100 4 = some (.lload_n 1) := by decide +kernel
theorem d100_5 : mm_dec q100 5 = some (.putfield 206) := by decide +kernel
theorem d100_8 : mm_dec q100 8 = some (.iconst 1) := by decide +kernel
theorem d100_9 : mm_dec q100 9 = some (.ireturn) := by decide +kernel
theorem d101_0 : mm_dec q101 0 = some (.aload_n 0) := by decide +kernel
theorem d101_1 : mm_dec q101 1 = some (.invokevirtual 189) := by decide +kernel
theorem d101_4 : mm_dec q101 4 = some (.ifCond .eq 10) := by decide +kernel
theorem d101_7 : mm_dec q101 7 = some (.iload_n 1) := by decide +kernel
theorem d101_8 : mm_dec q101 8 = some (.invokestatic 210) := by decide +kernel
theorem d101_11 : mm_dec q101 11 = some (.ifCond .ne 5) := by decide +kernel
theorem d101_14 : mm_dec q101 14 = some (.iconst (-1)) := by decide +kernel
theorem d101_15 : mm_dec q101 15 = some (.ireturn) := by decide +kernel
theorem d101_16 : mm_dec q101 16 = some (.iconst 0) := by decide +kernel
theorem d101_17 : mm_dec q101 17 = some (.istore_n 2) := by decide +kernel
theorem d101_18 : mm_dec q101 18 = some (.iload_n 2) := by decide +kernel
theorem d101_19 : mm_dec q101 19 = some (.iload_n 1) := by decide +kernel
theorem d101_20 : mm_dec q101 20 = some (.if_icmp .ge 132) := by decide +kernel
theorem d101_23 : mm_dec q101 23 = some (.aload_n 0) := by decide +kernel
theorem d101_24 : mm_dec q101 24 = some (.getfield 82) := by decide +kernel
theorem d101_27 : mm_dec q101 27 = some (.aload_n 0) := by decide +kernel
theorem d101_28 : mm_dec q101 28 = some (.getfield 69) := by decide +kernel
theorem d101_31 : mm_dec q101 31 = some (.invokevirtual 213) := by decide +kernel
theorem d101_34 : mm_dec q101 34 = some (.aload_n 0) := by decide +kernel
theorem d101_35 : mm_dec q101 35 = some (.getfield 28) := by decide +kernel
theorem d101_38 : mm_dec q101 38 = some (.aload_n 0) := by decide +kernel
theorem d101_39 : mm_dec q101 39 = some (.getfield 69) := by decide +kernel
theorem d101_42 : mm_dec q101 42 = some (.getfield 217) := by decide +kernel
theorem d101_45 : mm_dec q101 45 = some (.aload_n 0) := by decide +kernel
theorem d101_46 : mm_dec q101 46 = some (.getfield 69) := by decide +kernel
theorem d101_49 : mm_dec q101 49 = some (.getfield 182) := by decide +kernel
theorem d101_52 : mm_dec q101 52 = some (.iconst 0) := by decide +kernel
theorem d101_53 : mm_dec q101 53 = some (.iaload) := by decide +kernel
theorem d101_54 : mm_dec q101 54 = some (.bipush 63) := by decide +kernel
theorem d101_56 : mm_dec q101 56 = some (.invokevirtual 220) := by decide +kernel
theorem d101_59 : mm_dec q101 59 = some (.istore_n 3) := by decide +kernel
theorem d101_60 : mm_dec q101 60 = some (.aload_n 0) := by decide +kernel
theorem d101_61 : mm_dec q101 61 = some (.getfield 28) := by decide +kernel
theorem d101_64 : mm_dec q101 64 = some (.iload_n 3) := by decide +kernel
theorem d101_65 : mm_dec q101 65 = some (.aload_n 0) := by decide +kernel
theorem d101_66 : mm_dec q101 66 = some (.getfield 69) := by decide +kernel
theorem d101_69 : mm_dec q101 69 = some (.getfield 217) := by decide +kernel
theorem d101_72 : mm_dec q101 72 = some (.aload_n 0) := by decide +kernel
theorem d101_73 : mm_dec q101 73 = some (.getfield 28) := by decide +kernel
theorem d101_76 : mm_dec q101 76 = some (.aload_n 0) := by decide +kernel
theorem d101_77 : mm_dec q101 77 = some (.getfield 28) := by decide +kernel
theorem d101_80 : mm_dec q101 80 = some (.invokevirtual 224) := by decide +kernel
theorem d101_83 : mm_dec q101 83 = some (.invokevirtual 227) := by decide +kernel
theorem d101_86 : mm_dec q101 86 = some (.invokevirtual 230) := by decide +kernel
theorem d101_89 : mm_dec q101 89 = some (.istore 4) := by decide +kernel
theorem d101_91 : mm_dec q101 91 = some (.aload_n 0) := by decide +kernel
theorem d101_92 : mm_dec q101 92 = some (.getfield 203) := by decide +kernel
theorem d101_95 : mm_dec q101 95 = some (.ifCond .le 21) := by decide +kernel
theorem d101_98 : mm_dec q101 98 = some (.aload_n 0) := by decide +kernel
theorem d101_99 : mm_dec q101 99 = some (.getfield 69) := by decide +kernel
theorem d101_102 : mm_dec q101 102 = some (.invokevirtual 233) := by decide +kernel
theorem d101_105 : mm_dec q101 105 = some (.aload_n 0) := by decide +kernel
theorem d101_106 : mm_dec q101 106 = some (.getfield 203) := by decide +kernel
theorem d101_109 : mm_dec q101 109 = some (.if_icmp .ge 7) := by decide +kernel
theorem d101_112 : mm_dec q101 112 = some (.iconst 1) := by decide +kernel
theorem d101_113 : mm_dec q101 113 = some (.goto 4) := by decide +kernel
theorem d101_116 : mm_dec q101 116 = some (.iconst 0) := by decide +kernel
theorem d101_117 : mm_dec q101 117 = some (.istore 5) := by decide +kernel
theorem d101_119 : mm_dec q101 119 = some (.aload_n 0) := by decide +kernel
theorem d101_120 : mm_dec q101 120 = some (.getfield 69) := by decide +kernel
theorem d101_123 : mm_dec q101 123 = some (.aload_n 0) := by decide +kernel
theorem d101_124 : mm_dec q101 124 = some (.getfield 28) := by decide +kernel
theorem d101_127 : mm_dec q101 127 = some (.iload 4) := by decide +kernel
theorem d101_129 : mm_dec q101 129 = some (.ifCond .ne 8) := by decide +kernel
theorem d101_132 : mm_dec q101 132 = some (.iload 5) := by decide +kernel
theorem d101_134 : mm_dec q101 134 = some (.ifCond .eq 7) := by decide +kernel
theorem d101_137 : mm_dec q101 137 = some (.iconst 1) := by decide +kernel
theorem d101_138 : mm_dec q101 138 = some (.goto 4) := by decide +kernel
theorem d101_141 : mm_dec q101 141 = some (.iconst 0) := by decide +kernel
theorem d101_142 : mm_dec q101 142 = some (.invokevirtual 236) := by decide +kernel
theorem d101_145 : mm_dec q101 145 = some (.pop) := by decide +kernel
theorem d101_146 : mm_dec q101 146 = some (.iinc 2 1) := by decide +kernel
theorem d101_149 : mm_dec q101 149 = some (.goto (-131)) := by decide +kernel
theorem d101_152 : mm_dec q101 152 = some (.aload_n 0) := by decide +kernel
theorem d101_153 : mm_dec q101 153 = some (.getfield 69) := by decide +kernel
theorem d101_156 : mm_dec q101 156 = some (.getfield 217) := by decide +kernel
theorem d101_159 : mm_dec q101 159 = some (.ireturn) := by decide +kernel
theorem d102_0 : mm_dec q102 0 = some (.aload_n 0) := by decide +kernel
theorem d102_1 : mm_dec q102 1 = some (.getfield 82) := by decide +kernel
theorem d102_4 : mm_dec q102 4 = some (.aload_n 0) := by decide +kernel
theorem d102_5 : mm_dec q102 5 = some (.getfield 69) := by decide +kernel
theorem d102_8 : mm_dec q102 8 = some (.invokevirtual 240) := by decide +kernel
theorem d102_11 : mm_dec q102 11 = some (.ifCond .eq 13) := by decide +kernel
theorem d102_14 : mm_dec q102 14 = some (.aload_n 0) := by decide +kernel
theorem d102_15 : mm_dec q102 15 = some (.getfield 69) := by decide +kernel
theorem d102_18 : mm_dec q102 18 = some (.getfield 217) := by decide +kernel
theorem d102_21 : mm_dec q102 21 = some (.goto 4) := by decide +kernel
theorem d102_24 : mm_dec q102 24 = some (.iconst (-1)) := by decide +kernel
theorem d102_25 : mm_dec q102 25 = some (.ireturn) := by decide +kernel
theorem d103_0 : mm_dec q103 0 = some (.aload_n 0) := by decide +kernel
theorem d103_1 : mm_dec q103 1 = some (.iload_n 1) := by decide +kernel
theorem d103_2 : mm_dec q103 2 = some (.invokevirtual 176) := by decide +kernel
theorem d103_5 : mm_dec q103 5 = some (.ifCond .eq 19) := by decide +kernel
theorem d103_8 : mm_dec q103 8 = some (.iload_n 2) := by decide +kernel
theorem d103_9 : mm_dec q103 9 = some (.invokestatic 210) := by decide +kernel
theorem d103_12 : mm_dec q103 12 = some (.ifCond .eq 12) := by decide +kernel
theorem d103_15 : mm_dec q103 15 = some (.iload_n 3) := by decide +kernel
theorem d103_16 : mm_dec q103 16 = some (.ifCond .lt 8) := by decide +kernel
theorem d103_19 : mm_dec q103 19 = some (.iload_n 3) := by decide +kernel
theorem d103_20 : mm_dec q103 20 = some (.iconst 1) := by decide +kernel
theorem d103_21 : mm_dec q103 21 = some (.if_icmp .le 5) := by decide +kernel
theorem d103_24 : mm_dec q103 24 = some (.iconst (-1)) := by decide +kernel
theorem d103_25 : mm_dec q103 25 = some (.ireturn) := by decide +kernel
theorem d103_26 : mm_dec q103 26 = some (.aload_n 0) := by decide +kernel
theorem d103_27 : mm_dec q103 27 = some (.getfield 98) := by decide +kernel
theorem d103_30 : mm_dec q103 30 = some (.aload_n 0) := by decide +kernel
theorem d103_31 : mm_dec q103 31 = some (.getfield 69) := by decide +kernel
theorem d103_34 : mm_dec q103 34 = some (.iload_n 2) := by decide +kernel
theorem d103_35 : mm_dec q103 35 = some (.invokevirtual 163) := by decide +kernel
theorem d103_38 : mm_dec q103 38 = some (.aload_n 0) := by decide +kernel
theorem d103_39 : mm_dec q103 39 = some (.getfield 98) := by decide +kernel
theorem d103_42 : mm_dec q103 42 = some (.iload_n 2) := by decide +kernel
theorem d103_43 : mm_dec q103 43 = some (.invokevirtual 244) := by decide +kernel
theorem d103_46 : mm_dec q103 46 = some (.iload_n 3) := by decide +kernel
theorem d103_47 : mm_dec q103 47 = some (.ifCond .ne 18) := by decide +kernel
theorem d103_50 : mm_dec q103 50 = some (.aload_n 0) := by decide +kernel
theorem d103_51 : mm_dec q103 51 = some (.getfield 98) := by decide +kernel
theorem d103_54 : mm_dec q103 54 = some (.getfield 247) := by decide +kernel
theorem d103_57 : mm_dec q103 57 = some (.getfield 182) := by decide +kernel
theorem d103_60 : mm_dec q103 60 = some (.iload_n 1) := by decide +kernel
theorem d103_61 : mm_dec q103 61 = some (.iaload) := by decide +kernel
theorem d103_62 : mm_dec q103 62 = some (.goto 25) := by decide +kernel
theorem d103_65 : mm_dec q103 65 = some (.aload_n 0) := by decide +kernel
theorem d103_66 : mm_dec q103 66 = some (.getfield 98) := by decide +kernel
theorem d103_69 : mm_dec q103 69 = some (.getfield 247) := by decide +kernel
theorem d103_72 : mm_dec q103 72 = some (.getfield 186) := by decide +kernel
theorem d103_75 : mm_dec q103 75 = some (.iload_n 1) := by decide +kernel
theorem d103_76 : mm_dec q103 76 = some (.iaload) := by decide +kernel
theorem d103_77 : mm_dec q103 77 = some (.aload_n 0) := by decide +kernel
theorem d103_78 : mm_dec q103 78 = some (.getfield 69) := by decide +kernel
theorem d103_81 : mm_dec q103 81 = some (.getfield 186) := by decide +kernel
theorem d103_84 : mm_dec q103 84 = some (.iload_n 1) := by decide +kernel
theorem d103_85 : mm_dec q103 85 = some (.iaload) := by decide +kernel
theorem d103_86 : mm_dec q103 86 = some (.isub) := by decide +kernel
theorem d103_87 : mm_dec q103 87 = some (.ireturn) := by decide +kernel
theorem d104_0 : mm_dec q104 0 = some (.aload_n 0) := by decide +kernel
theorem d104_1 : mm_dec q104 1 = some (.iload_n 1) := by decide +kernel
theorem d104_2 : mm_dec q104 2 = some (.invokevirtual 176) := by decide +kernel
theorem d104_5 : mm_dec q104 5 = some (.ifCond .eq 7) := by decide +kernel
theorem d104_8 : mm_dec q104 8 = some (.iload_n 2) := by decide +kernel
theorem d104_9 : mm_dec q104 9 = some (.ifCond .ge 5) := by decide +kernel
theorem d104_12 : mm_dec q104 12 = some (.iconst (-1)) := by decide +kernel
theorem d104_13 : mm_dec q104 13 = some (.ireturn) := by decide +kernel
theorem d104_14 : mm_dec q104 14 = some (.aload_n 0) := by decide +kernel
theorem d104_15 : mm_dec q104 15 = some (.getfield 98) := by decide +kernel
theorem d104_18 : mm_dec q104 18 = some (.aload_n 0) := by decide +kernel
theorem d104_19 : mm_dec q104 19 = some (.getfield 69) := by decide +kernel
theorem d104_22 : mm_dec q104 22 = some (.sipush 240) := by decide +kernel
theorem d104_25 : mm_dec q104 25 = some (.invokevirtual 163) := by decide +kernel
theorem d104_28 : mm_dec q104 28 = some (.iconst 0) := by decide +kernel
theorem d104_29 : mm_dec q104 29 = some (.istore_n 3) := by decide +kernel
theorem d104_30 : mm_dec q104 30 = some (.iload_n 3) := by decide +kernel
theorem d104_31 : mm_dec q104 31 = some (.sipush 240) := by decide +kernel
theorem d104_34 : mm_dec q104 34 = some (.if_icmp .ge 44) := by decide +kernel
theorem d104_37 : mm_dec q104 37 = some (.aload_n 0) := by decide +kernel
theorem d104_38 : mm_dec q104 38 = some (.getfield 98) := by decide +kernel
theorem d104_41 : mm_dec q104 41 = some (.invokevirtual 167) := by decide +kernel
theorem d104_44 : mm_dec q104 44 = some (.aload_n 0) := by decide +kernel
theorem d104_45 : mm_dec q104 45 = some (.getfield 98) := by decide +kernel
theorem d104_48 : mm_dec q104 48 = some (.getfield 247) := by decide +kernel
theorem d104_51 : mm_dec q104 51 = some (.getfield 186) := by decide +kernel
theorem d104_54 : mm_dec q104 54 = some (.iload_n 1) := by decide +kernel
theorem d104_55 : mm_dec q104 55 = some (.iaload) := by decide +kernel
theorem d104_56 : mm_dec q104 56 = some (.aload_n 0) := by decide +kernel
theorem d104_57 : mm_dec q104 57 = some (.getfield 69) := by decide +kernel
theorem d104_60 : mm_dec q104 60 = some (.getfield 186) := by decide +kernel
theorem d104_63 : mm_dec q104 63 = some (.iload_n 1) := by decide +kernel
theorem d104_64 : mm_dec q104 64 = some (.iaload) := by decide +kernel
theorem d104_65 : mm_dec q104 65 = some (.isub) := by decide +kernel
theorem d104_66 : mm_dec q104 66 = some (.iload_n 2) := by decide +kernel
theorem d104_67 : mm_dec q104 67 = some (.if_icmp .le 5) := by decide +kernel
theorem d104_70 : mm_dec q104 70 = some (.iload_n 3) := by decide +kernel
theorem d104_71 : mm_dec q104 71 = some (.ireturn) := by decide +kernel
theorem d104_72 : mm_dec q104 72 = some (.iinc 3 1) := by decide +kernel
theorem d104_75 : mm_dec q104 75 = some (.goto (-45)) := by decide +kernel
theorem d104_78 : mm_dec q104 78 = some (.iconst (-1)) := by decide +kernel
theorem d104_79 : mm_dec q104 79 = some (.ireturn) := by decide +kernel
theorem d105_0 : mm_dec q105 0 = some (.aload_n 0) := by decide +kernel
theorem d105_1 : mm_dec q105 1 = some (.iload_n 1) := by decide +kernel
theorem d105_2 : mm_dec q105 2 = some (.invokevirtual 176) := by decide +kernel
theorem d105_5 : mm_dec q105 5 = some (.ifCond .eq 10) := by decide +kernel
theorem d105_8 : mm_dec q105 8 = some (.iload_n 2) := by decide +kernel
theorem d105_9 : mm_dec q105 9 = some (.invokestatic 210) := by decide +kernel
theorem d105_12 : mm_dec q105 12 = some (.ifCond .ne 5) := by decide +kernel
theorem d105_15 : mm_dec q105 15 = some (.iconst (-1)) := by decide +kernel
theorem d105_16 : mm_dec q105 16 = some (.ireturn) := by decide +kernel
theorem d105_17 : mm_dec q105 17 = some (.aload_n 0) := by decide +kernel
theorem d105_18 : mm_dec q105 18 = some (.getfield 98) := by decide +kernel
theorem d105_21 : mm_dec q105 21 = some (.aload_n 0) := by decide +kernel
theorem d105_22 : mm_dec q105 22 = some (.getfield 69) := by decide +kernel
theorem d105_25 : mm_dec q105 25 = some (.iload_n 2) := by decide +kernel
theorem d105_26 : mm_dec q105 26 = some (.invokevirtual 163) := by decide +kernel
theorem d105_29 : mm_dec q105 29 = some (.aload_n 0) := by decide +kernel
theorem d105_30 : mm_dec q105 30 = some (.getfield 98) := by decide +kernel
theorem d105_33 : mm_dec q105 33 = some (.iload_n 1) := by decide +kernel
theorem d105_34 : mm_dec q105 34 = some (.iload_n 2) := by decide +kernel
theorem d105_35 : mm_dec q105 35 = some (.invokevirtual 250) := by decide +kernel
theorem d105_38 : mm_dec q105 38 = some (.ireturn) := by decide +kernel
theorem d106_0 : mm_dec q106 0 = some (.aload_n 0) := by decide +kernel
theorem d106_1 : mm_dec q106 1 = some (.iload_n 1) := by decide +kernel
theorem d106_2 : mm_dec q106 2 = some (.invokevirtual 176) := by decide +kernel
theorem d106_5 : mm_dec q106 5 = some (.ifCond .eq 10) := by decide +kernel
theorem d106_8 : mm_dec q106 8 = some (.iload_n 2) := by decide +kernel
theorem d106_9 : mm_dec q106 9 = some (.invokestatic 210) := by decide +kernel
theorem d106_12 : mm_dec q106 12 = some (.ifCond .ne 5) := by decide +kernel
theorem d106_15 : mm_dec q106 15 = some (.iconst (-1)) := by decide +kernel
theorem d106_16 : mm_dec q106 16 = some (.ireturn) := by decide +kernel
theorem d106_17 : mm_dec q106 17 = some (.aload_n 0) := by decide +kernel
theorem d106_18 : mm_dec q106 18 = some (.getfield 98) := by decide +kernel
theorem d106_21 : mm_dec q106 21 = some (.aload_n 0) := by decide +kernel
theorem d106_22 : mm_dec q106 22 = some (.getfield 69) := by decide +kernel
theorem d106_25 : mm_dec q106 25 = some (.iload_n 2) := by decide +kernel
theorem d106_26 : mm_dec q106 26 = some (.invokevirtual 163) := by decide +kernel
theorem d106_29 : mm_dec q106 29 = some (.iconst 0) := by decide +kernel
theorem d106_30 : mm_dec q106 30 = some (.istore_n 3) := by decide +kernel
theorem d106_31 : mm_dec q106 31 = some (.iconst 0) := by decide +kernel
theorem d106_32 : mm_dec q106 32 = some (.istore 4) := by decide +kernel
theorem d106_34 : mm_dec q106 34 = some (.iconst 0) := by decide +kernel
theorem d106_35 : mm_dec q106 35 = some (.istore 5) := by decide +kernel
theorem d106_37 : mm_dec q106 37 = some (.iload 5) := by decide +kernel
theorem d106_39 : mm_dec q106 39 = some (.iload_n 2) := by decide +kernel
theorem d106_40 : mm_dec q106 40 = some (.if_icmp .ge 47) := by decide +kernel
theorem d106_43 : mm_dec q106 43 = some (.aload_n 0) := by decide +kernel
theorem d106_44 : mm_dec q106 44 = some (.getfield 98) := by decide +kernel
theorem d106_47 : mm_dec q106 47 = some (.invokevirtual 167) := by decide +kernel
theorem d106_50 : mm_dec q106 50 = some (.aload_n 0) := by decide +kernel
theorem d106_51 : mm_dec q106 51 = some (.getfield 98) := by decide +kernel
theorem d106_54 : mm_dec q106 54 = some (.getfield 254) := by decide +kernel
theorem d106_57 : mm_dec q106 57 = some (.iload_n 1) := by decide +kernel
theorem d106_58 : mm_dec q106 58 = some (.ishr) := by decide +kernel
theorem d106_59 : mm_dec q106 59 = some (.iconst 1) := by decide +kernel
theorem d106_60 : mm_dec q106 60 = some (.iand) := by decide +kernel
theorem d106_61 : mm_dec q106 61 = some (.ifCond .eq 10) := by decide +kernel
theorem d106_64 : mm_dec q106 64 = some (.iload 4) := by decide +kernel
theorem d106_66 : mm_dec q106 66 = some (.iconst 1) := by decide +kernel
theorem d106_67 : mm_dec q106 67 = some (.iadd) := by decide +kernel
theorem d106_68 : mm_dec q106 68 = some (.goto 4) := by decide +kernel
theorem d106_71 : mm_dec q106 71 = some (.iconst 0) := by decide +kernel
theorem d106_72 : mm_dec q106 72 = some (.istore 4) := by decide +kernel
theorem d106_74 : mm_dec q106 74 = some (.iload_n 3) := by decide +kernel
theorem d106_75 : mm_dec q106 75 = some (.iload 4) := by decide +kernel
theorem d106_77 : mm_dec q106 77 = some (.invokestatic 257) := by decide +kernel
theorem d106_80 : mm_dec q106 80 = some (.istore_n 3) := by decide +kernel
theorem d106_81 : mm_dec q106 81 = some (.iinc 5 1) := by decide +kernel
theorem d106_84 : mm_dec q106 84 = some (.goto (-47)) := by decide +kernel
theorem d106_87 : mm_dec q106 87 = some (.iload_n 3) := by decide +kernel
theorem d106_88 : mm_dec q106 88 = some (.ireturn) := by decide +kernel
theorem d107_0 : mm_dec q107 0 = some (.aload_n 0) := by decide +kernel
theorem d107_1 : mm_dec q107 1 = some (.iload_n 1) := by decide +kernel
theorem d107_2 : mm_dec q107 2 = some (.invokevirtual 148) := by decide +kernel
theorem d107_5 : mm_dec q107 5 = some (.ifCond .eq 10) := by decide +kernel
theorem d107_8 : mm_dec q107 8 = some (.iload_n 2) := by decide +kernel
theorem d107_9 : mm_dec q107 9 = some (.invokestatic 210) := by decide +kernel
theorem d107_12 : mm_dec q107 12 = some (.ifCond .ne 5) := by decide +kernel
theorem d107_15 : mm_dec q107 15 = some (.iconst (-1)) := by decide +kernel
theorem d107_16 : mm_dec q107 16 = some (.ireturn) := by decide +kernel
theorem d107_17 : mm_dec q107 17 = some (.aload_n 0) := by decide +kernel
theorem d107_18 : mm_dec q107 18 = some (.getfield 28) := by decide +kernel
theorem d107_21 : mm_dec q107 21 = some (.iload_n 1) := by decide +kernel
theorem d107_22 : mm_dec q107 22 = some (.invokevirtual 262) := by decide +kernel
theorem d107_25 : mm_dec q107 25 = some (.istore_n 3) := by decide +kernel
theorem d107_26 : mm_dec q107 26 = some (.aload_n 0) := by decide +kernel
theorem d107_27 : mm_dec q107 27 = some (.getfield 98) := by decide +kernel
theorem d107_30 : mm_dec q107 30 = some (.aload_n 0) := by decide +kernel
theorem d107_31 : mm_dec q107 31 = some (.getfield 69) := by decide +kernel
theorem d107_34 : mm_dec q107 34 = some (.iload_n 2) := by decide +kernel
theorem d107_35 : mm_dec q107 35 = some (.invokevirtual 163) := by decide +kernel
theorem d107_38 : mm_dec q107 38 = some (.iconst 0) := by decide +kernel
theorem d107_39 : mm_dec q107 39 = some (.istore 4) := by decide +kernel
theorem d107_41 : mm_dec q107 41 = some (.iconst 0) := by decide +kernel
theorem d107_42 : mm_dec q107 42 = some (.istore 5) := by decide +kernel
theorem d107_44 : mm_dec q107 44 = some (.iload 5) := by decide +kernel
theorem d107_46 : mm_dec q107 46 = some (.iload_n 2) := by decide +kernel
theorem d107_47 : mm_dec q107 47 = some (.if_icmp .ge 33) := by decide +kernel
theorem d107_50 : mm_dec q107 50 = some (.aload_n 0) := by decide +kernel
theorem d107_51 : mm_dec q107 51 = some (.getfield 98) := by decide +kernel
theorem d107_54 : mm_dec q107 54 = some (.invokevirtual 167) := by decide +kernel
theorem d107_57 : mm_dec q107 57 = some (.iload 4) := by decide +kernel
theorem d107_59 : mm_dec q107 59 = some (.aload_n 0) := by decide +kernel
theorem d107_60 : mm_dec q107 60 = some (.getfield 98) := by decide +kernel
theorem d107_63 : mm_dec q107 63 = some (.getfield 254) := by decide +kernel
theorem d107_66 : mm_dec q107 66 = some (.iload_n 3) := by decide +kernel
theorem d107_67 : mm_dec q107 67 = some (.iand) := by decide +kernel
theorem d107_68 : mm_dec q107 68 = some (.invokestatic 265) := by decide +kernel
theorem d107_71 : mm_dec q107 71 = some (.iadd) := by decide +kernel
theorem d107_72 : mm_dec q107 72 = some (.istore 4) := by decide +kernel
theorem d107_74 : mm_dec q107 74 = some (.iinc 5 1) := by decide +kernel
theorem d107_77 : mm_dec q107 77 = some (.goto (-33)) := by decide +kernel
theorem d107_80 : mm_dec q107 80 = some (.iload 4) := by decide +kernel
theorem d107_82 : mm_dec q107 82 = some (.ireturn) := by decide +kernel
theorem d108_0 : mm_dec q108 0 = some (.aload_n 0) := by decide +kernel
theorem d108_1 : mm_dec q108 1 = some (.invokevirtual 189) := by decide +kernel
theorem d108_4 : mm_dec q108 4 = some (.ifCond .eq 19) := by decide +kernel
theorem d108_7 : mm_dec q108 7 = some (.iload_n 1) := by decide +kernel
theorem d108_8 : mm_dec q108 8 = some (.invokestatic 210) := by decide +kernel
theorem d108_11 : mm_dec q108 11 = some (.ifCond .eq 12) := by decide +kernel
theorem d108_14 : mm_dec q108 14 = some (.iload_n 2) := by decide +kernel
theorem d108_15 : mm_dec q108 15 = some (.ifCond .lt 8) := by decide +kernel
theorem d108_18 : mm_dec q108 18 = some (.iload_n 2) := by decide +kernel
theorem d108_19 : mm_dec q108 19 = some (.iconst 1) := by decide +kernel
theorem d108_20 : mm_dec q108 20 = some (.if_icmp .le 5) := by decide +kernel
theorem d108_23 : mm_dec q108 23 = some (.iconst (-1)) := by decide +kernel
theorem d108_24 : mm_dec q108 24 = some (.ireturn) := by decide +kernel
theorem d108_25 : mm_dec q108 25 = some (.aload_n 0) := by decide +kernel
theorem d108_26 : mm_dec q108 26 = some (.getfield 98) := by decide +kernel
theorem d108_29 : mm_dec q108 29 = some (.aload_n 0) := by decide +kernel
theorem d108_30 : mm_dec q108 30 = some (.getfield 69) := by decide +kernel
theorem d108_33 : mm_dec q108 33 = some (.iload_n 1) := by decide +kernel
theorem d108_34 : mm_dec q108 34 = some (.invokevirtual 163) := by decide +kernel
theorem d108_37 : mm_dec q108 37 = some (.iconst 0) := by decide +kernel
theorem d108_38 : mm_dec q108 38 = some (.istore_n 3) := by decide +kernel
theorem d108_39 : mm_dec q108 39 = some (.iconst 0) := by decide +kernel
theorem d108_40 : mm_dec q108 40 = some (.istore 4) := by decide +kernel
theorem d108_42 : mm_dec q108 42 = some (.iconst 0) := by decide +kernel
theorem d108_43 : mm_dec q108 43 = some (.istore 5) := by decide +kernel
theorem d108_45 : mm_dec q108 45 = some (.iconst 0) := by decide +kernel
theorem d108_46 : mm_dec q108 46 = some (.istore 6) := by decide +kernel
theorem d108_48 : mm_dec q108 48 = some (.iload 6) := by decide +kernel
theorem d108_50 : mm_dec q108 50 = some (.iload_n 1) := by decide +kernel
theorem d108_51 : mm_dec q108 51 = some (.if_icmp .ge 70) := by decide +kernel
theorem d108_54 : mm_dec q108 54 = some (.aload_n 0) := by decide +kernel
theorem d108_55 : mm_dec q108 55 = some (.getfield 98) := by decide +kernel
theorem d108_58 : mm_dec q108 58 = some (.invokevirtual 167) := by decide +kernel
theorem d108_61 : mm_dec q108 61 = some (.aload_n 0) := by decide +kernel
theorem d108_62 : mm_dec q108 62 = some (.getfield 98) := by decide +kernel
theorem d108_65 : mm_dec q108 65 = some (.getfield 173) := by decide +kernel
theorem d108_68 : mm_dec q108 68 = some (.ifCond .eq 7) := by decide +kernel
theorem d108_71 : mm_dec q108 71 = some (.iconst 1) := by decide +kernel
theorem d108_72 : mm_dec q108 72 = some (.goto 4) := by decide +kernel
theorem d108_75 : mm_dec q108 75 = some (.iconst 0) := by decide +kernel
theorem d108_76 : mm_dec q108 76 = some (.istore 7) := by decide +kernel
theorem d108_78 : mm_dec q108 78 = some (.iload_n 3) := by decide +kernel
theorem d108_79 : mm_dec q108 79 = some (.iload 7) := by decide +kernel
theorem d108_81 : mm_dec q108 81 = some (.ifCond .eq 7) := by decide +kernel
theorem d108_84 : mm_dec q108 84 = some (.iconst 1) := by decide +kernel
theorem d108_85 : mm_dec q108 85 = some (.goto 4) := by decide +kernel
theorem d108_88 : mm_dec q108 88 = some (.iconst 0) := by decide +kernel
theorem d108_89 : mm_dec q108 89 = some (.iadd) := by decide +kernel
theorem d108_90 : mm_dec q108 90 = some (.istore_n 3) := by decide +kernel
theorem d108_91 : mm_dec q108 91 = some (.iload 7) := by decide +kernel
theorem d108_93 : mm_dec q108 93 = some (.ifCond .eq 7) := by decide +kernel
theorem d108_96 : mm_dec q108 96 = some (.iconst 0) := by decide +kernel
theorem d108_97 : mm_dec q108 97 = some (.goto 7) := by decide +kernel
theorem d108_100 : mm_dec q108 100 = some (.iload 4) := by decide +kernel
theorem d108_102 : mm_dec q108 102 = some (.iconst 1) := by decide +kernel
theorem d108_103 : mm_dec q108 103 = some (.iadd) := by decide +kernel
theorem d108_104 : mm_dec q108 104 = some (.istore 4) := by decide +kernel
theorem d108_106 : mm_dec q108 106 = some (.iload 5) := by decide +kernel
theorem d108_108 : mm_dec q108 108 = some (.iload 4) := by decide +kernel
theorem d108_110 : mm_dec q108 110 = some (.invokestatic 257) := by decide +kernel
theorem d108_113 : mm_dec q108 113 = some (.istore 5) := by decide +kernel
theorem d108_115 : mm_dec q108 115 = some (.iinc 6 1) := by decide +kernel
theorem d108_118 : mm_dec q108 118 = some (.goto (-70)) := by decide +kernel
theorem d108_121 : mm_dec q108 121 = some (.iload_n 2) := by decide +kernel
theorem d108_122 : mm_dec q108 122 = some (.ifCond .ne 7) := by decide +kernel
theorem d108_125 : mm_dec q108 125 = some (.iload_n 3) := by decide +kernel
theorem d108_126 : mm_dec q108 126 = some (.goto 5) := by decide +kernel
theorem d108_129 : mm_dec q108 129 = some (.iload 5) := by decide +kernel
theorem d108_131 : mm_dec q108 131 = some (.ireturn) := by decide +kernel
theorem d109_0 : mm_dec q109 0 = some (.aload_n 0) := by decide +kernel
theorem d109_1 : mm_dec q109 1 = some (.invokevirtual 189) := by decide +kernel
theorem d109_4 : mm_dec q109 4 = some (.ifCond .eq 10) := by decide +kernel
theorem d109_7 : mm_dec q109 7 = some (.iload_n 1) := by decide +kernel
theorem d109_8 : mm_dec q109 8 = some (.invokestatic 210) := by decide +kernel
theorem d109_11 : mm_dec q109 11 = some (.ifCond .ne 5) := by decide +kernel
theorem d109_14 : mm_dec q109 14 = some (.iconst (-1)) := by decide +kernel
theorem d109_15 : mm_dec q109 15 = some (.ireturn) := by decide +kernel
theorem d109_16 : mm_dec q109 16 = some (.aload_n 0) := by decide +kernel
theorem d109_17 : mm_dec q109 17 = some (.getfield 98) := by decide +kernel
theorem d109_20 : mm_dec q109 20 = some (.aload_n 0) := by decide +kernel
theorem d109_21 : mm_dec q109 21 = some (.getfield 69) := by decide +kernel
theorem d109_24 : mm_dec q109 24 = some (.iload_n 1) := by decide +kernel
theorem d109_25 : mm_dec q109 25 = some (.invokevirtual 163) := by decide +kernel
theorem d109_28 : mm_dec q109 28 = some (.iconst 0) := by decide +kernel
theorem d109_29 : mm_dec q109 29 = some (.istore_n 2) := by decide +kernel
theorem d109_30 : mm_dec q109 30 = some (.iload_n 2) := by decide +kernel
theorem d109_31 : mm_dec q109 31 = some (.aload_n 0) := by decide +kernel
theorem d109_32 : mm_dec q109 32 = some (.getfield 28) := by decide +kernel
theorem d109_35 : mm_dec q109 35 = some (.getfield 139) := by decide +kernel
theorem d109_38 : mm_dec q109 38 = some (.if_icmp .gt 81) := by decide +kernel
theorem d109_41 : mm_dec q109 41 = some (.iconst 0) := by decide +kernel
theorem d109_42 : mm_dec q109 42 = some (.istore_n 3) := by decide +kernel
theorem d109_43 : mm_dec q109 43 = some (.iload_n 3) := by decide +kernel
theorem d109_44 : mm_dec q109 44 = some (.iconst 1) := by decide +kernel
theorem d109_45 : mm_dec q109 45 = some (.aload_n 0) := by decide +kernel
theorem d109_46 : mm_dec q109 46 = some (.getfield 28) := by decide +kernel
theorem d109_49 : mm_dec q109 49 = some (.getfield 139) := by decide +kernel
theorem d109_52 : mm_dec q109 52 = some (.ishl) := by decide +kernel
theorem d109_53 : mm_dec q109 53 = some (.if_icmp .ge 60) := by decide +kernel
theorem d109_56 : mm_dec q109 56 = some (.iload_n 3) := by decide +kernel
theorem d109_57 : mm_dec q109 57 = some (.invokestatic 265) := by decide +kernel
theorem d109_60 : mm_dec q109 60 = some (.iload_n 2) := by decide +kernel
theorem d109_61 : mm_dec q109 61 = some (.if_icmp .eq 6) := by decide +kernel
theorem d109_64 : mm_dec q109 64 = some (.goto 43) := by decide +kernel
theorem d109_67 : mm_dec q109 67 = some (.aload_n 0) := by decide +kernel
theorem d109_68 : mm_dec q109 68 = some (.getfield 98) := by decide +kernel
theorem d109_71 : mm_dec q109 71 = some (.invokevirtual 270) := by decide +kernel
theorem d109_74 : mm_dec q109 74 = some (.aload_n 0) := by decide +kernel
theorem d109_75 : mm_dec q109 75 = some (.getfield 98) := by decide +kernel
theorem d109_78 : mm_dec q109 78 = some (.iload_n 3) := by decide +kernel
theorem d109_79 : mm_dec q109 79 = some (.putfield 271) := by decide +kernel
theorem d109_82 : mm_dec q109 82 = some (.aload_n 0) := by decide +kernel
theorem d109_83 : mm_dec q109 83 = some (.getfield 98) := by decide +kernel
theorem d109_86 : mm_dec q109 86 = some (.iload_n 1) := by decide +kernel
theorem d109_87 : mm_dec q109 87 = some (.invokevirtual 244) := by decide +kernel
theorem d109_90 : mm_dec q109 90 = some (.aload_n 0) := by decide +kernel
theorem d109_91 : mm_dec q109 91 = some (.getfield 98) := by decide +kernel
theorem d109_94 : mm_dec q109 94 = some (.getfield 247) := by decide +kernel
theorem d109_97 : mm_dec q109 97 = some (.getfield 182) := by decide +kernel
theorem d109_100 : mm_dec q109 100 = some (.iconst 0) := by decide +kernel
theorem d109_101 : mm_dec q109 101 = some (.iaload) := by decide +kernel
theorem d109_102 : mm_dec q109 102 = some (.ifCond .ne 5) := by decide +kernel
theorem d109_105 : mm_dec q109 105 = some (.iload_n 3) := by decide +kernel
theorem d109_106 : mm_dec q109 106 = some (.ireturn) := by decide +kernel
theorem d109_107 : mm_dec q109 107 = some (.iinc 3 1) := by decide +kernel
theorem d109_110 : mm_dec q109 110 = some (.goto (-67)) := by decide +kernel
theorem d109_113 : mm_dec q109 113 = some (.iinc 2 1) := by decide +kernel
theorem d109_116 : mm_dec q109 116 = some (.goto (-86)) := by decide +kernel
theorem d109_119 : mm_dec q109 119 = some (.iconst (-1)) := by decide +kernel
theorem d109_120 : mm_dec q109 120 = some (.ireturn) := by decide +kernel
theorem d110_0 : mm_dec q110 0 = some (.aload_n 0) := by decide +kernel
theorem d110_1 : mm_dec q110 1 = some (.invokevirtual 189) := by decide +kernel
theorem d110_4 : mm_dec q110 4 = some (.ifCond .eq 10) := by decide +kernel
theorem d110_7 : mm_dec q110 7 = some (.iload_n 1) := by decide +kernel
theorem d110_8 : mm_dec q110 8 = some (.invokestatic 210) := by decide +kernel
theorem d110_11 : mm_dec q110 11 = some (.ifCond .ne 5) := by decide +kernel
theorem d110_14 : mm_dec q110 14 = some (.iconst (-1)) := by decide +kernel
theorem d110_15 : mm_dec q110 15 = some (.ireturn) := by decide +kernel
theorem d110_16 : mm_dec q110 16 = some (.aload_n 0) := by decide +kernel
theorem d110_17 : mm_dec q110 17 = some (.getfield 98) := by decide +kernel
theorem d110_20 : mm_dec q110 20 = some (.aload_n 0) := by decide +kernel
theorem d110_21 : mm_dec q110 21 = some (.getfield 69) := by decide +kernel
theorem d110_24 : mm_dec q110 24 = some (.iload_n 1) := by decide +kernel
theorem d110_25 : mm_dec q110 25 = some (.invokevirtual 163) := by decide +kernel
theorem d110_28 : mm_dec q110 28 = some (.iconst 0) := by decide +kernel
theorem d110_29 : mm_dec q110 29 = some (.istore_n 2) := by decide +kernel
theorem d110_30 : mm_dec q110 30 = some (.iload_n 2) := by decide +kernel
theorem d110_31 : mm_dec q110 31 = some (.aload_n 0) := by decide +kernel
theorem d110_32 : mm_dec q110 32 = some (.getfield 28) := by decide +kernel
theorem d110_35 : mm_dec q110 35 = some (.getfield 139) := by decide +kernel
theorem d110_38 : mm_dec q110 38 = some (.if_icmp .gt 52) := by decide +kernel
theorem d110_41 : mm_dec q110 41 = some (.iconst 0) := by decide +kernel
theorem d110_42 : mm_dec q110 42 = some (.istore_n 3) := by decide +kernel
theorem d110_43 : mm_dec q110 43 = some (.iload_n 3) := by decide +kernel
theorem d110_44 : mm_dec q110 44 = some (.iconst 1) := by decide +kernel
theorem d110_45 : mm_dec q110 45 = some (.aload_n 0) := by decide +kernel
theorem d110_46 : mm_dec q110 46 = some (.getfield 28) := by decide +kernel
theorem d110_49 : mm_dec q110 49 = some (.getfield 139) := by decide +kernel
theorem d110_52 : mm_dec q110 52 = some (.ishl) := by decide +kernel
theorem d110_53 : mm_dec q110 53 = some (.if_icmp .ge 31) := by decide +kernel
theorem d110_56 : mm_dec q110 56 = some (.iload_n 3) := by decide +kernel
theorem d110_57 : mm_dec q110 57 = some (.invokestatic 265) := by decide +kernel
theorem d110_60 : mm_dec q110 60 = some (.iload_n 2) := by decide +kernel
theorem d110_61 : mm_dec q110 61 = some (.if_icmp .ne 17) := by decide +kernel
theorem d110_64 : mm_dec q110 64 = some (.aload_n 0) := by decide +kernel
theorem d110_65 : mm_dec q110 65 = some (.getfield 98) := by decide +kernel
theorem d110_68 : mm_dec q110 68 = some (.iload_n 3) := by decide +kernel
theorem d110_69 : mm_dec q110 69 = some (.iload_n 1) := by decide +kernel
theorem d110_70 : mm_dec q110 70 = some (.invokevirtual 274) := by decide +kernel
theorem d110_73 : mm_dec q110 73 = some (.ifCond .eq 5) := by decide +kernel
theorem d110_76 : mm_dec q110 76 = some (.iload_n 3) := by decide +kernel
theorem d110_77 : mm_dec q110 77 = some (.ireturn) := by decide +kernel
theorem d110_78 : mm_dec q110 78 = some (.iinc 3 1) := by decide +kernel
theorem d110_81 : mm_dec q110 81 = some (.goto (-38)) := by decide +kernel
theorem d110_84 : mm_dec q110 84 = some (.iinc 2 1) := by decide +kernel
theorem d110_87 : mm_dec q110 87 = some (.goto (-57)) := by decide +kernel
theorem d110_90 : mm_dec q110 90 = some (.iconst (-1)) := by decide +kernel
theorem d110_91 : mm_dec q110 91 = some (.ireturn) := by decide +kernel
theorem d111_0 : mm_dec q111 0 = some (.aload_n 0) := by decide +kernel
theorem d111_1 : mm_dec q111 1 = some (.iload_n 1) := by decide +kernel
theorem d111_2 : mm_dec q111 2 = some (.invokevirtual 148) := by decide +kernel
theorem d111_5 : mm_dec q111 5 = some (.ifCond .eq 34) := by decide +kernel
theorem d111_8 : mm_dec q111 8 = some (.aload_n 0) := by decide +kernel
theorem d111_9 : mm_dec q111 9 = some (.iload_n 2) := by decide +kernel
theorem d111_10 : mm_dec q111 10 = some (.invokevirtual 148) := by decide +kernel
theorem d111_13 : mm_dec q111 13 = some (.ifCond .eq 26) := by decide +kernel
theorem d111_16 : mm_dec q111 16 = some (.iload_n 1) := by decide +kernel
theorem d111_17 : mm_dec q111 17 = some (.iload_n 2) := by decide +kernel
theorem d111_18 : mm_dec q111 18 = some (.if_icmp .eq 21) := by decide +kernel
theorem d111_21 : mm_dec q111 21 = some (.iload_n 3) := by decide +kernel
theorem d111_22 : mm_dec q111 22 = some (.invokestatic 210) := by decide +kernel
theorem d111_25 : mm_dec q111 25 = some (.ifCond .eq 14) := by decide +kernel
theorem d111_28 : mm_dec q111 28 = some (.iload 4) := by decide +kernel
theorem d111_30 : mm_dec q111 30 = some (.ifCond .lt 9) := by decide +kernel
theorem d111_33 : mm_dec q111 33 = some (.iload 4) := by decide +kernel
theorem d111_35 : mm_dec q111 35 = some (.iconst 1) := by decide +kernel
theorem d111_36 : mm_dec q111 36 = some (.if_icmp .le 7) := by decide +kernel
theorem d111_39 : mm_dec q111 39 = some (.ldc_w 277) := by decide +kernel
theorem d111_42 : mm_dec q111 42 = some (.ireturn) := by decide +kernel
theorem d111_43 : mm_dec q111 43 = some (.iconst 1) := by decide +kernel
theorem d111_44 : mm_dec q111 44 = some (.iload_n 1) := by decide +kernel
theorem d111_45 : mm_dec q111 45 = some (.ishl) := by decide +kernel
theorem d111_46 : mm_dec q111 46 = some (.iconst 1) := by decide +kernel
theorem d111_47 : mm_dec q111 47 = some (.iload_n 2) := by decide +kernel
theorem d111_48 : mm_dec q111 48 = some (.ishl) := by decide +kernel
theorem d111_49 : mm_dec q111 49 = some (.ior) := by decide +kernel
theorem d111_50 : mm_dec q111 50 = some (.istore 5) := by decide +kernel
theorem d111_52 : mm_dec q111 52 = some (.aload_n 0) := by decide +kernel
theorem d111_53 : mm_dec q111 53 = some (.getfield 98) := by decide +kernel
theorem d111_56 : mm_dec q111 56 = some (.aload_n 0) := by decide +kernel
theorem d111_57 : mm_dec q111 57 = some (.getfield 69) := by decide +kernel
theorem d111_60 : mm_dec q111 60 = some (.iload_n 3) := by decide +kernel
theorem d111_61 : mm_dec q111 61 = some (.invokevirtual 163) := by decide +kernel
theorem d111_64 : mm_dec q111 64 = some (.iconst (-1)) := by decide +kernel
theorem d111_65 : mm_dec q111 65 = some (.istore 6) := by decide +kernel
theorem d111_67 : mm_dec q111 67 = some (.iconst 0) := by decide +kernel
theorem d111_68 : mm_dec q111 68 = some (.istore 7) := by decide +kernel
theorem d111_70 : mm_dec q111 70 = some (.iconst 0) := by decide +kernel
theorem d111_71 : mm_dec q111 71 = some (.istore 8) := by decide +kernel
theorem d111_73 : mm_dec q111 73 = some (.iload 8) := by decide +kernel
theorem d111_75 : mm_dec q111 75 = some (.iload_n 3) := by decide +kernel
theorem d111_76 : mm_dec q111 76 = some (.if_icmp .ge 46) := by decide +kernel
theorem d111_79 : mm_dec q111 79 = some (.aload_n 0) := by decide +kernel
theorem d111_80 : mm_dec q111 80 = some (.getfield 98) := by decide +kernel
theorem d111_83 : mm_dec q111 83 = some (.invokevirtual 167) := by decide +kernel
theorem d111_86 : mm_dec q111 86 = some (.aload_n 0) := by decide +kernel
theorem d111_87 : mm_dec q111 87 = some (.getfield 98) := by decide +kernel
theorem d111_90 : mm_dec q111 90 = some (.getfield 170) := by decide +kernel
theorem d111_93 : mm_dec q111 93 = some (.iload 5) := by decide +kernel
theorem d111_95 : mm_dec q111 95 = some (.iand) := by decide +kernel
theorem d111_96 : mm_dec q111 96 = some (.ifCond .ne 20) := by decide +kernel
theorem d111_99 : mm_dec q111 99 = some (.iload 7) := by decide +kernel
theorem d111_101 : mm_dec q111 101 = some (.ifCond .ne 8) := by decide +kernel
theorem d111_104 : mm_dec q111 104 = some (.iload 8) := by decide +kernel
theorem d111_106 : mm_dec q111 106 = some (.goto 5) := by decide +kernel
theorem d111_109 : mm_dec q111 109 = some (.iload 6) := by decide +kernel
theorem d111_111 : mm_dec q111 111 = some (.istore 6) := by decide +kernel
theorem d111_113 : mm_dec q111 113 = some (.iinc 7 1) := by decide +kernel
theorem d111_116 : mm_dec q111 116 = some (.iinc 8 1) := by decide +kernel
theorem d111_119 : mm_dec q111 119 = some (.goto (-46)) := by decide +kernel
theorem d111_122 : mm_dec q111 122 = some (.iload 4) := by decide +kernel
theorem d111_124 : mm_dec q111 124 = some (.ifCond .ne 8) := by decide +kernel
theorem d111_127 : mm_dec q111 127 = some (.iload 6) := by decide +kernel
theorem d111_129 : mm_dec q111 129 = some (.goto 5) := by decide +kernel
theorem d111_132 : mm_dec q111 132 = some (.iload 7) := by decide +kernel
theorem d111_134 : mm_dec q111 134 = some (.ireturn) := by decide +kernel
theorem d112_0 : mm_dec q112 0 = some (.aload_n 0) := by decide +kernel
theorem d112_1 : mm_dec q112 1 = some (.invokevirtual 189) := by decide +kernel
theorem d112_4 : mm_dec q112 4 = some (.ifCond .eq 19) := by decide +kernel
theorem d112_7 : mm_dec q112 7 = some (.iload_n 1) := by decide +kernel
theorem d112_8 : mm_dec q112 8 = some (.invokestatic 210) := by decide +kernel
theorem d112_11 : mm_dec q112 11 = some (.ifCond .eq 12) := by decide +kernel
theorem d112_14 : mm_dec q112 14 = some (.iload_n 2) := by decide +kernel
theorem d112_15 : mm_dec q112 15 = some (.ifCond .lt 8) := by decide +kernel
theorem d112_18 : mm_dec q112 18 = some (.iload_n 2) := by decide +kernel
theorem d112_19 : mm_dec q112 19 = some (.iconst 1) := by decide +kernel
theorem d112_20 : mm_dec q112 20 = some (.if_icmp .le 5) := by decide +kernel
theorem d112_23 : mm_dec q112 23 = some (.iconst (-1)) := by decide +kernel
theorem d112_24 : mm_dec q112 24 = some (.ireturn) := by decide +kernel
theorem d112_25 : mm_dec q112 25 = some (.aload_n 0) := by decide +kernel
theorem d112_26 : mm_dec q112 26 = some (.getfield 98) := by decide +kernel
theorem d112_29 : mm_dec q112 29 = some (.aload_n 0) := by decide +kernel
theorem d112_30 : mm_dec q112 30 = some (.getfield 69) := by decide +kernel
theorem d112_33 : mm_dec q112 33 = some (.iload_n 1) := by decide +kernel
theorem d112_34 : mm_dec q112 34 = some (.invokevirtual 163) := by decide +kernel
theorem d112_37 : mm_dec q112 37 = some (.iconst 0) := by decide +kernel
theorem d112_38 : mm_dec q112 38 = some (.istore_n 3) := by decide +kernel
theorem d112_39 : mm_dec q112 39 = some (.iload_n 3) := by decide +kernel
theorem d112_40 : mm_dec q112 40 = some (.aload_n 0) := by decide +kernel
theorem d112_41 : mm_dec q112 41 = some (.getfield 28) := by decide +kernel
theorem d112_44 : mm_dec q112 44 = some (.getfield 139) := by decide +kernel
theorem d112_47 : mm_dec q112 47 = some (.if_icmp .ge 43) := by decide +kernel
theorem d112_50 : mm_dec q112 50 = some (.aload_n 0) := by decide +kernel
theorem d112_51 : mm_dec q112 51 = some (.getfield 98) := by decide +kernel
theorem d112_54 : mm_dec q112 54 = some (.invokevirtual 270) := by decide +kernel
theorem d112_57 : mm_dec q112 57 = some (.aload_n 0) := by decide +kernel
theorem d112_58 : mm_dec q112 58 = some (.getfield 98) := by decide +kernel
theorem d112_61 : mm_dec q112 61 = some (.iconst 1) := by decide +kernel
theorem d112_62 : mm_dec q112 62 = some (.iload_n 3) := by decide +kernel
theorem d112_63 : mm_dec q112 63 = some (.ishl) := by decide +kernel
theorem d112_64 : mm_dec q112 64 = some (.putfield 271) := by decide +kernel
theorem d112_67 : mm_dec q112 67 = some (.aload_n 0) := by decide +kernel
theorem d112_68 : mm_dec q112 68 = some (.getfield 98) := by decide +kernel
theorem d112_71 : mm_dec q112 71 = some (.iload_n 3) := by decide +kernel
theorem d112_72 : mm_dec q112 72 = some (.aload_n 0) := by decide +kernel
theorem d112_73 : mm_dec q112 73 = some (.getfield 98) := by decide +kernel
theorem d112_76 : mm_dec q112 76 = some (.iconst 0) := by decide +kernel
theorem d112_77 : mm_dec q112 77 = some (.iload_n 1) := by decide +kernel
theorem d112_78 : mm_dec q112 78 = some (.invokevirtual 250) := by decide +kernel
theorem d112_81 : mm_dec q112 81 = some (.invokevirtual 278) := by decide +kernel
theorem d112_84 : mm_dec q112 84 = some (.iinc 3 1) := by decide +kernel
theorem d112_87 : mm_dec q112 87 = some (.goto (-48)) := by decide +kernel
theorem d112_90 : mm_dec q112 90 = some (.iload_n 2) := by decide +kernel
theorem d112_91 : mm_dec q112 91 = some (.ifCond .ne 13) := by decide +kernel
theorem d112_94 : mm_dec q112 94 = some (.aload_n 0) := by decide +kernel
theorem d112_95 : mm_dec q112 95 = some (.getfield 98) := by decide +kernel
theorem d112_98 : mm_dec q112 98 = some (.getfield 282) := by decide +kernel
theorem d112_101 : mm_dec q112 101 = some (.goto 10) := by decide +kernel
theorem d112_104 : mm_dec q112 104 = some (.aload_n 0) := by decide +kernel
theorem d112_105 : mm_dec q112 105 = some (.getfield 98) := by decide +kernel
theorem d112_108 : mm_dec q112 108 = some (.getfield 285) := by decide +kernel
theorem d112_111 : mm_dec q112 111 = some (.ireturn) := by decide +kernel
theorem d113_0 : mm_dec q113 0 = some (.aload_n 0) := by decide +kernel
theorem d113_1 : mm_dec q113 1 = some (.iload_n 1) := by decide +kernel
theorem d113_2 : mm_dec q113 2 = some (.invokevirtual 288) := by decide +kernel
theorem d113_5 : mm_dec q113 5 = some (.ifCond .eq 19) := by decide +kernel
theorem d113_8 : mm_dec q113 8 = some (.iload_n 2) := by decide +kernel
theorem d113_9 : mm_dec q113 9 = some (.invokestatic 210) := by decide +kernel
theorem d113_12 : mm_dec q113 12 = some (.ifCond .eq 12) := by decide +kernel
theorem d113_15 : mm_dec q113 15 = some (.iload_n 3) := by decide +kernel
theorem d113_16 : mm_dec q113 16 = some (.ifCond .lt 8) := by decide +kernel
theorem d113_19 : mm_dec q113 19 = some (.iload_n 3) := by decide +kernel
theorem d113_20 : mm_dec q113 20 = some (.iconst 1) := by decide +kernel
theorem d113_21 : mm_dec q113 21 = some (.if_icmp .le 5) := by decide +kernel
theorem d113_24 : mm_dec q113 24 = some (.iconst (-1)) := by decide +kernel
theorem d113_25 : mm_dec q113 25 = some (.ireturn) := by decide +kernel
theorem d113_26 : mm_dec q113 26 = some (.aload_n 0) := by decide +kernel
theorem d113_27 : mm_dec q113 27 = some (.getfield 98) := by decide +kernel
theorem d113_30 : mm_dec q113 30 = some (.aload_n 0) := by decide +kernel
theorem d113_31 : mm_dec q113 31 = some (.getfield 69) := by decide +kernel
theorem d113_34 : mm_dec q113 34 = some (.iload_n 2) := by decide +kernel
theorem d113_35 : mm_dec q113 35 = some (.invokevirtual 163) := by decide +kernel
theorem d113_38 : mm_dec q113 38 = some (.iconst 0) := by decide +kernel
theorem d113_39 : mm_dec q113 39 = some (.istore 4) := by decide +kernel
theorem d113_41 : mm_dec q113 41 = some (.iload 4) := by decide +kernel
theorem d113_43 : mm_dec q113 43 = some (.bipush 60) := by decide +kernel
theorem d113_45 : mm_dec q113 45 = some (.if_icmp .ge 44) := by decide +kernel
theorem d113_48 : mm_dec q113 48 = some (.aload_n 0) := by decide +kernel
theorem d113_49 : mm_dec q113 49 = some (.getfield 98) := by decide +kernel
theorem d113_52 : mm_dec q113 52 = some (.invokevirtual 270) := by decide +kernel
theorem d113_55 : mm_dec q113 55 = some (.aload_n 0) := by decide +kernel
theorem d113_56 : mm_dec q113 56 = some (.getfield 98) := by decide +kernel
theorem d113_59 : mm_dec q113 59 = some (.iload_n 1) := by decide +kernel
theorem d113_60 : mm_dec q113 60 = some (.iload 4) := by decide +kernel
theorem d113_62 : mm_dec q113 62 = some (.invokevirtual 291) := by decide +kernel
theorem d113_65 : mm_dec q113 65 = some (.aload_n 0) := by decide +kernel
theorem d113_66 : mm_dec q113 66 = some (.getfield 98) := by decide +kernel
theorem d113_69 : mm_dec q113 69 = some (.iload 4) := by decide +kernel
theorem d113_71 : mm_dec q113 71 = some (.aload_n 0) := by decide +kernel
theorem d113_72 : mm_dec q113 72 = some (.getfield 98) := by decide +kernel
theorem d113_75 : mm_dec q113 75 = some (.iconst 0) := by decide +kernel
theorem d113_76 : mm_dec q113 76 = some (.iload_n 2) := by decide +kernel
theorem d113_77 : mm_dec q113 77 = some (.invokevirtual 250) := by decide +kernel
theorem d113_80 : mm_dec q113 80 = some (.invokevirtual 278) := by decide +kernel
theorem d113_83 : mm_dec q113 83 = some (.iinc 4 1) := by decide +kernel
theorem d113_86 : mm_dec q113 86 = some (.goto (-45)) := by decide +kernel
theorem d113_89 : mm_dec q113 89 = some (.iload_n 3) := by decide +kernel
theorem d113_90 : mm_dec q113 90 = some (.ifCond .ne 13) := by decide +kernel
theorem d113_93 : mm_dec q113 93 = some (.aload_n 0) := by decide +kernel
theorem d113_94 : mm_dec q113 94 = some (.getfield 98) := by decide +kernel
theorem d113_97 : mm_dec q113 97 = some (.getfield 282) := by decide +kernel
theorem d113_100 : mm_dec q113 100 = some (.goto 10) := by decide +kernel
theorem d113_103 : mm_dec q113 103 = some (.aload_n 0) := by decide +kernel
theorem d113_104 : mm_dec q113 104 = some (.getfield 98) := by decide +kernel
theorem d113_107 : mm_dec q113 107 = some (.getfield 285) := by decide +kernel
theorem d113_110 : mm_dec q113 110 = some (.ireturn) := by decide +kernel
