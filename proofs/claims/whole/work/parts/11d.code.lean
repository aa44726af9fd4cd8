theorem d114_0 : mm_dec q114 0 = some (.aload_n 0) := by decide +kernel
theorem d114_1 : mm_dec q114 1 = some (.invokevirtual 189) := by decide +kernel
theorem d114_4 : mm_dec q114 4 = some (.ifCond .eq 25) := by decide +kernel
theorem d114_7 : mm_dec q114 7 = some (.iload_n 1) := by decide +kernel
theorem d114_8 : mm_dec q114 8 = some (.ifCond .lt 21) := by decide +kernel
theorem d114_11 : mm_dec q114 11 = some (.iload_n 1) := by decide +kernel
theorem d114_12 : mm_dec q114 12 = some (.bipush 60) := by decide +kernel
theorem d114_14 : mm_dec q114 14 = some (.if_icmp .gt 15) := by decide +kernel
theorem d114_17 : mm_dec q114 17 = some (.aload_n 0) := by decide +kernel
theorem d114_18 : mm_dec q114 18 = some (.getfield 89) := by decide +kernel
theorem d114_21 : mm_dec q114 21 = some (.getfield 294) := by decide +kernel
theorem d114_24 : mm_dec q114 24 = some (.bipush 20) := by decide +kernel
theorem d114_26 : mm_dec q114 26 = some (.if_icmp .lt 5) := by decide +kernel
theorem d114_29 : mm_dec q114 29 = some (.iconst (-1)) := by decide +kernel
theorem d114_30 : mm_dec q114 30 = some (.ireturn) := by decide +kernel
theorem d114_31 : mm_dec q114 31 = some (.aload_n 0) := by decide +kernel
theorem d114_32 : mm_dec q114 32 = some (.getfield 89) := by decide +kernel
theorem d114_35 : mm_dec q114 35 = some (.iload_n 1) := by decide +kernel
theorem d114_36 : mm_dec q114 36 = some (.iload_n 2) := by decide +kernel
theorem d114_37 : mm_dec q114 37 = some (.invokevirtual 295) := by decide +kernel
theorem d114_40 : mm_dec q114 40 = some (.aload_n 0) := by decide +kernel
theorem d114_41 : mm_dec q114 41 = some (.getfield 89) := by decide +kernel
theorem d114_44 : mm_dec q114 44 = some (.getfield 294) := by decide +kernel
theorem d114_47 : mm_dec q114 47 = some (.ireturn) := by decide +kernel
theorem d115_0 : mm_dec q115 0 = some (.aload_n 0) := by decide +kernel
theorem d115_1 : mm_dec q115 1 = some (.invokevirtual 189) := by decide +kernel
theorem d115_4 : mm_dec q115 4 = some (.ifCond .eq 8) := by decide +kernel
theorem d115_7 : mm_dec q115 7 = some (.iload_n 1) := by decide +kernel
theorem d115_8 : mm_dec q115 8 = some (.iconst (-1)) := by decide +kernel
theorem d115_9 : mm_dec q115 9 = some (.if_icmp .ge 5) := by decide +kernel
theorem d115_12 : mm_dec q115 12 = some (.iconst (-1)) := by decide +kernel
theorem d115_13 : mm_dec q115 13 = some (.ireturn) := by decide +kernel
theorem d115_14 : mm_dec q115 14 = some (.sipush 540) := by decide +kernel
theorem d115_17 : mm_dec q115 17 = some (.istore_n 2) := by decide +kernel
theorem d115_18 : mm_dec q115 18 = some (.aload_n 0) := by decide +kernel
theorem d115_19 : mm_dec q115 19 = some (.getfield 98) := by decide +kernel
theorem d115_22 : mm_dec q115 22 = some (.aload_n 0) := by decide +kernel
theorem d115_23 : mm_dec q115 23 = some (.getfield 73) := by decide +kernel
theorem d115_26 : mm_dec q115 26 = some (.iload_n 2) := by decide +kernel
theorem d115_27 : mm_dec q115 27 = some (.invokevirtual 163) := by decide +kernel
theorem d115_30 : mm_dec q115 30 = some (.aload_n 0) := by decide +kernel
theorem d115_31 : mm_dec q115 31 = some (.getfield 98) := by decide +kernel
theorem d115_34 : mm_dec q115 34 = some (.iload_n 2) := by decide +kernel
theorem d115_35 : mm_dec q115 35 = some (.invokevirtual 244) := by decide +kernel
theorem d115_38 : mm_dec q115 38 = some (.iconst 0) := by decide +kernel
theorem d115_39 : mm_dec q115 39 = some (.istore_n 3) := by decide +kernel
theorem d115_40 : mm_dec q115 40 = some (.iconst 0) := by decide +kernel
theorem d115_41 : mm_dec q115 41 = some (.istore 4) := by decide +kernel
theorem d115_43 : mm_dec q115 43 = some (.iload 4) := by decide +kernel
theorem d115_45 : mm_dec q115 45 = some (.sipush 480) := by decide +kernel
theorem d115_48 : mm_dec q115 48 = some (.if_icmp .ge 39) := by decide +kernel
theorem d115_51 : mm_dec q115 51 = some (.aload_n 0) := by decide +kernel
theorem d115_52 : mm_dec q115 52 = some (.getfield 89) := by decide +kernel
theorem d115_55 : mm_dec q115 55 = some (.aload_n 0) := by decide +kernel
theorem d115_56 : mm_dec q115 56 = some (.getfield 98) := by decide +kernel
theorem d115_59 : mm_dec q115 59 = some (.getfield 298) := by decide +kernel
theorem d115_62 : mm_dec q115 62 = some (.iload 4) := by decide +kernel
theorem d115_64 : mm_dec q115 64 = some (.invokevirtual 302) := by decide +kernel
theorem d115_67 : mm_dec q115 67 = some (.ifCond .eq 14) := by decide +kernel
theorem d115_70 : mm_dec q115 70 = some (.iload_n 3) := by decide +kernel
theorem d115_71 : mm_dec q115 71 = some (.iload_n 1) := by decide +kernel
theorem d115_72 : mm_dec q115 72 = some (.if_icmp .ne 6) := by decide +kernel
theorem d115_75 : mm_dec q115 75 = some (.iload 4) := by decide +kernel
theorem d115_77 : mm_dec q115 77 = some (.ireturn) := by decide +kernel
theorem d115_78 : mm_dec q115 78 = some (.iinc 3 1) := by decide +kernel
theorem d115_81 : mm_dec q115 81 = some (.iinc 4 1) := by decide +kernel
theorem d115_84 : mm_dec q115 84 = some (.goto (-41)) := by decide +kernel
theorem d115_87 : mm_dec q115 87 = some (.iload_n 1) := by decide +kernel
theorem d115_88 : mm_dec q115 88 = some (.iconst (-1)) := by decide +kernel
theorem d115_89 : mm_dec q115 89 = some (.if_icmp .ne 7) := by decide +kernel
theorem d115_92 : mm_dec q115 92 = some (.iload_n 3) := by decide +kernel
theorem d115_93 : mm_dec q115 93 = some (.goto 4) := by decide +kernel
theorem d115_96 : mm_dec q115 96 = some (.iconst (-1)) := by decide +kernel
theorem d115_97 : mm_dec q115 97 = some (.ireturn) := by decide +kernel
theorem d116_0 : mm_dec q116 0 = some (.aload_n 0) := by decide +kernel
theorem d116_1 : mm_dec q116 1 = some (.iload_n 1) := by decide +kernel
theorem d116_2 : mm_dec q116 2 = some (.invokevirtual 288) := by decide +kernel
theorem d116_5 : mm_dec q116 5 = some (.ifCond .eq 8) := by decide +kernel
theorem d116_8 : mm_dec q116 8 = some (.iload_n 2) := by decide +kernel
theorem d116_9 : mm_dec q116 9 = some (.iconst (-1)) := by decide +kernel
theorem d116_10 : mm_dec q116 10 = some (.if_icmp .ge 5) := by decide +kernel
theorem d116_13 : mm_dec q116 13 = some (.iconst (-1)) := by decide +kernel
theorem d116_14 : mm_dec q116 14 = some (.ireturn) := by decide +kernel
theorem d116_15 : mm_dec q116 15 = some (.aload_n 0) := by decide +kernel
theorem d116_16 : mm_dec q116 16 = some (.getfield 89) := by decide +kernel
theorem d116_19 : mm_dec q116 19 = some (.invokevirtual 306) := by decide +kernel
theorem d116_22 : mm_dec q116 22 = some (.iconst 1) := by decide +kernel
theorem d116_23 : mm_dec q116 23 = some (.iadd) := by decide +kernel
theorem d116_24 : mm_dec q116 24 = some (.istore_n 3) := by decide +kernel
theorem d116_25 : mm_dec q116 25 = some (.aload_n 0) := by decide +kernel
theorem d116_26 : mm_dec q116 26 = some (.getfield 98) := by decide +kernel
theorem d116_29 : mm_dec q116 29 = some (.aload_n 0) := by decide +kernel
theorem d116_30 : mm_dec q116 30 = some (.getfield 69) := by decide +kernel
theorem d116_33 : mm_dec q116 33 = some (.iload_n 3) := by decide +kernel
theorem d116_34 : mm_dec q116 34 = some (.invokevirtual 163) := by decide +kernel
theorem d116_37 : mm_dec q116 37 = some (.iconst 0) := by decide +kernel
theorem d116_38 : mm_dec q116 38 = some (.istore 4) := by decide +kernel
theorem d116_40 : mm_dec q116 40 = some (.iconst 0) := by decide +kernel
theorem d116_41 : mm_dec q116 41 = some (.istore 5) := by decide +kernel
theorem d116_43 : mm_dec q116 43 = some (.iload 5) := by decide +kernel
theorem d116_45 : mm_dec q116 45 = some (.bipush 60) := by decide +kernel
theorem d116_47 : mm_dec q116 47 = some (.if_icmp .ge 64) := by decide +kernel
theorem d116_50 : mm_dec q116 50 = some (.aload_n 0) := by decide +kernel
theorem d116_51 : mm_dec q116 51 = some (.getfield 98) := by decide +kernel
theorem d116_54 : mm_dec q116 54 = some (.invokevirtual 270) := by decide +kernel
theorem d116_57 : mm_dec q116 57 = some (.aload_n 0) := by decide +kernel
theorem d116_58 : mm_dec q116 58 = some (.getfield 98) := by decide +kernel
theorem d116_61 : mm_dec q116 61 = some (.iload_n 1) := by decide +kernel
theorem d116_62 : mm_dec q116 62 = some (.iload 5) := by decide +kernel
theorem d116_64 : mm_dec q116 64 = some (.invokevirtual 291) := by decide +kernel
theorem d116_67 : mm_dec q116 67 = some (.aload_n 0) := by decide +kernel
theorem d116_68 : mm_dec q116 68 = some (.getfield 98) := by decide +kernel
theorem d116_71 : mm_dec q116 71 = some (.iload_n 3) := by decide +kernel
theorem d116_72 : mm_dec q116 72 = some (.invokevirtual 244) := by decide +kernel
theorem d116_75 : mm_dec q116 75 = some (.aload_n 0) := by decide +kernel
theorem d116_76 : mm_dec q116 76 = some (.getfield 89) := by decide +kernel
theorem d116_79 : mm_dec q116 79 = some (.aload_n 0) := by decide +kernel
theorem d116_80 : mm_dec q116 80 = some (.getfield 98) := by decide +kernel
theorem d116_83 : mm_dec q116 83 = some (.getfield 298) := by decide +kernel
theorem d116_86 : mm_dec q116 86 = some (.iconst 0) := by decide +kernel
theorem d116_87 : mm_dec q116 87 = some (.invokevirtual 302) := by decide +kernel
theorem d116_90 : mm_dec q116 90 = some (.ifCond .eq 15) := by decide +kernel
theorem d116_93 : mm_dec q116 93 = some (.iload 4) := by decide +kernel
theorem d116_95 : mm_dec q116 95 = some (.iload_n 2) := by decide +kernel
theorem d116_96 : mm_dec q116 96 = some (.if_icmp .ne 6) := by decide +kernel
theorem d116_99 : mm_dec q116 99 = some (.iload 5) := by decide +kernel
theorem d116_101 : mm_dec q116 101 = some (.ireturn) := by decide +kernel
theorem d116_102 : mm_dec q116 102 = some (.iinc 4 1) := by decide +kernel
theorem d116_105 : mm_dec q116 105 = some (.iinc 5 1) := by decide +kernel
theorem d116_108 : mm_dec q116 108 = some (.goto (-65)) := by decide +kernel
theorem d116_111 : mm_dec q116 111 = some (.iload_n 2) := by decide +kernel
theorem d116_112 : mm_dec q116 112 = some (.iconst (-1)) := by decide +kernel
theorem d116_113 : mm_dec q116 113 = some (.if_icmp .ne 8) := by decide +kernel
theorem d116_116 : mm_dec q116 116 = some (.iload 4) := by decide +kernel
theorem d116_118 : mm_dec q116 118 = some (.goto 4) := by decide +kernel
theorem d116_121 : mm_dec q116 121 = some (.iconst (-1)) := by decide +kernel
theorem d116_122 : mm_dec q116 122 = some (.ireturn) := by decide +kernel
theorem d117_0 : mm_dec q117 0 = some (.aload_n 0) := by decide +kernel
theorem d117_1 : mm_dec q117 1 = some (.invokevirtual 189) := by decide +kernel
theorem d117_4 : mm_dec q117 4 = some (.ifCond .eq 14) := by decide +kernel
theorem d117_7 : mm_dec q117 7 = some (.iload_n 1) := by decide +kernel
theorem d117_8 : mm_dec q117 8 = some (.iconst 1) := by decide +kernel
theorem d117_9 : mm_dec q117 9 = some (.if_icmp .lt 9) := by decide +kernel
theorem d117_12 : mm_dec q117 12 = some (.iload_n 1) := by decide +kernel
theorem d117_13 : mm_dec q117 13 = some (.bipush 10) := by decide +kernel
theorem d117_15 : mm_dec q117 15 = some (.if_icmp .le 5) := by decide +kernel
theorem d117_18 : mm_dec q117 18 = some (.iconst (-1)) := by decide +kernel
theorem d117_19 : mm_dec q117 19 = some (.ireturn) := by decide +kernel
theorem d117_20 : mm_dec q117 20 = some (.aload_n 0) := by decide +kernel
theorem d117_21 : mm_dec q117 21 = some (.getfield 98) := by decide +kernel
theorem d117_24 : mm_dec q117 24 = some (.aload_n 0) := by decide +kernel
theorem d117_25 : mm_dec q117 25 = some (.getfield 69) := by decide +kernel
theorem d117_28 : mm_dec q117 28 = some (.iload_n 1) := by decide +kernel
theorem d117_29 : mm_dec q117 29 = some (.invokevirtual 163) := by decide +kernel
theorem d117_32 : mm_dec q117 32 = some (.aload_n 0) := by decide +kernel
theorem d117_33 : mm_dec q117 33 = some (.iload_n 1) := by decide +kernel
theorem d117_34 : mm_dec q117 34 = some (.iconst 0) := by decide +kernel
theorem d117_35 : mm_dec q117 35 = some (.aload_n 0) := by decide +kernel
theorem d117_36 : mm_dec q117 36 = some (.getfield 69) := by decide +kernel
theorem d117_39 : mm_dec q117 39 = some (.getfield 182) := by decide +kernel
theorem d117_42 : mm_dec q117 42 = some (.iconst 0) := by decide +kernel
theorem d117_43 : mm_dec q117 43 = some (.iaload) := by decide +kernel
theorem d117_44 : mm_dec q117 44 = some (.ldc2_w 309) := by decide +kernel
theorem d117_47 : mm_dec q117 47 = some (.invokevirtual 311) := by decide +kernel
theorem d117_50 : mm_dec q117 50 = some (.l2i) := by decide +kernel
theorem d117_51 : mm_dec q117 51 = some (.ireturn) := by decide +kernel
theorem d118_0 : mm_dec q118 0 = some (.iload_n 2) := by decide +kernel
theorem d118_1 : mm_dec q118 1 = some (.iload_n 1) := by decide +kernel
theorem d118_2 : mm_dec q118 2 = some (.if_icmp .ge 9) := by decide +kernel
theorem d118_5 : mm_dec q118 5 = some (.iload_n 2) := by decide +kernel
theorem d118_6 : mm_dec q118 6 = some (.bipush 10) := by decide +kernel
theorem d118_8 : mm_dec q118 8 = some (.if_icmp .lt 14) := by decide +kernel
theorem d118_11 : mm_dec q118 11 = some (.iload_n 3) := by decide +kernel
theorem d118_12 : mm_dec q118 12 = some (.ifCond .ne 8) := by decide +kernel
theorem d118_15 : mm_dec q118 15 = some (.lload 4) := by decide +kernel
theorem d118_17 : mm_dec q118 17 = some (.goto 4) := by decide +kernel
theorem d118_20 : mm_dec q118 20 = some (.lconst 0) := by decide +kernel
theorem d118_21 : mm_dec q118 21 = some (.lreturn) := by decide +kernel
theorem d118_22 : mm_dec q118 22 = some (.lload 4) := by decide +kernel
theorem d118_24 : mm_dec q118 24 = some (.lconst 0) := by decide +kernel
theorem d118_25 : mm_dec q118 25 = some (.lcmp) := by decide +kernel
theorem d118_26 : mm_dec q118 26 = some (.ifCond .ne 7) := by decide +kernel
theorem d118_29 : mm_dec q118 29 = some (.lconst 0) := by decide +kernel
theorem d118_30 : mm_dec q118 30 = some (.goto 12) := by decide +kernel
theorem d118_33 : mm_dec q118 33 = some (.aload_n 0) := by decide +kernel
theorem d118_34 : mm_dec q118 34 = some (.iload_n 1) := by decide +kernel
theorem d118_35 : mm_dec q118 35 = some (.iload_n 2) := by decide +kernel
theorem d118_36 : mm_dec q118 36 = some (.iload_n 3) := by decide +kernel
theorem d118_37 : mm_dec q118 37 = some (.lload 4) := by decide +kernel
theorem d118_39 : mm_dec q118 39 = some (.invokevirtual 315) := by decide +kernel
theorem d118_42 : mm_dec q118 42 = some (.lreturn) := by decide +kernel
theorem d119_0 : mm_dec q119 0 = some (.aload_n 0) := by decide +kernel
theorem d119_1 : mm_dec q119 1 = some (.getfield 69) := by decide +kernel
theorem d119_4 : mm_dec q119 4 = some (.getfield 217) := by decide +kernel
theorem d119_7 : mm_dec q119 7 = some (.iload_n 2) := by decide +kernel
theorem d119_8 : mm_dec q119 8 = some (.iadd) := by decide +kernel
theorem d119_9 : mm_dec q119 9 = some (.istore 6) := by decide +kernel
theorem d119_11 : mm_dec q119 11 = some (.aload_n 0) := by decide +kernel
theorem d119_12 : mm_dec q119 12 = some (.getfield 28) := by decide +kernel
theorem d119_15 : mm_dec q119 15 = some (.aload_n 0) := by decide +kernel
theorem d119_16 : mm_dec q119 16 = some (.getfield 98) := by decide +kernel
theorem d119_19 : mm_dec q119 19 = some (.iload_n 2) := by decide +kernel
theorem d119_20 : mm_dec q119 20 = some (.iload_n 3) := by decide +kernel
theorem d119_21 : mm_dec q119 21 = some (.invokevirtual 318) := by decide +kernel
theorem d119_24 : mm_dec q119 24 = some (.iload 6) := by decide +kernel
theorem d119_26 : mm_dec q119 26 = some (.aload_n 0) := by decide +kernel
theorem d119_27 : mm_dec q119 27 = some (.getfield 28) := by decide +kernel
theorem d119_30 : mm_dec q119 30 = some (.aload_n 0) := by decide +kernel
theorem d119_31 : mm_dec q119 31 = some (.getfield 28) := by decide +kernel
theorem d119_34 : mm_dec q119 34 = some (.invokevirtual 224) := by decide +kernel
theorem d119_37 : mm_dec q119 37 = some (.invokevirtual 227) := by decide +kernel
theorem d119_40 : mm_dec q119 40 = some (.invokevirtual 230) := by decide +kernel
theorem d119_43 : mm_dec q119 43 = some (.ifCond .eq 7) := by decide +kernel
theorem d119_46 : mm_dec q119 46 = some (.iconst 1) := by decide +kernel
theorem d119_47 : mm_dec q119 47 = some (.goto 4) := by decide +kernel
theorem d119_50 : mm_dec q119 50 = some (.iconst 0) := by decide +kernel
theorem d119_51 : mm_dec q119 51 = some (.istore 7) := by decide +kernel
theorem d119_53 : mm_dec q119 53 = some (.iload_n 3) := by decide +kernel
theorem d119_54 : mm_dec q119 54 = some (.aload_n 0) := by decide +kernel
theorem d119_55 : mm_dec q119 55 = some (.getfield 28) := by decide +kernel
theorem d119_58 : mm_dec q119 58 = some (.iconst 0) := by decide +kernel
theorem d119_59 : mm_dec q119 59 = some (.iload 6) := by decide +kernel
theorem d119_61 : mm_dec q119 61 = some (.invokevirtual 320) := by decide +kernel
theorem d119_64 : mm_dec q119 64 = some (.iadd) := by decide +kernel
theorem d119_65 : mm_dec q119 65 = some (.istore 8) := by decide +kernel
theorem d119_67 : mm_dec q119 67 = some (.lload 4) := by decide +kernel
theorem d119_69 : mm_dec q119 69 = some (.aload_n 0) := by decide +kernel
theorem d119_70 : mm_dec q119 70 = some (.getfield 203) := by decide +kernel
theorem d119_73 : mm_dec q119 73 = some (.i2l) := by decide +kernel
theorem d119_74 : mm_dec q119 74 = some (.lmul) := by decide +kernel
theorem d119_75 : mm_dec q119 75 = some (.ldc2_w 323) := by decide +kernel
theorem d119_78 : mm_dec q119 78 = some (.ldiv) := by decide +kernel
theorem d119_79 : mm_dec q119 79 = some (.lstore 9) := by decide +kernel
theorem d119_81 : mm_dec q119 81 = some (.aload_n 0) := by decide +kernel
theorem d119_82 : mm_dec q119 82 = some (.iload_n 1) := by decide +kernel
theorem d119_83 : mm_dec q119 83 = some (.iload_n 2) := by decide +kernel
theorem d119_84 : mm_dec q119 84 = some (.iconst 1) := by decide +kernel
theorem d119_85 : mm_dec q119 85 = some (.iadd) := by decide +kernel
theorem d119_86 : mm_dec q119 86 = some (.aload_n 0) := by decide +kernel
theorem d119_87 : mm_dec q119 87 = some (.getfield 28) := by decide +kernel
theorem d119_90 : mm_dec q119 90 = some (.iconst 0) := by decide +kernel
theorem d119_91 : mm_dec q119 91 = some (.iload 8) := by decide +kernel
theorem d119_93 : mm_dec q119 93 = some (.iconst 1) := by decide +kernel
theorem d119_94 : mm_dec q119 94 = some (.invokevirtual 325) := by decide +kernel
theorem d119_97 : mm_dec q119 97 = some (.lload 9) := by decide +kernel
theorem d119_99 : mm_dec q119 99 = some (.invokevirtual 311) := by decide +kernel
theorem d119_102 : mm_dec q119 102 = some (.aload_n 0) := by decide +kernel
theorem d119_103 : mm_dec q119 103 = some (.iload_n 1) := by decide +kernel
theorem d119_104 : mm_dec q119 104 = some (.iload_n 2) := by decide +kernel
theorem d119_105 : mm_dec q119 105 = some (.iconst 1) := by decide +kernel
theorem d119_106 : mm_dec q119 106 = some (.iadd) := by decide +kernel
theorem d119_107 : mm_dec q119 107 = some (.aload_n 0) := by decide +kernel
theorem d119_108 : mm_dec q119 108 = some (.getfield 28) := by decide +kernel
theorem d119_111 : mm_dec q119 111 = some (.iconst 0) := by decide +kernel
theorem d119_112 : mm_dec q119 112 = some (.iload 8) := by decide +kernel
theorem d119_114 : mm_dec q119 114 = some (.iload 7) := by decide +kernel
theorem d119_116 : mm_dec q119 116 = some (.invokevirtual 325) := by decide +kernel
theorem d119_119 : mm_dec q119 119 = some (.lload 4) := by decide +kernel
theorem d119_121 : mm_dec q119 121 = some (.lload 9) := by decide +kernel
theorem d119_123 : mm_dec q119 123 = some (.lsub) := by decide +kernel
theorem d119_124 : mm_dec q119 124 = some (.invokevirtual 311) := by decide +kernel
theorem d119_127 : mm_dec q119 127 = some (.ladd) := by decide +kernel
theorem d119_128 : mm_dec q119 128 = some (.lreturn) := by decide +kernel
theorem d120_0 : mm_dec q120 0 = some (.aload_n 0) := by decide +kernel
theorem d120_1 : mm_dec q120 1 = some (.iload_n 1) := by decide +kernel
theorem d120_2 : mm_dec q120 2 = some (.invokevirtual 176) := by decide +kernel
theorem d120_5 : mm_dec q120 5 = some (.ifCond .eq 19) := by decide +kernel
theorem d120_8 : mm_dec q120 8 = some (.iload_n 2) := by decide +kernel
theorem d120_9 : mm_dec q120 9 = some (.invokestatic 210) := by decide +kernel
theorem d120_12 : mm_dec q120 12 = some (.ifCond .eq 12) := by decide +kernel
theorem d120_15 : mm_dec q120 15 = some (.iload_n 3) := by decide +kernel
theorem d120_16 : mm_dec q120 16 = some (.ifCond .lt 8) := by decide +kernel
theorem d120_19 : mm_dec q120 19 = some (.iload_n 3) := by decide +kernel
theorem d120_20 : mm_dec q120 20 = some (.iconst 1) := by decide +kernel
theorem d120_21 : mm_dec q120 21 = some (.if_icmp .le 5) := by decide +kernel
theorem d120_24 : mm_dec q120 24 = some (.iconst (-1)) := by decide +kernel
theorem d120_25 : mm_dec q120 25 = some (.ireturn) := by decide +kernel
theorem d120_26 : mm_dec q120 26 = some (.aload_n 0) := by decide +kernel
theorem d120_27 : mm_dec q120 27 = some (.getfield 98) := by decide +kernel
theorem d120_30 : mm_dec q120 30 = some (.aload_n 0) := by decide +kernel
theorem d120_31 : mm_dec q120 31 = some (.getfield 69) := by decide +kernel
theorem d120_34 : mm_dec q120 34 = some (.iload_n 2) := by decide +kernel
theorem d120_35 : mm_dec q120 35 = some (.invokevirtual 163) := by decide +kernel
theorem d120_38 : mm_dec q120 38 = some (.iconst (-1)) := by decide +kernel
theorem d120_39 : mm_dec q120 39 = some (.istore 4) := by decide +kernel
theorem d120_41 : mm_dec q120 41 = some (.iconst 0) := by decide +kernel
theorem d120_42 : mm_dec q120 42 = some (.istore 5) := by decide +kernel
theorem d120_44 : mm_dec q120 44 = some (.iconst 0) := by decide +kernel
theorem d120_45 : mm_dec q120 45 = some (.istore 6) := by decide +kernel
theorem d120_47 : mm_dec q120 47 = some (.iload 6) := by decide +kernel
theorem d120_49 : mm_dec q120 49 = some (.iload_n 2) := by decide +kernel
theorem d120_50 : mm_dec q120 50 = some (.if_icmp .ge 53) := by decide +kernel
theorem d120_53 : mm_dec q120 53 = some (.aload_n 0) := by decide +kernel
theorem d120_54 : mm_dec q120 54 = some (.getfield 98) := by decide +kernel
theorem d120_57 : mm_dec q120 57 = some (.invokevirtual 167) := by decide +kernel
theorem d120_60 : mm_dec q120 60 = some (.aload_n 0) := by decide +kernel
theorem d120_61 : mm_dec q120 61 = some (.getfield 98) := by decide +kernel
theorem d120_64 : mm_dec q120 64 = some (.getfield 247) := by decide +kernel
theorem d120_67 : mm_dec q120 67 = some (.getfield 182) := by decide +kernel
theorem d120_70 : mm_dec q120 70 = some (.iload_n 1) := by decide +kernel
theorem d120_71 : mm_dec q120 71 = some (.iaload) := by decide +kernel
theorem d120_72 : mm_dec q120 72 = some (.iload 4) := by decide +kernel
theorem d120_74 : mm_dec q120 74 = some (.if_icmp .le 23) := by decide +kernel
theorem d120_77 : mm_dec q120 77 = some (.aload_n 0) := by decide +kernel
theorem d120_78 : mm_dec q120 78 = some (.getfield 98) := by decide +kernel
theorem d120_81 : mm_dec q120 81 = some (.getfield 247) := by decide +kernel
theorem d120_84 : mm_dec q120 84 = some (.getfield 182) := by decide +kernel
theorem d120_87 : mm_dec q120 87 = some (.iload_n 1) := by decide +kernel
theorem d120_88 : mm_dec q120 88 = some (.iaload) := by decide +kernel
theorem d120_89 : mm_dec q120 89 = some (.istore 4) := by decide +kernel
theorem d120_91 : mm_dec q120 91 = some (.iload 6) := by decide +kernel
theorem d120_93 : mm_dec q120 93 = some (.iconst 1) := by decide +kernel
theorem d120_94 : mm_dec q120 94 = some (.iadd) := by decide +kernel
theorem d120_95 : mm_dec q120 95 = some (.istore 5) := by decide +kernel
theorem d120_97 : mm_dec q120 97 = some (.iinc 6 1) := by decide +kernel
theorem d120_100 : mm_dec q120 100 = some (.goto (-53)) := by decide +kernel
theorem d120_103 : mm_dec q120 103 = some (.iload_n 3) := by decide +kernel
theorem d120_104 : mm_dec q120 104 = some (.ifCond .ne 8) := by decide +kernel
theorem d120_107 : mm_dec q120 107 = some (.iload 4) := by decide +kernel
theorem d120_109 : mm_dec q120 109 = some (.goto 5) := by decide +kernel
theorem d120_112 : mm_dec q120 112 = some (.iload 5) := by decide +kernel
theorem d120_114 : mm_dec q120 114 = some (.ireturn) := by decide +kernel
theorem d121_0 : mm_dec q121 0 = some (.aload_n 0) := by decide +kernel
theorem d121_1 : mm_dec q121 1 = some (.iload_n 1) := by decide +kernel
theorem d121_2 : mm_dec q121 2 = some (.invokevirtual 176) := by decide +kernel
theorem d121_5 : mm_dec q121 5 = some (.ifCond .ne 5) := by decide +kernel
theorem d121_8 : mm_dec q121 8 = some (.iconst (-1)) := by decide +kernel
theorem d121_9 : mm_dec q121 9 = some (.ireturn) := by decide +kernel
theorem d121_10 : mm_dec q121 10 = some (.aload_n 0) := by decide +kernel
theorem d121_11 : mm_dec q121 11 = some (.getfield 98) := by decide +kernel
theorem d121_14 : mm_dec q121 14 = some (.aload_n 0) := by decide +kernel
theorem d121_15 : mm_dec q121 15 = some (.getfield 69) := by decide +kernel
theorem d121_18 : mm_dec q121 18 = some (.sipush 240) := by decide +kernel
theorem d121_21 : mm_dec q121 21 = some (.invokevirtual 163) := by decide +kernel
theorem d121_24 : mm_dec q121 24 = some (.iconst 1) := by decide +kernel
theorem d121_25 : mm_dec q121 25 = some (.istore_n 2) := by decide +kernel
theorem d121_26 : mm_dec q121 26 = some (.iload_n 2) := by decide +kernel
theorem d121_27 : mm_dec q121 27 = some (.sipush 240) := by decide +kernel
theorem d121_30 : mm_dec q121 30 = some (.if_icmp .gt 33) := by decide +kernel
theorem d121_33 : mm_dec q121 33 = some (.aload_n 0) := by decide +kernel
theorem d121_34 : mm_dec q121 34 = some (.getfield 98) := by decide +kernel
theorem d121_37 : mm_dec q121 37 = some (.invokevirtual 167) := by decide +kernel
theorem d121_40 : mm_dec q121 40 = some (.aload_n 0) := by decide +kernel
theorem d121_41 : mm_dec q121 41 = some (.getfield 98) := by decide +kernel
theorem d121_44 : mm_dec q121 44 = some (.getfield 247) := by decide +kernel
theorem d121_47 : mm_dec q121 47 = some (.getfield 182) := by decide +kernel
theorem d121_50 : mm_dec q121 50 = some (.iload_n 1) := by decide +kernel
theorem d121_51 : mm_dec q121 51 = some (.iaload) := by decide +kernel
theorem d121_52 : mm_dec q121 52 = some (.ifCond .ne 5) := by decide +kernel
theorem d121_55 : mm_dec q121 55 = some (.iload_n 2) := by decide +kernel
theorem d121_56 : mm_dec q121 56 = some (.ireturn) := by decide +kernel
theorem d121_57 : mm_dec q121 57 = some (.iinc 2 1) := by decide +kernel
theorem d121_60 : mm_dec q121 60 = some (.goto (-34)) := by decide +kernel
theorem d121_63 : mm_dec q121 63 = some (.iconst (-1)) := by decide +kernel
theorem d121_64 : mm_dec q121 64 = some (.ireturn) := by decide +kernel
theorem d122_0 : mm_dec q122 0 = some (.aload_n 0) := by decide +kernel
theorem d122_1 : mm_dec q122 1 = some (.iload_n 1) := by decide +kernel
theorem d122_2 : mm_dec q122 2 = some (.invokevirtual 148) := by decide +kernel
theorem d122_5 : mm_dec q122 5 = some (.ifCond .eq 10) := by decide +kernel
theorem d122_8 : mm_dec q122 8 = some (.iload_n 2) := by decide +kernel
theorem d122_9 : mm_dec q122 9 = some (.invokestatic 210) := by decide +kernel
theorem d122_12 : mm_dec q122 12 = some (.ifCond .ne 5) := by decide +kernel
theorem d122_15 : mm_dec q122 15 = some (.iconst (-1)) := by decide +kernel
theorem d122_16 : mm_dec q122 16 = some (.ireturn) := by decide +kernel
theorem d122_17 : mm_dec q122 17 = some (.aload_n 0) := by decide +kernel
theorem d122_18 : mm_dec q122 18 = some (.getfield 98) := by decide +kernel
theorem d122_21 : mm_dec q122 21 = some (.aload_n 0) := by decide +kernel
theorem d122_22 : mm_dec q122 22 = some (.getfield 69) := by decide +kernel
theorem d122_25 : mm_dec q122 25 = some (.iload_n 2) := by decide +kernel
theorem d122_26 : mm_dec q122 26 = some (.invokevirtual 163) := by decide +kernel
theorem d122_29 : mm_dec q122 29 = some (.iconst 0) := by decide +kernel
theorem d122_30 : mm_dec q122 30 = some (.istore_n 3) := by decide +kernel
theorem d122_31 : mm_dec q122 31 = some (.iconst 0) := by decide +kernel
theorem d122_32 : mm_dec q122 32 = some (.istore 4) := by decide +kernel
theorem d122_34 : mm_dec q122 34 = some (.iload 4) := by decide +kernel
theorem d122_36 : mm_dec q122 36 = some (.iload_n 2) := by decide +kernel
theorem d122_37 : mm_dec q122 37 = some (.if_icmp .ge 37) := by decide +kernel
theorem d122_40 : mm_dec q122 40 = some (.aload_n 0) := by decide +kernel
theorem d122_41 : mm_dec q122 41 = some (.getfield 98) := by decide +kernel
theorem d122_44 : mm_dec q122 44 = some (.invokevirtual 167) := by decide +kernel
theorem d122_47 : mm_dec q122 47 = some (.iload_n 3) := by decide +kernel
theorem d122_48 : mm_dec q122 48 = some (.aload_n 0) := by decide +kernel
theorem d122_49 : mm_dec q122 49 = some (.getfield 98) := by decide +kernel
theorem d122_52 : mm_dec q122 52 = some (.getfield 173) := by decide +kernel
theorem d122_55 : mm_dec q122 55 = some (.iconst 1) := by decide +kernel
theorem d122_56 : mm_dec q122 56 = some (.iload_n 1) := by decide +kernel
theorem d122_57 : mm_dec q122 57 = some (.ishl) := by decide +kernel
theorem d122_58 : mm_dec q122 58 = some (.if_icmp .ne 7) := by decide +kernel
theorem d122_61 : mm_dec q122 61 = some (.iconst 1) := by decide +kernel
theorem d122_62 : mm_dec q122 62 = some (.goto 4) := by decide +kernel
theorem d122_65 : mm_dec q122 65 = some (.iconst 0) := by decide +kernel
theorem d122_66 : mm_dec q122 66 = some (.iadd) := by decide +kernel
theorem d122_67 : mm_dec q122 67 = some (.istore_n 3) := by decide +kernel
theorem d122_68 : mm_dec q122 68 = some (.iinc 4 1) := by decide +kernel
theorem d122_71 : mm_dec q122 71 = some (.goto (-37)) := by decide +kernel
theorem d122_74 : mm_dec q122 74 = some (.iload_n 3) := by decide +kernel
theorem d122_75 : mm_dec q122 75 = some (.ireturn) := by decide +kernel
theorem d123_0 : mm_dec q123 0 = some (.aload_n 0) := by decide +kernel
theorem d123_1 : mm_dec q123 1 = some (.iload_n 1) := by decide +kernel
theorem d123_2 : mm_dec q123 2 = some (.invokevirtual 176) := by decide +kernel
theorem d123_5 : mm_dec q123 5 = some (.ifCond .eq 7) := by decide +kernel
theorem d123_8 : mm_dec q123 8 = some (.iload_n 2) := by decide +kernel
theorem d123_9 : mm_dec q123 9 = some (.ifCond .ge 5) := by decide +kernel
theorem d123_12 : mm_dec q123 12 = some (.iconst (-1)) := by decide +kernel
theorem d123_13 : mm_dec q123 13 = some (.ireturn) := by decide +kernel
theorem d123_14 : mm_dec q123 14 = some (.aload_n 0) := by decide +kernel
theorem d123_15 : mm_dec q123 15 = some (.getfield 98) := by decide +kernel
theorem d123_18 : mm_dec q123 18 = some (.aload_n 0) := by decide +kernel
theorem d123_19 : mm_dec q123 19 = some (.getfield 69) := by decide +kernel
theorem d123_22 : mm_dec q123 22 = some (.sipush 240) := by decide +kernel
theorem d123_25 : mm_dec q123 25 = some (.invokevirtual 163) := by decide +kernel
theorem d123_28 : mm_dec q123 28 = some (.aload_n 0) := by decide +kernel
theorem d123_29 : mm_dec q123 29 = some (.getfield 69) := by decide +kernel
theorem d123_32 : mm_dec q123 32 = some (.getfield 182) := by decide +kernel
theorem d123_35 : mm_dec q123 35 = some (.iload_n 1) := by decide +kernel
theorem d123_36 : mm_dec q123 36 = some (.iaload) := by decide +kernel
theorem d123_37 : mm_dec q123 37 = some (.istore_n 3) := by decide +kernel
theorem d123_38 : mm_dec q123 38 = some (.iconst 0) := by decide +kernel
theorem d123_39 : mm_dec q123 39 = some (.istore 4) := by decide +kernel
theorem d123_41 : mm_dec q123 41 = some (.iconst 0) := by decide +kernel
theorem d123_42 : mm_dec q123 42 = some (.istore 5) := by decide +kernel
theorem d123_44 : mm_dec q123 44 = some (.iload 5) := by decide +kernel
theorem d123_46 : mm_dec q123 46 = some (.sipush 240) := by decide +kernel
theorem d123_49 : mm_dec q123 49 = some (.if_icmp .ge 90) := by decide +kernel
theorem d123_52 : mm_dec q123 52 = some (.aload_n 0) := by decide +kernel
theorem d123_53 : mm_dec q123 53 = some (.getfield 28) := by decide +kernel
theorem d123_56 : mm_dec q123 56 = some (.iload_n 1) := by decide +kernel
theorem d123_57 : mm_dec q123 57 = some (.aload_n 0) := by decide +kernel
theorem d123_58 : mm_dec q123 58 = some (.getfield 98) := by decide +kernel
theorem d123_61 : mm_dec q123 61 = some (.getfield 247) := by decide +kernel
theorem d123_64 : mm_dec q123 64 = some (.getfield 217) := by decide +kernel
theorem d123_67 : mm_dec q123 67 = some (.invokevirtual 320) := by decide +kernel
theorem d123_70 : mm_dec q123 70 = some (.istore 6) := by decide +kernel
theorem d123_72 : mm_dec q123 72 = some (.iload 6) := by decide +kernel
theorem d123_74 : mm_dec q123 74 = some (.ifCond .le 17) := by decide +kernel
theorem d123_77 : mm_dec q123 77 = some (.iload 4) := by decide +kernel
theorem d123_79 : mm_dec q123 79 = some (.iload_n 2) := by decide +kernel
theorem d123_80 : mm_dec q123 80 = some (.if_icmp .gt 11) := by decide +kernel
theorem d123_83 : mm_dec q123 83 = some (.iload_n 3) := by decide +kernel
theorem d123_84 : mm_dec q123 84 = some (.iload 6) := by decide +kernel
theorem d123_86 : mm_dec q123 86 = some (.iadd) := by decide +kernel
theorem d123_87 : mm_dec q123 87 = some (.istore_n 3) := by decide +kernel
theorem d123_88 : mm_dec q123 88 = some (.iinc 4 1) := by decide +kernel
theorem d123_91 : mm_dec q123 91 = some (.aload_n 0) := by decide +kernel
theorem d123_92 : mm_dec q123 92 = some (.getfield 98) := by decide +kernel
theorem d123_95 : mm_dec q123 95 = some (.invokevirtual 167) := by decide +kernel
theorem d123_98 : mm_dec q123 98 = some (.iload 4) := by decide +kernel
theorem d123_100 : mm_dec q123 100 = some (.iload_n 2) := by decide +kernel
theorem d123_101 : mm_dec q123 101 = some (.if_icmp .le 32) := by decide +kernel
theorem d123_104 : mm_dec q123 104 = some (.aload_n 0) := by decide +kernel
theorem d123_105 : mm_dec q123 105 = some (.getfield 98) := by decide +kernel
theorem d123_108 : mm_dec q123 108 = some (.getfield 247) := by decide +kernel
theorem d123_111 : mm_dec q123 111 = some (.getfield 186) := by decide +kernel
theorem d123_114 : mm_dec q123 114 = some (.iload_n 1) := by decide +kernel
theorem d123_115 : mm_dec q123 115 = some (.iaload) := by decide +kernel
theorem d123_116 : mm_dec q123 116 = some (.aload_n 0) := by decide +kernel
theorem d123_117 : mm_dec q123 117 = some (.getfield 69) := by decide +kernel
theorem d123_120 : mm_dec q123 120 = some (.getfield 186) := by decide +kernel
theorem d123_123 : mm_dec q123 123 = some (.iload_n 1) := by decide +kernel
theorem d123_124 : mm_dec q123 124 = some (.iaload) := by decide +kernel
theorem d123_125 : mm_dec q123 125 = some (.isub) := by decide +kernel
theorem d123_126 : mm_dec q123 126 = some (.iload_n 3) := by decide +kernel
theorem d123_127 : mm_dec q123 127 = some (.if_icmp .lt 6) := by decide +kernel
theorem d123_130 : mm_dec q123 130 = some (.iload 5) := by decide +kernel
theorem d123_132 : mm_dec q123 132 = some (.ireturn) := by decide +kernel
theorem d123_133 : mm_dec q123 133 = some (.iinc 5 1) := by decide +kernel
theorem d123_136 : mm_dec q123 136 = some (.goto (-92)) := by decide +kernel
theorem d123_139 : mm_dec q123 139 = some (.iconst (-1)) := by decide +kernel
theorem d123_140 : mm_dec q123 140 = some (.ireturn) := by decide +kernel
theorem d124_0 : mm_dec q124 0 = some (.aload_n 0) := by decide +kernel
theorem d124_1 : mm_dec q124 1 = some (.invokevirtual 189) := by decide +kernel
theorem d124_4 : mm_dec q124 4 = some (.ifCond .eq 29) := by decide +kernel
theorem d124_7 : mm_dec q124 7 = some (.aload_n 0) := by decide +kernel
theorem d124_8 : mm_dec q124 8 = some (.getfield 28) := by decide +kernel
theorem d124_11 : mm_dec q124 11 = some (.getfield 329) := by decide +kernel
theorem d124_14 : mm_dec q124 14 = some (.ifCond .eq 19) := by decide +kernel
theorem d124_17 : mm_dec q124 17 = some (.iload_n 1) := by decide +kernel
theorem d124_18 : mm_dec q124 18 = some (.invokestatic 210) := by decide +kernel
theorem d124_21 : mm_dec q124 21 = some (.ifCond .eq 12) := by decide +kernel
theorem d124_24 : mm_dec q124 24 = some (.iload_n 2) := by decide +kernel
theorem d124_25 : mm_dec q124 25 = some (.ifCond .lt 8) := by decide +kernel
theorem d124_28 : mm_dec q124 28 = some (.iload_n 2) := by decide +kernel
theorem d124_29 : mm_dec q124 29 = some (.iconst 1) := by decide +kernel
theorem d124_30 : mm_dec q124 30 = some (.if_icmp .le 5) := by decide +kernel
theorem d124_33 : mm_dec q124 33 = some (.iconst (-1)) := by decide +kernel
theorem d124_34 : mm_dec q124 34 = some (.ireturn) := by decide +kernel
theorem d124_35 : mm_dec q124 35 = some (.aload_n 0) := by decide +kernel
theorem d124_36 : mm_dec q124 36 = some (.getfield 98) := by decide +kernel
theorem d124_39 : mm_dec q124 39 = some (.aload_n 0) := by decide +kernel
theorem d124_40 : mm_dec q124 40 = some (.getfield 69) := by decide +kernel
theorem d124_43 : mm_dec q124 43 = some (.iload_n 1) := by decide +kernel
theorem d124_44 : mm_dec q124 44 = some (.invokevirtual 163) := by decide +kernel
theorem d124_47 : mm_dec q124 47 = some (.iconst 0) := by decide +kernel
theorem d124_48 : mm_dec q124 48 = some (.istore_n 3) := by decide +kernel
theorem d124_49 : mm_dec q124 49 = some (.iload_n 3) := by decide +kernel
theorem d124_50 : mm_dec q124 50 = some (.bipush 10) := by decide +kernel
theorem d124_52 : mm_dec q124 52 = some (.if_icmp .ge 48) := by decide +kernel
theorem d124_55 : mm_dec q124 55 = some (.aload_n 0) := by decide +kernel
theorem d124_56 : mm_dec q124 56 = some (.getfield 98) := by decide +kernel
theorem d124_59 : mm_dec q124 59 = some (.invokevirtual 270) := by decide +kernel
theorem d124_62 : mm_dec q124 62 = some (.aload_n 0) := by decide +kernel
theorem d124_63 : mm_dec q124 63 = some (.getfield 98) := by decide +kernel
theorem d124_66 : mm_dec q124 66 = some (.aload_n 0) := by decide +kernel
theorem d124_67 : mm_dec q124 67 = some (.getfield 28) := by decide +kernel
theorem d124_70 : mm_dec q124 70 = some (.iload_n 3) := by decide +kernel
theorem d124_71 : mm_dec q124 71 = some (.invokevirtual 227) := by decide +kernel
theorem d124_74 : mm_dec q124 74 = some (.putfield 332) := by decide +kernel
theorem d124_77 : mm_dec q124 77 = some (.aload_n 0) := by decide +kernel
theorem d124_78 : mm_dec q124 78 = some (.getfield 98) := by decide +kernel
theorem d124_81 : mm_dec q124 81 = some (.iload_n 3) := by decide +kernel
theorem d124_82 : mm_dec q124 82 = some (.aload_n 0) := by decide +kernel
theorem d124_83 : mm_dec q124 83 = some (.getfield 98) := by decide +kernel
theorem d124_86 : mm_dec q124 86 = some (.iconst 0) := by decide +kernel
theorem d124_87 : mm_dec q124 87 = some (.iload_n 1) := by decide +kernel
theorem d124_88 : mm_dec q124 88 = some (.invokevirtual 250) := by decide +kernel
theorem d124_91 : mm_dec q124 91 = some (.invokevirtual 278) := by decide +kernel
theorem d124_94 : mm_dec q124 94 = some (.iinc 3 1) := by decide +kernel
theorem d124_97 : mm_dec q124 97 = some (.goto (-48)) := by decide +kernel
theorem d124_100 : mm_dec q124 100 = some (.iload_n 2) := by decide +kernel
theorem d124_101 : mm_dec q124 101 = some (.ifCond .ne 13) := by decide +kernel
theorem d124_104 : mm_dec q124 104 = some (.aload_n 0) := by decide +kernel
theorem d124_105 : mm_dec q124 105 = some (.getfield 98) := by decide +kernel
theorem d124_108 : mm_dec q124 108 = some (.getfield 282) := by decide +kernel
theorem d124_111 : mm_dec q124 111 = some (.goto 10) := by decide +kernel
theorem d124_114 : mm_dec q124 114 = some (.aload_n 0) := by decide +kernel
theorem d124_115 : mm_dec q124 115 = some (.getfield 98) := by decide +kernel
theorem d124_118 : mm_dec q124 118 = some (.getfield 285) := by decide +kernel
theorem d124_121 : mm_dec q124 121 = some (.ireturn) := by decide +kernel
theorem d125_0 : mm_dec q125 0 = some (.aload_n 0) := by decide +kernel
theorem d125_1 : mm_dec q125 1 = some (.invokevirtual 189) := by decide +kernel
theorem d125_4 : mm_dec q125 4 = some (.ifCond .ne 5) := by decide +kernel
theorem d125_7 : mm_dec q125 7 = some (.iconst (-1)) := by decide +kernel
theorem d125_8 : mm_dec q125 8 = some (.ireturn) := by decide +kernel
theorem d125_9 : mm_dec q125 9 = some (.aload_n 0) := by decide +kernel
theorem d125_10 : mm_dec q125 10 = some (.getfield 76) := by decide +kernel
theorem d125_13 : mm_dec q125 13 = some (.aload_n 0) := by decide +kernel
theorem d125_14 : mm_dec q125 14 = some (.getfield 69) := by decide +kernel
theorem d125_17 : mm_dec q125 17 = some (.invokevirtual 334) := by decide +kernel
theorem d125_20 : mm_dec q125 20 = some (.aload_n 0) := by decide +kernel
theorem d125_21 : mm_dec q125 21 = some (.iconst 1) := by decide +kernel
theorem d125_22 : mm_dec q125 22 = some (.putfield 135) := by decide +kernel
theorem d125_25 : mm_dec q125 25 = some (.aload_n 0) := by decide +kernel
theorem d125_26 : mm_dec q125 26 = some (.getfield 69) := by decide +kernel
theorem d125_29 : mm_dec q125 29 = some (.getfield 217) := by decide +kernel
theorem d125_32 : mm_dec q125 32 = some (.ireturn) := by decide +kernel
theorem d126_0 : mm_dec q126 0 = some (.aload_n 0) := by decide +kernel
theorem d126_1 : mm_dec q126 1 = some (.invokevirtual 189) := by decide +kernel
theorem d126_4 : mm_dec q126 4 = some (.ifCond .eq 10) := by decide +kernel
theorem d126_7 : mm_dec q126 7 = some (.aload_n 0) := by decide +kernel
theorem d126_8 : mm_dec q126 8 = some (.getfield 135) := by decide +kernel
theorem d126_11 : mm_dec q126 11 = some (.ifCond .ne 5) := by decide +kernel
theorem d126_14 : mm_dec q126 14 = some (.iconst (-1)) := by decide +kernel
theorem d126_15 : mm_dec q126 15 = some (.ireturn) := by decide +kernel
theorem d126_16 : mm_dec q126 16 = some (.aload_n 0) := by decide +kernel
theorem d126_17 : mm_dec q126 17 = some (.getfield 69) := by decide +kernel
theorem d126_20 : mm_dec q126 20 = some (.aload_n 0) := by decide +kernel
theorem d126_21 : mm_dec q126 21 = some (.getfield 76) := by decide +kernel
theorem d126_24 : mm_dec q126 24 = some (.invokevirtual 334) := by decide +kernel
theorem d126_27 : mm_dec q126 27 = some (.aload_n 0) := by decide +kernel
theorem d126_28 : mm_dec q126 28 = some (.getfield 82) := by decide +kernel
theorem d126_31 : mm_dec q126 31 = some (.invokevirtual 131) := by decide +kernel
theorem d126_34 : mm_dec q126 34 = some (.aload_n 0) := by decide +kernel
theorem d126_35 : mm_dec q126 35 = some (.getfield 69) := by decide +kernel
theorem d126_38 : mm_dec q126 38 = some (.getfield 217) := by decide +kernel
theorem d126_41 : mm_dec q126 41 = some (.ireturn) := by decide +kernel
theorem d127_0 : mm_dec q127 0 = some (.iload_n 1) := by decide +kernel
theorem d127_1 : mm_dec q127 1 = some (.tableswitch 119 0 7 #[47, 55, 63, 68, 76, 84, 103, 111]) := by decide +kernel
theorem d127_48 : mm_dec q127 48 = some (.aload_n 0) := by decide +kernel
theorem d127_49 : mm_dec q127 49 = some (.getfield 28) := by decide +kernel
theorem d127_52 : mm_dec q127 52 = some (.getfield 139) := by decide +kernel
theorem d127_55 : mm_dec q127 55 = some (.ireturn) := by decide +kernel
theorem d127_56 : mm_dec q127 56 = some (.aload_n 0) := by decide +kernel
theorem d127_57 : mm_dec q127 57 = some (.getfield 28) := by decide +kernel
theorem d127_60 : mm_dec q127 60 = some (.getfield 336) := by decide +kernel
theorem d127_63 : mm_dec q127 63 = some (.ireturn) := by decide +kernel
theorem d127_64 : mm_dec q127 64 = some (.aload_n 0) := by decide +kernel
theorem d127_65 : mm_dec q127 65 = some (.getfield 142) := by decide +kernel
theorem d127_68 : mm_dec q127 68 = some (.ireturn) := by decide +kernel
theorem d127_69 : mm_dec q127 69 = some (.aload_n 0) := by decide +kernel
theorem d127_70 : mm_dec q127 70 = some (.getfield 12) := by decide +kernel
theorem d127_73 : mm_dec q127 73 = some (.getfield 106) := by decide +kernel
theorem d127_76 : mm_dec q127 76 = some (.ireturn) := by decide +kernel
theorem d127_77 : mm_dec q127 77 = some (.aload_n 0) := by decide +kernel
theorem d127_78 : mm_dec q127 78 = some (.getfield 69) := by decide +kernel
theorem d127_81 : mm_dec q127 81 = some (.getfield 217) := by decide +kernel
theorem d127_84 : mm_dec q127 84 = some (.ireturn) := by decide +kernel
theorem d127_85 : mm_dec q127 85 = some (.aload_n 0) := by decide +kernel
theorem d127_86 : mm_dec q127 86 = some (.invokevirtual 189) := by decide +kernel
theorem d127_89 : mm_dec q127 89 = some (.ifCond .eq 13) := by decide +kernel
theorem d127_92 : mm_dec q127 92 = some (.aload_n 0) := by decide +kernel
theorem d127_93 : mm_dec q127 93 = some (.getfield 28) := by decide +kernel
theorem d127_96 : mm_dec q127 96 = some (.invokevirtual 224) := by decide +kernel
theorem d127_99 : mm_dec q127 99 = some (.goto 4) := by decide +kernel
theorem d127_102 : mm_dec q127 102 = some (.iconst 0) := by decide +kernel
theorem d127_103 : mm_dec q127 103 = some (.ireturn) := by decide +kernel
theorem d127_104 : mm_dec q127 104 = some (.aload_n 0) := by decide +kernel
theorem d127_105 : mm_dec q127 105 = some (.getfield 89) := by decide +kernel
theorem d127_108 : mm_dec q127 108 = some (.getfield 294) := by decide +kernel
theorem d127_111 : mm_dec q127 111 = some (.ireturn) := by decide +kernel
theorem d127_112 : mm_dec q127 112 = some (.aload_n 0) := by decide +kernel
theorem d127_113 : mm_dec q127 113 = some (.getfield 82) := by decide +kernel
theorem d127_116 : mm_dec q127 116 = some (.getfield 339) := by decide +kernel
theorem d127_119 : mm_dec q127 119 = some (.ireturn) := by decide +kernel
theorem d127_120 : mm_dec q127 120 = some (.ldc_w 277) := by decide +kernel
theorem d127_123 : mm_dec q127 123 = some (.ireturn) := by decide +kernel
theorem d128_0 : mm_dec q128 0 = some (.aload_n 0) := by decide +kernel
theorem d128_1 : mm_dec q128 1 = some (.getfield 28) := by decide +kernel
theorem d128_4 : mm_dec q128 4 = some (.getfield 139) := by decide +kernel
theorem d128_7 : mm_dec q128 7 = some (.ifCond .le 7) := by decide +kernel
theorem d128_10 : mm_dec q128 10 = some (.iconst 1) := by decide +kernel
theorem d128_11 : mm_dec q128 11 = some (.goto 4) := by decide +kernel
theorem d128_14 : mm_dec q128 14 = some (.iconst 0) := by decide +kernel
theorem d128_15 : mm_dec q128 15 = some (.ireturn) := by decide +kernel
theorem d129_0 : mm_dec q129 0 = some (.iload_n 1) := by decide +kernel
theorem d129_1 : mm_dec q129 1 = some (.ifCond .lt 24) := by decide +kernel
theorem d129_4 : mm_dec q129 4 = some (.iload_n 1) := by decide +kernel
theorem d129_5 : mm_dec q129 5 = some (.aload_n 0) := by decide +kernel
theorem d129_6 : mm_dec q129 6 = some (.getfield 28) := by decide +kernel
theorem d129_9 : mm_dec q129 9 = some (.getfield 139) := by decide +kernel
theorem d129_12 : mm_dec q129 12 = some (.if_icmp .ge 13) := by decide +kernel
theorem d129_15 : mm_dec q129 15 = some (.iload_n 1) := by decide +kernel
theorem d129_16 : mm_dec q129 16 = some (.bipush 6) := by decide +kernel
theorem d129_18 : mm_dec q129 18 = some (.if_icmp .ge 7) := by decide +kernel
theorem d129_21 : mm_dec q129 21 = some (.iconst 1) := by decide +kernel
theorem d129_22 : mm_dec q129 22 = some (.goto 4) := by decide +kernel
theorem d129_25 : mm_dec q129 25 = some (.iconst 0) := by decide +kernel
theorem d129_26 : mm_dec q129 26 = some (.ireturn) := by decide +kernel
theorem d130_0 : mm_dec q130 0 = some (.aload_n 0) := by decide +kernel
theorem d130_1 : mm_dec q130 1 = some (.iload_n 1) := by decide +kernel
theorem d130_2 : mm_dec q130 2 = some (.invokevirtual 148) := by decide +kernel
theorem d130_5 : mm_dec q130 5 = some (.ifCond .eq 19) := by decide +kernel
theorem d130_8 : mm_dec q130 8 = some (.aload_n 0) := by decide +kernel
theorem d130_9 : mm_dec q130 9 = some (.getfield 28) := by decide +kernel
theorem d130_12 : mm_dec q130 12 = some (.getfield 159) := by decide +kernel
theorem d130_15 : mm_dec q130 15 = some (.iload_n 1) := by decide +kernel
theorem d130_16 : mm_dec q130 16 = some (.aaload) := by decide +kernel
theorem d130_17 : mm_dec q130 17 = some (.ifnonnull 7) := by decide +kernel
theorem d130_20 : mm_dec q130 20 = some (.iconst 1) := by decide +kernel
theorem d130_21 : mm_dec q130 21 = some (.goto 4) := by decide +kernel
theorem d130_24 : mm_dec q130 24 = some (.iconst 0) := by decide +kernel
theorem d130_25 : mm_dec q130 25 = some (.ireturn) := by decide +kernel
theorem d131_0 : mm_dec q131 0 = some (.iload_n 1) := by decide +kernel
theorem d131_1 : mm_dec q131 1 = some (.ifCond .lt 23) := by decide +kernel
theorem d131_4 : mm_dec q131 4 = some (.iload_n 1) := by decide +kernel
theorem d131_5 : mm_dec q131 5 = some (.aload_n 0) := by decide +kernel
theorem d131_6 : mm_dec q131 6 = some (.getfield 28) := by decide +kernel
theorem d131_9 : mm_dec q131 9 = some (.getfield 336) := by decide +kernel
theorem d131_12 : mm_dec q131 12 = some (.if_icmp .ge 12) := by decide +kernel
theorem d131_15 : mm_dec q131 15 = some (.iload_n 1) := by decide +kernel
theorem d131_16 : mm_dec q131 16 = some (.iconst 2) := by decide +kernel
theorem d131_17 : mm_dec q131 17 = some (.if_icmp .ge 7) := by decide +kernel
theorem d131_20 : mm_dec q131 20 = some (.iconst 1) := by decide +kernel
theorem d131_21 : mm_dec q131 21 = some (.goto 4) := by decide +kernel
theorem d131_24 : mm_dec q131 24 = some (.iconst 0) := by decide +kernel
theorem d131_25 : mm_dec q131 25 = some (.ireturn) := by decide +kernel
theorem d132_0 : mm_dec q132 0 = some (.iload_n 0) := by decide +kernel
theorem d132_1 : mm_dec q132 1 = some (.iconst 1) := by decide +kernel
theorem d132_2 : mm_dec q132 2 = some (.if_icmp .lt 14) := by decide +kernel
theorem d132_5 : mm_dec q132 5 = some (.iload_n 0) := by decide +kernel
theorem d132_6 : mm_dec q132 6 = some (.sipush 240) := by decide +kernel
theorem d132_9 : mm_dec q132 9 = some (.if_icmp .gt 7) := by decide +kernel
theorem d132_12 : mm_dec q132 12 = some (.iconst 1) := by decide +kernel
theorem d132_13 : mm_dec q132 13 = some (.goto 4) := by decide +kernel
theorem d132_16 : mm_dec q132 16 = some (.iconst 0) := by decide +kernel
theorem d132_17 : mm_dec q132 17 = some (.ireturn) := by decide +kernel
theorem d133_0 : mm_dec q133 0 = some (.iload_n 0) := by decide +kernel
theorem d133_1 : mm_dec q133 1 = some (.iload_n 1) := by decide +kernel
theorem d133_2 : mm_dec q133 2 = some (.if_icmp .lt 12) := by decide +kernel
theorem d133_5 : mm_dec q133 5 = some (.iload_n 0) := by decide +kernel
theorem d133_6 : mm_dec q133 6 = some (.iload_n 2) := by decide +kernel
theorem d133_7 : mm_dec q133 7 = some (.if_icmp .gt 7) := by decide +kernel
theorem d133_10 : mm_dec q133 10 = some (.iconst 1) := by decide +kernel
theorem d133_11 : mm_dec q133 11 = some (.goto 4) := by decide +kernel
theorem d133_14 : mm_dec q133 14 = some (.iconst 0) := by decide +kernel
theorem d133_15 : mm_dec q133 15 = some (.ireturn) := by decide +kernel
theorem d134_0 : mm_dec q134 0 = some (.iload_n 0) := by decide +kernel
theorem d134_1 : mm_dec q134 1 = some (.iload_n 1) := by decide +kernel
theorem d134_2 : mm_dec q134 2 = some (.ishr) := by decide +kernel
theorem d134_3 : mm_dec q134 3 = some (.iconst 1) := by decide +kernel
theorem d134_4 : mm_dec q134 4 = some (.iand) := by decide +kernel
theorem d134_5 : mm_dec q134 5 = some (.iconst 1) := by decide +kernel
theorem d134_6 : mm_dec q134 6 = some (.if_icmp .ne 7) := by decide +kernel
theorem d134_9 : mm_dec q134 9 = some (.iconst 1) := by decide +kernel
theorem d134_10 : mm_dec q134 10 = some (.goto 4) := by decide +kernel
theorem d134_13 : mm_dec q134 13 = some (.iconst 0) := by decide +kernel
theorem d134_14 : mm_dec q134 14 = some (.ireturn) := by decide +kernel
theorem d135_0 : mm_dec q135 0 = some (.aload_n 0) := by decide +kernel
theorem d135_1 : mm_dec q135 1 = some (.invokespecial 3) := by decide +kernel
theorem d135_4 : mm_dec q135 4 = some (.aload_n 0) := by decide +kernel
theorem d135_5 : mm_dec q135 5 = some (.sipush 160) := by decide +kernel
theorem d135_8 : mm_dec q135 8 = some (.newarray .int) := by decide +kernel
theorem d135_10 : mm_dec q135 10 = some (.putfield 9) := by decide +kernel
theorem d135_13 : mm_dec q135 13 = some (.aload_n 0) := by decide +kernel
theorem d135_14 : mm_dec q135 14 = some (.sipush 1700) := by decide +kernel
theorem d135_17 : mm_dec q135 17 = some (.newarray .int) := by decide +kernel
theorem d135_19 : mm_dec q135 19 = some (.putfield 13) := by decide +kernel
theorem d135_22 : mm_dec q135 22 = some (.aload_n 0) := by decide +kernel
theorem d135_23 : mm_dec q135 23 = some (.sipush 1700) := by decide +kernel
theorem d135_26 : mm_dec q135 26 = some (.newarray .int) := by decide +kernel
theorem d135_28 : mm_dec q135 28 = some (.putfield 16) := by decide +kernel
theorem d135_31 : mm_dec q135 31 = some (.aload_n 0) := by decide +kernel
theorem d135_32 : mm_dec q135 32 = some (.iconst 5) := by decide +kernel
theorem d135_33 : mm_dec q135 33 = some (.newarray .int) := by decide +kernel
theorem d135_35 : mm_dec q135 35 = some (.putfield 19) := by decide +kernel
theorem d135_38 : mm_dec q135 38 = some (.aload_n 0) := by decide +kernel
theorem d135_39 : mm_dec q135 39 = some (.iconst 5) := by decide +kernel
theorem d135_40 : mm_dec q135 40 = some (.newarray .int) := by decide +kernel
theorem d135_42 : mm_dec q135 42 = some (.putfield 22) := by decide +kernel
theorem d135_45 : mm_dec q135 45 = some (.aload_n 0) := by decide +kernel
theorem d135_46 : mm_dec q135 46 = some (.sipush 450) := by decide +kernel
theorem d135_49 : mm_dec q135 49 = some (.newarray .int) := by decide +kernel
theorem d135_51 : mm_dec q135 51 = some (.putfield 25) := by decide +kernel
theorem d135_54 : mm_dec q135 54 = some (.aload_n 0) := by decide +kernel
theorem d135_55 : mm_dec q135 55 = some (.sipush 450) := by decide +kernel
theorem d135_58 : mm_dec q135 58 = some (.newarray .int) := by decide +kernel
theorem d135_60 : mm_dec q135 60 = some (.putfield 28) := by decide +kernel
theorem d135_63 : mm_dec q135 63 = some (.aload_n 0) := by decide +kernel
theorem d135_64 : mm_dec q135 64 = some (.sipush 450) := by decide +kernel
theorem d135_67 : mm_dec q135 67 = some (.newarray .int) := by decide +kernel
theorem d135_69 : mm_dec q135 69 = some (.putfield 31) := by decide +kernel
theorem d135_72 : mm_dec q135 72 = some (.aload_n 0) := by decide +kernel
theorem d135_73 : mm_dec q135 73 = some (.bipush 6) := by decide +kernel
theorem d135_75 : mm_dec q135 75 = some (.newarray .int) := by decide +kernel
theorem d135_77 : mm_dec q135 77 = some (.putfield 34) := by decide +kernel
theorem d135_80 : mm_dec q135 80 = some (.aload_n 0) := by decide +kernel
theorem d135_81 : mm_dec q135 81 = some (.bipush 80) := by decide +kernel
theorem d135_83 : mm_dec q135 83 = some (.newarray .int) := by decide +kernel
theorem d135_85 : mm_dec q135 85 = some (.putfield 37) := by decide +kernel
theorem d135_88 : mm_dec q135 88 = some (.aload_n 0) := by decide +kernel
theorem d135_89 : mm_dec q135 89 = some (.bipush 24) := by decide +kernel
theorem d135_91 : mm_dec q135 91 = some (.newarray .int) := by decide +kernel
theorem d135_93 : mm_dec q135 93 = some (.putfield 40) := by decide +kernel
theorem d135_96 : mm_dec q135 96 = some (.aload_n 0) := by decide +kernel
theorem d135_97 : mm_dec q135 97 = some (.iconst 4) := by decide +kernel
theorem d135_98 : mm_dec q135 98 = some (.newarray .int) := by decide +kernel
theorem d135_100 : mm_dec q135 100 = some (.putfield 43) := by decide +kernel
theorem d135_103 : mm_dec q135 103 = some (.aload_n 0) := by decide +kernel
theorem d135_104 : mm_dec q135 104 = some (.bipush 6) := by decide +kernel
theorem d135_106 : mm_dec q135 106 = some (.newarray .int) := by decide +kernel
theorem d135_108 : mm_dec q135 108 = some (.putfield 46) := by decide +kernel
theorem d135_111 : mm_dec q135 111 = some (.aload_n 0) := by decide +kernel
theorem d135_112 : mm_dec q135 112 = some (.bipush 24) := by decide +kernel
theorem d135_114 : mm_dec q135 114 = some (.newarray .int) := by decide +kernel
theorem d135_116 : mm_dec q135 116 = some (.putfield 49) := by decide +kernel
theorem d135_119 : mm_dec q135 119 = some (.aload_n 0) := by decide +kernel
theorem d135_120 : mm_dec q135 120 = some (.iconst 4) := by decide +kernel
theorem d135_121 : mm_dec q135 121 = some (.newarray .int) := by decide +kernel
theorem d135_123 : mm_dec q135 123 = some (.putfield 52) := by decide +kernel
theorem d135_126 : mm_dec q135 126 = some (.aload_n 0) := by decide +kernel
theorem d135_127 : mm_dec q135 127 = some (.bipush 6) := by decide +kernel
theorem d135_129 : mm_dec q135 129 = some (.newarray .int) := by decide +kernel
theorem d135_131 : mm_dec q135 131 = some (.putfield 55) := by decide +kernel
theorem d135_134 : mm_dec q135 134 = some (.aload_n 0) := by decide +kernel
theorem d135_135 : mm_dec q135 135 = some (.bipush 6) := by decide +kernel
theorem d135_137 : mm_dec q135 137 = some (.newarray .int) := by decide +kernel
theorem d135_139 : mm_dec q135 139 = some (.putfield 58) := by decide +kernel
theorem d135_142 : mm_dec q135 142 = some (.aload_n 0) := by decide +kernel
theorem d135_143 : mm_dec q135 143 = some (.iconst 2) := by decide +kernel
theorem d135_144 : mm_dec q135 144 = some (.newarray .int) := by decide +kernel
theorem d135_146 : mm_dec q135 146 = some (.putfield 61) := by decide +kernel
theorem d135_149 : mm_dec q135 149 = some (.aload_n 0) := by decide +kernel
theorem d135_150 : mm_dec q135 150 = some (.iconst 2) := by decide +kernel
theorem d135_151 : mm_dec q135 151 = some (.newarray .int) := by decide +kernel
theorem d135_153 : mm_dec q135 153 = some (.putfield 64) := by decide +kernel
theorem d135_156 : mm_dec q135 156 = some (.aload_n 0) := by decide +kernel
theorem d135_157 : mm_dec q135 157 = some (.iconst 2) := by decide +kernel
theorem d135_158 : mm_dec q135 158 = some (.newarray .boolean) := by decide +kernel
theorem d135_160 : mm_dec q135 160 = some (.putfield 67) := by decide +kernel
theorem d135_163 : mm_dec q135 163 = some (.aload_n 0) := by decide +kernel
theorem d135_164 : mm_dec q135 164 = some (.bipush 120) := by decide +kernel
theorem d135_166 : mm_dec q135 166 = some (.newarray .int) := by decide +kernel
theorem d135_168 : mm_dec q135 168 = some (.putfield 71) := by decide +kernel
theorem d135_171 : mm_dec q135 171 = some (.aload_n 0) := by decide +kernel
theorem d135_172 : mm_dec q135 172 = some (.bipush 120) := by decide +kernel
theorem d135_174 : mm_dec q135 174 = some (.newarray .int) := by decide +kernel
theorem d135_176 : mm_dec q135 176 = some (.putfield 74) := by decide +kernel
theorem d135_179 : mm_dec q135 179 = some (.aload_n 0) := by decide +kernel
theorem d135_180 : mm_dec q135 180 = some (.bipush 60) := by decide +kernel
theorem d135_182 : mm_dec q135 182 = some (.newarray .long) := by decide +kernel
theorem d135_184 : mm_dec q135 184 = some (.putfield 77) := by decide +kernel
theorem d135_187 : mm_dec q135 187 = some (.aload_n 0) := by decide +kernel
theorem d135_188 : mm_dec q135 188 = some (.iconst 2) := by decide +kernel
theorem d135_189 : mm_dec q135 189 = some (.newarray .int) := by decide +kernel
theorem d135_191 : mm_dec q135 191 = some (.putfield 81) := by decide +kernel
theorem d135_194 : mm_dec q135 194 = some (.aload_n 0) := by decide +kernel
theorem d135_195 : mm_dec q135 195 = some (.iconst 2) := by decide +kernel
theorem d135_196 : mm_dec q135 196 = some (.newarray .int) := by decide +kernel
theorem d135_198 : mm_dec q135 198 = some (.putfield 84) := by decide +kernel
theorem d135_201 : mm_dec q135 201 = some (.aload_n 0) := by decide +kernel
theorem d135_202 : mm_dec q135 202 = some (.bipush 20) := by decide +kernel
theorem d135_204 : mm_dec q135 204 = some (.newarray .int) := by decide +kernel
theorem d135_206 : mm_dec q135 206 = some (.putfield 87) := by decide +kernel
theorem d135_209 : mm_dec q135 209 = some (.aload_n 0) := by decide +kernel
theorem d135_210 : mm_dec q135 210 = some (.bipush 20) := by decide +kernel
theorem d135_212 : mm_dec q135 212 = some (.newarray .boolean) := by decide +kernel
theorem d135_214 : mm_dec q135 214 = some (.putfield 90) := by decide +kernel
theorem d135_217 : mm_dec q135 217 = some (.aload_n 0) := by decide +kernel
theorem d135_218 : mm_dec q135 218 = some (.sipush 541) := by decide +kernel
theorem d135_221 : mm_dec q135 221 = some (.newarray .boolean) := by decide +kernel
theorem d135_223 : mm_dec q135 223 = some (.putfield 93) := by decide +kernel
theorem d135_226 : mm_dec q135 226 = some (.aload_n 0) := by decide +kernel
theorem d135_227 : mm_dec q135 227 = some (.bipush 22) := by decide +kernel
theorem d135_229 : mm_dec q135 229 = some (.newarray .int) := by decide +kernel
theorem d135_231 : mm_dec q135 231 = some (.putfield 96) := by decide +kernel
theorem d135_234 : mm_dec q135 234 = some (.aload_n 0) := by decide +kernel
theorem d135_235 : mm_dec q135 235 = some (.iconst 4) := by decide +kernel
theorem d135_236 : mm_dec q135 236 = some (.newarray .int) := by decide +kernel
theorem d135_238 : mm_dec q135 238 = some (.putfield 99) := by decide +kernel
theorem d135_241 : mm_dec q135 241 = some (.return_) := by decide +kernel
theorem d136_0 : mm_dec q136 0 = some (.aload_n 0) := by decide +kernel
theorem d136_1 : mm_dec q136 1 = some (.getfield 102) := by decide +kernel
theorem d136_4 : mm_dec q136 4 = some (.ireturn) := by decide +kernel
theorem d137_0 : mm_dec q137 0 = some (.iload 5) := by decide +kernel
theorem d137_2 : mm_dec q137 2 = some (.iconst 4) := by decide +kernel
theorem d137_3 : mm_dec q137 3 = some (.if_icmp .ge 7) := by decide +kernel
theorem d137_6 : mm_dec q137 6 = some (.iload_n 0) := by decide +kernel
theorem d137_7 : mm_dec q137 7 = some (.goto 38) := by decide +kernel
theorem d137_10 : mm_dec q137 10 = some (.iload 5) := by decide +kernel
theorem d137_12 : mm_dec q137 12 = some (.bipush 8) := by decide +kernel
theorem d137_14 : mm_dec q137 14 = some (.if_icmp .ge 7) := by decide +kernel
theorem d137_17 : mm_dec q137 17 = some (.iload_n 1) := by decide +kernel
theorem d137_18 : mm_dec q137 18 = some (.goto 27) := by decide +kernel
theorem d137_21 : mm_dec q137 21 = some (.iload 5) := by decide +kernel
theorem d137_23 : mm_dec q137 23 = some (.bipush 12) := by decide +kernel
theorem d137_25 : mm_dec q137 25 = some (.if_icmp .ge 7) := by decide +kernel
theorem d137_28 : mm_dec q137 28 = some (.iload_n 2) := by decide +kernel
theorem d137_29 : mm_dec q137 29 = some (.goto 16) := by decide +kernel
theorem d137_32 : mm_dec q137 32 = some (.iload 5) := by decide +kernel
theorem d137_34 : mm_dec q137 34 = some (.bipush 16) := by decide +kernel
theorem d137_36 : mm_dec q137 36 = some (.if_icmp .ge 7) := by decide +kernel
theorem d137_39 : mm_dec q137 39 = some (.iload_n 3) := by decide +kernel
theorem d137_40 : mm_dec q137 40 = some (.goto 5) := by decide +kernel
theorem d137_43 : mm_dec q137 43 = some (.iload 4) := by decide +kernel
theorem d137_45 : mm_dec q137 45 = some (.istore 6) := by decide +kernel
theorem d137_47 : mm_dec q137 47 = some (.iload 6) := by decide +kernel
theorem d137_49 : mm_dec q137 49 = some (.bipush 24) := by decide +kernel
theorem d137_51 : mm_dec q137 51 = some (.bipush 8) := by decide +kernel
theorem d137_53 : mm_dec q137 53 = some (.iload 5) := by decide +kernel
theorem d137_55 : mm_dec q137 55 = some (.iconst 4) := by decide +kernel
theorem d137_56 : mm_dec q137 56 = some (.irem) := by decide +kernel
theorem d137_57 : mm_dec q137 57 = some (.imul) := by decide +kernel
theorem d137_58 : mm_dec q137 58 = some (.isub) := by decide +kernel
theorem d137_59 : mm_dec q137 59 = some (.ishr) := by decide +kernel
theorem d137_60 : mm_dec q137 60 = some (.sipush 255) := by decide +kernel
theorem d137_63 : mm_dec q137 63 = some (.iand) := by decide +kernel
theorem d137_64 : mm_dec q137 64 = some (.ireturn) := by decide +kernel
theorem d138_0 : mm_dec q138 0 = some (.iconst 0) := by decide +kernel
theorem d138_1 : mm_dec q138 1 = some (.istore 6) := by decide +kernel
theorem d138_3 : mm_dec q138 3 = some (.iconst 0) := by decide +kernel
theorem d138_4 : mm_dec q138 4 = some (.istore 7) := by decide +kernel
theorem d138_6 : mm_dec q138 6 = some (.iload 7) := by decide +kernel
theorem d138_8 : mm_dec q138 8 = some (.bipush 20) := by decide +kernel
theorem d138_10 : mm_dec q138 10 = some (.if_icmp .ge 34) := by decide +kernel
theorem d138_13 : mm_dec q138 13 = some (.iload 6) := by decide +kernel
theorem d138_15 : mm_dec q138 15 = some (.iload_n 1) := by decide +kernel
theorem d138_16 : mm_dec q138 16 = some (.iload_n 2) := by decide +kernel
theorem d138_17 : mm_dec q138 17 = some (.iload_n 3) := by decide +kernel
theorem d138_18 : mm_dec q138 18 = some (.iload 4) := by decide +kernel
theorem d138_20 : mm_dec q138 20 = some (.iload 5) := by decide +kernel
theorem d138_22 : mm_dec q138 22 = some (.iload 7) := by decide +kernel
theorem d138_24 : mm_dec q138 24 = some (.invokestatic 106) := by decide +kernel
theorem d138_27 : mm_dec q138 27 = some (.ifCond .eq 7) := by decide +kernel
theorem d138_30 : mm_dec q138 30 = some (.iconst 1) := by decide +kernel
theorem d138_31 : mm_dec q138 31 = some (.goto 4) := by decide +kernel
theorem d138_34 : mm_dec q138 34 = some (.iconst 0) := by decide +kernel
theorem d138_35 : mm_dec q138 35 = some (.iadd) := by decide +kernel
theorem d138_36 : mm_dec q138 36 = some (.istore 6) := by decide +kernel
theorem d138_38 : mm_dec q138 38 = some (.iinc 7 1) := by decide +kernel
theorem d138_41 : mm_dec q138 41 = some (.goto (-35)) := by decide +kernel
theorem d138_44 : mm_dec q138 44 = some (.aload_n 0) := by decide +kernel
theorem d138_45 : mm_dec q138 45 = some (.getfield 110) := by decide +kernel
theorem d138_48 : mm_dec q138 48 = some (.iload 6) := by decide +kernel
theorem d138_50 : mm_dec q138 50 = some (.iadd) := by decide +kernel
theorem d138_51 : mm_dec q138 51 = some (.sipush 160) := by decide +kernel
theorem d138_54 : mm_dec q138 54 = some (.if_icmp .le 5) := by decide +kernel
theorem d138_57 : mm_dec q138 57 = some (.iconst (-1)) := by decide +kernel
theorem d138_58 : mm_dec q138 58 = some (.ireturn) := by decide +kernel
theorem d138_59 : mm_dec q138 59 = some (.iconst 0) := by decide +kernel
theorem d138_60 : mm_dec q138 60 = some (.istore 7) := by decide +kernel
theorem d138_62 : mm_dec q138 62 = some (.iload 7) := by decide +kernel
theorem d138_64 : mm_dec q138 64 = some (.bipush 20) := by decide +kernel
theorem d138_66 : mm_dec q138 66 = some (.if_icmp .ge 49) := by decide +kernel
theorem d138_69 : mm_dec q138 69 = some (.iload_n 1) := by decide +kernel
theorem d138_70 : mm_dec q138 70 = some (.iload_n 2) := by decide +kernel
theorem d138_71 : mm_dec q138 71 = some (.iload_n 3) := by decide +kernel
theorem d138_72 : mm_dec q138 72 = some (.iload 4) := by decide +kernel
theorem d138_74 : mm_dec q138 74 = some (.iload 5) := by decide +kernel
theorem d138_76 : mm_dec q138 76 = some (.iload 7) := by decide +kernel
theorem d138_78 : mm_dec q138 78 = some (.invokestatic 106) := by decide +kernel
theorem d138_81 : mm_dec q138 81 = some (.istore 8) := by decide +kernel
theorem d138_83 : mm_dec q138 83 = some (.iload 8) := by decide +kernel
theorem d138_85 : mm_dec q138 85 = some (.ifCond .eq 24) := by decide +kernel
theorem d138_88 : mm_dec q138 88 = some (.aload_n 0) := by decide +kernel
theorem d138_89 : mm_dec q138 89 = some (.getfield 9) := by decide +kernel
theorem d138_92 : mm_dec q138 92 = some (.aload_n 0) := by decide +kernel
theorem d138_93 : mm_dec q138 93 = some (.getfield 110) := by decide +kernel
theorem d138_96 : mm_dec q138 96 = some (.iload 8) := by decide +kernel
theorem d138_98 : mm_dec q138 98 = some (.iastore) := by decide +kernel
theorem d138_99 : mm_dec q138 99 = some (.aload_n 0) := by decide +kernel
theorem d138_100 : mm_dec q138 100 = some (.dup) := by decide +kernel
theorem d138_101 : mm_dec q138 101 = some (.getfield 110) := by decide +kernel
theorem d138_104 : mm_dec q138 104 = some (.iconst 1) := by decide +kernel
theorem d138_105 : mm_dec q138 105 = some (.iadd) := by decide +kernel
theorem d138_106 : mm_dec q138 106 = some (.putfield 110) := by decide +kernel
theorem d138_109 : mm_dec q138 109 = some (.iinc 7 1) := by decide +kernel
theorem d138_112 : mm_dec q138 112 = some (.goto (-50)) := by decide +kernel
theorem d138_115 : mm_dec q138 115 = some (.aload_n 0) := by decide +kernel
theorem d138_116 : mm_dec q138 116 = some (.getfield 110) := by decide +kernel
theorem d138_119 : mm_dec q138 119 = some (.ireturn) := by decide +kernel
theorem d139_0 : mm_dec q139 0 = some (.iload_n 1) := by decide +kernel
theorem d139_1 : mm_dec q139 1 = some (.ifCond .lt 11) := by decide +kernel
theorem d139_4 : mm_dec q139 4 = some (.iload_n 1) := by decide +kernel
theorem d139_5 : mm_dec q139 5 = some (.aload_n 0) := by decide +kernel
theorem d139_6 : mm_dec q139 6 = some (.getfield 110) := by decide +kernel
theorem d139_9 : mm_dec q139 9 = some (.if_icmp .le 5) := by decide +kernel
theorem d139_12 : mm_dec q139 12 = some (.iconst 0) := by decide +kernel
theorem d139_13 : mm_dec q139 13 = some (.ireturn) := by decide +kernel
theorem d139_14 : mm_dec q139 14 = some (.aload_n 0) := by decide +kernel
theorem d139_15 : mm_dec q139 15 = some (.iload_n 1) := by decide +kernel
theorem d139_16 : mm_dec q139 16 = some (.putfield 110) := by decide +kernel
theorem d139_19 : mm_dec q139 19 = some (.iconst 1) := by decide +kernel
theorem d139_20 : mm_dec q139 20 = some (.ireturn) := by decide +kernel
theorem d140_0 : mm_dec q140 0 = some (.aload_n 0) := by decide +kernel
theorem d140_1 : mm_dec q140 1 = some (.getfield 113) := by decide +kernel
theorem d140_4 : mm_dec q140 4 = some (.aload_n 0) := by decide +kernel
theorem d140_5 : mm_dec q140 5 = some (.getfield 110) := by decide +kernel
theorem d140_8 : mm_dec q140 8 = some (.if_icmp .ge 15) := by decide +kernel
theorem d140_11 : mm_dec q140 11 = some (.aload_n 0) := by decide +kernel
theorem d140_12 : mm_dec q140 12 = some (.getfield 9) := by decide +kernel
theorem d140_15 : mm_dec q140 15 = some (.aload_n 0) := by decide +kernel
theorem d140_16 : mm_dec q140 16 = some (.getfield 113) := by decide +kernel
theorem d140_19 : mm_dec q140 19 = some (.iaload) := by decide +kernel
theorem d140_20 : mm_dec q140 20 = some (.goto 4) := by decide +kernel
theorem d140_23 : mm_dec q140 23 = some (.iconst (-1)) := by decide +kernel
theorem d140_24 : mm_dec q140 24 = some (.ireturn) := by decide +kernel
theorem d141_0 : mm_dec q141 0 = some (.aload_n 0) := by decide +kernel
theorem d141_1 : mm_dec q141 1 = some (.invokevirtual 116) := by decide +kernel
theorem d141_4 : mm_dec q141 4 = some (.bipush 32) := by decide +kernel
theorem d141_6 : mm_dec q141 6 = some (.if_icmp .ne 16) := by decide +kernel
theorem d141_9 : mm_dec q141 9 = some (.aload_n 0) := by decide +kernel
theorem d141_10 : mm_dec q141 10 = some (.dup) := by decide +kernel
theorem d141_11 : mm_dec q141 11 = some (.getfield 113) := by decide +kernel
theorem d141_14 : mm_dec q141 14 = some (.iconst 1) := by decide +kernel
theorem d141_15 : mm_dec q141 15 = some (.iadd) := by decide +kernel
theorem d141_16 : mm_dec q141 16 = some (.putfield 113) := by decide +kernel
theorem d141_19 : mm_dec q141 19 = some (.goto (-19)) := by decide +kernel
theorem d141_22 : mm_dec q141 22 = some (.aload_n 0) := by decide +kernel
theorem d141_23 : mm_dec q141 23 = some (.invokevirtual 116) := by decide +kernel
theorem d141_26 : mm_dec q141 26 = some (.ireturn) := by decide +kernel
theorem d142_0 : mm_dec q142 0 = some (.aload_n 0) := by decide +kernel
theorem d142_1 : mm_dec q142 1 = some (.aload_n 0) := by decide +kernel
theorem d142_2 : mm_dec q142 2 = some (.getfield 120) := by decide +kernel
theorem d142_5 : mm_dec q142 5 = some (.iconst (-1)) := by decide +kernel
theorem d142_6 : mm_dec q142 6 = some (.if_icmp .ne 10) := by decide +kernel
theorem d142_9 : mm_dec q142 9 = some (.aload_n 0) := by decide +kernel
theorem d142_10 : mm_dec q142 10 = some (.getfield 113) := by decide +kernel
theorem d142_13 : mm_dec q142 13 = some (.goto 7) := by decide +kernel
theorem d142_16 : mm_dec q142 16 = some (.aload_n 0) := by decide +kernel
theorem d142_17 : mm_dec q142 17 = some (.getfield 120) := by decide +kernel
theorem d142_20 : mm_dec q142 20 = some (.putfield 120) := by decide +kernel
theorem d142_23 : mm_dec q142 23 = some (.return_) := by decide +kernel
theorem d143_0 : mm_dec q143 0 = some (.iload_n 0) := by decide +kernel
theorem d143_1 : mm_dec q143 1 = some (.bipush 48) := by decide +kernel
theorem d143_3 : mm_dec q143 3 = some (.if_icmp .lt 13) := by decide +kernel
theorem d143_6 : mm_dec q143 6 = some (.iload_n 0) := by decide +kernel
theorem d143_7 : mm_dec q143 7 = some (.bipush 57) := by decide +kernel
theorem d143_9 : mm_dec q143 9 = some (.if_icmp .gt 7) := by decide +kernel
theorem d143_12 : mm_dec q143 12 = some (.iconst 1) := by decide +kernel
theorem d143_13 : mm_dec q143 13 = some (.goto 4) := by decide +kernel
theorem d143_16 : mm_dec q143 16 = some (.iconst 0) := by decide +kernel
theorem d143_17 : mm_dec q143 17 = some (.ireturn) := by decide +kernel
theorem d144_0 : mm_dec q144 0 = some (.aload_n 0) := by decide +kernel
theorem d144_1 : mm_dec q144 1 = some (.getfield 13) := by decide +kernel
theorem d144_4 : mm_dec q144 4 = some (.sipush 340) := by decide +kernel
theorem d144_7 : mm_dec q144 7 = some (.aload_n 0) := by decide +kernel
theorem d144_8 : mm_dec q144 8 = some (.getfield 123) := by decide +kernel
theorem d144_11 : mm_dec q144 11 = some (.imul) := by decide +kernel
theorem d144_12 : mm_dec q144 12 = some (.aload_n 0) := by decide +kernel
theorem d144_13 : mm_dec q144 13 = some (.getfield 19) := by decide +kernel
theorem d144_16 : mm_dec q144 16 = some (.aload_n 0) := by decide +kernel
theorem d144_17 : mm_dec q144 17 = some (.getfield 123) := by decide +kernel
theorem d144_20 : mm_dec q144 20 = some (.iaload) := by decide +kernel
theorem d144_21 : mm_dec q144 21 = some (.iadd) := by decide +kernel
theorem d144_22 : mm_dec q144 22 = some (.iload_n 1) := by decide +kernel
theorem d144_23 : mm_dec q144 23 = some (.iastore) := by decide +kernel
theorem d144_24 : mm_dec q144 24 = some (.aload_n 0) := by decide +kernel
theorem d144_25 : mm_dec q144 25 = some (.getfield 16) := by decide +kernel
theorem d144_28 : mm_dec q144 28 = some (.sipush 340) := by decide +kernel
theorem d144_31 : mm_dec q144 31 = some (.aload_n 0) := by decide +kernel
theorem d144_32 : mm_dec q144 32 = some (.getfield 123) := by decide +kernel
theorem d144_35 : mm_dec q144 35 = some (.imul) := by decide +kernel
theorem d144_36 : mm_dec q144 36 = some (.aload_n 0) := by decide +kernel
theorem d144_37 : mm_dec q144 37 = some (.getfield 19) := by decide +kernel
theorem d144_40 : mm_dec q144 40 = some (.aload_n 0) := by decide +kernel
theorem d144_41 : mm_dec q144 41 = some (.getfield 123) := by decide +kernel
theorem d144_44 : mm_dec q144 44 = some (.iaload) := by decide +kernel
theorem d144_45 : mm_dec q144 45 = some (.iadd) := by decide +kernel
theorem d144_46 : mm_dec q144 46 = some (.iload_n 2) := by decide +kernel
theorem d144_47 : mm_dec q144 47 = some (.iastore) := by decide +kernel
theorem d144_48 : mm_dec q144 48 = some (.aload_n 0) := by decide +kernel
theorem d144_49 : mm_dec q144 49 = some (.getfield 19) := by decide +kernel
theorem d144_52 : mm_dec q144 52 = some (.aload_n 0) := by decide +kernel
theorem d144_53 : mm_dec q144 53 = some (.getfield 123) := by decide +kernel
theorem d144_56 : mm_dec q144 56 = some (.dup2) := by decide +kernel
theorem d144_57 : mm_dec q144 57 = some (.iaload) := by decide +kernel
theorem d144_58 : mm_dec q144 58 = some (.iconst 1) := by decide +kernel
theorem d144_59 : mm_dec q144 59 = some (.iadd) := by decide +kernel
theorem d144_60 : mm_dec q144 60 = some (.iastore) := by decide +kernel
theorem d144_61 : mm_dec q144 61 = some (.return_) := by decide +kernel
theorem d145_0 : mm_dec q145 0 = some (.iload_n 0) := by decide +kernel
theorem d145_1 : mm_dec q145 1 = some (.bipush 116) := by decide +kernel
theorem d145_3 : mm_dec q145 3 = some (.if_icmp .ne 7) := by decide +kernel
theorem d145_6 : mm_dec q145 6 = some (.iconst 0) := by decide +kernel
theorem d145_7 : mm_dec q145 7 = some (.goto 54) := by decide +kernel
theorem d145_10 : mm_dec q145 10 = some (.iload_n 0) := by decide +kernel
theorem d145_11 : mm_dec q145 11 = some (.bipush 104) := by decide +kernel
theorem d145_13 : mm_dec q145 13 = some (.if_icmp .ne 7) := by decide +kernel
theorem d145_16 : mm_dec q145 16 = some (.iconst 1) := by decide +kernel
theorem d145_17 : mm_dec q145 17 = some (.goto 44) := by decide +kernel
theorem d145_20 : mm_dec q145 20 = some (.iload_n 0) := by decide +kernel
theorem d145_21 : mm_dec q145 21 = some (.bipush 109) := by decide +kernel
theorem d145_23 : mm_dec q145 23 = some (.if_icmp .ne 7) := by decide +kernel
theorem d145_26 : mm_dec q145 26 = some (.iconst 2) := by decide +kernel
theorem d145_27 : mm_dec q145 27 = some (.goto 34) := by decide +kernel
theorem d145_30 : mm_dec q145 30 = some (.iload_n 0) := by decide +kernel
theorem d145_31 : mm_dec q145 31 = some (.bipush 111) := by decide +kernel
theorem d145_33 : mm_dec q145 33 = some (.if_icmp .ne 7) := by decide +kernel
theorem d145_36 : mm_dec q145 36 = some (.iconst 3) := by decide +kernel
theorem d145_37 : mm_dec q145 37 = some (.goto 24) := by decide +kernel
theorem d145_40 : mm_dec q145 40 = some (.iload_n 0) := by decide +kernel
theorem d145_41 : mm_dec q145 41 = some (.bipush 100) := by decide +kernel
theorem d145_43 : mm_dec q145 43 = some (.if_icmp .ne 7) := by decide +kernel
theorem d145_46 : mm_dec q145 46 = some (.iconst 4) := by decide +kernel
theorem d145_47 : mm_dec q145 47 = some (.goto 14) := by decide +kernel
theorem d145_50 : mm_dec q145 50 = some (.iload_n 0) := by decide +kernel
theorem d145_51 : mm_dec q145 51 = some (.bipush 112) := by decide +kernel
theorem d145_53 : mm_dec q145 53 = some (.if_icmp .ne 7) := by decide +kernel
theorem d145_56 : mm_dec q145 56 = some (.iconst 5) := by decide +kernel
theorem d145_57 : mm_dec q145 57 = some (.goto 4) := by decide +kernel
theorem d145_60 : mm_dec q145 60 = some (.iconst (-1)) := by decide +kernel
theorem d145_61 : mm_dec q145 61 = some (.ireturn) := by decide +kernel
theorem d146_0 : mm_dec q146 0 = some (.aload_n 0) := by decide +kernel
theorem d146_1 : mm_dec q146 1 = some (.getfield 126) := by decide +kernel
theorem d146_4 : mm_dec q146 4 = some (.bipush 6) := by decide +kernel
theorem d146_6 : mm_dec q146 6 = some (.if_icmp .ne 7) := by decide +kernel
theorem d146_9 : mm_dec q146 9 = some (.aload_n 0) := by decide +kernel
theorem d146_10 : mm_dec q146 10 = some (.invokevirtual 129) := by decide +kernel
theorem d146_13 : mm_dec q146 13 = some (.aload_n 0) := by decide +kernel
theorem d146_14 : mm_dec q146 14 = some (.dup) := by decide +kernel
theorem d146_15 : mm_dec q146 15 = some (.getfield 126) := by decide +kernel
theorem d146_18 : mm_dec q146 18 = some (.iconst 1) := by decide +kernel
theorem d146_19 : mm_dec q146 19 = some (.iadd) := by decide +kernel
theorem d146_20 : mm_dec q146 20 = some (.putfield 126) := by decide +kernel
theorem d146_23 : mm_dec q146 23 = some (.aload_n 0) := by decide +kernel
theorem d146_24 : mm_dec q146 24 = some (.dup) := by decide +kernel
theorem d146_25 : mm_dec q146 25 = some (.getfield 113) := by decide +kernel
theorem d146_28 : mm_dec q146 28 = some (.iconst 1) := by decide +kernel
theorem d146_29 : mm_dec q146 29 = some (.iadd) := by decide +kernel
theorem d146_30 : mm_dec q146 30 = some (.putfield 113) := by decide +kernel
theorem d146_33 : mm_dec q146 33 = some (.return_) := by decide +kernel
theorem d147_0 : mm_dec q147 0 = some (.aload_n 0) := by decide +kernel
theorem d147_1 : mm_dec q147 1 = some (.getfield 120) := by decide +kernel
theorem d147_4 : mm_dec q147 4 = some (.iconst (-1)) := by decide +kernel
theorem d147_5 : mm_dec q147 5 = some (.if_icmp .ne 15) := by decide +kernel
theorem d147_8 : mm_dec q147 8 = some (.aload_n 0) := by decide +kernel
theorem d147_9 : mm_dec q147 9 = some (.invokevirtual 132) := by decide +kernel
theorem d147_12 : mm_dec q147 12 = some (.iload_n 1) := by decide +kernel
theorem d147_13 : mm_dec q147 13 = some (.if_icmp .eq 7) := by decide +kernel
theorem d147_16 : mm_dec q147 16 = some (.aload_n 0) := by decide +kernel
theorem d147_17 : mm_dec q147 17 = some (.invokevirtual 129) := by decide +kernel
theorem d147_20 : mm_dec q147 20 = some (.aload_n 0) := by decide +kernel
theorem d147_21 : mm_dec q147 21 = some (.dup) := by decide +kernel
theorem d147_22 : mm_dec q147 22 = some (.getfield 113) := by decide +kernel
theorem d147_25 : mm_dec q147 25 = some (.iconst 1) := by decide +kernel
theorem d147_26 : mm_dec q147 26 = some (.iadd) := by decide +kernel
theorem d147_27 : mm_dec q147 27 = some (.putfield 113) := by decide +kernel
theorem d147_30 : mm_dec q147 30 = some (.aload_n 0) := by decide +kernel
theorem d147_31 : mm_dec q147 31 = some (.dup) := by decide +kernel
theorem d147_32 : mm_dec q147 32 = some (.getfield 126) := by decide +kernel
theorem d147_35 : mm_dec q147 35 = some (.iconst 1) := by decide +kernel
theorem d147_36 : mm_dec q147 36 = some (.isub) := by decide +kernel
theorem d147_37 : mm_dec q147 37 = some (.putfield 126) := by decide +kernel
theorem d147_40 : mm_dec q147 40 = some (.return_) := by decide +kernel
theorem d148_0 : mm_dec q148 0 = some (.iconst 0) := by decide +kernel
theorem d148_1 : mm_dec q148 1 = some (.istore_n 1) := by decide +kernel
theorem d148_2 : mm_dec q148 2 = some (.iconst 0) := by decide +kernel
theorem d148_3 : mm_dec q148 3 = some (.istore_n 2) := by decide +kernel
theorem d148_4 : mm_dec q148 4 = some (.iload_n 2) := by decide +kernel
theorem d148_5 : mm_dec q148 5 = some (.iconst 4) := by decide +kernel
theorem d148_6 : mm_dec q148 6 = some (.if_icmp .ge 42) := by decide +kernel
theorem d148_9 : mm_dec q148 9 = some (.aload_n 0) := by decide +kernel
theorem d148_10 : mm_dec q148 10 = some (.invokevirtual 116) := by decide +kernel
theorem d148_13 : mm_dec q148 13 = some (.invokestatic 135) := by decide +kernel
theorem d148_16 : mm_dec q148 16 = some (.ifCond .eq 32) := by decide +kernel
theorem d148_19 : mm_dec q148 19 = some (.bipush 10) := by decide +kernel
theorem d148_21 : mm_dec q148 21 = some (.iload_n 1) := by decide +kernel
theorem d148_22 : mm_dec q148 22 = some (.imul) := by decide +kernel
theorem d148_23 : mm_dec q148 23 = some (.aload_n 0) := by decide +kernel
theorem d148_24 : mm_dec q148 24 = some (.invokevirtual 116) := by decide +kernel
theorem d148_27 : mm_dec q148 27 = some (.iadd) := by decide +kernel
theorem d148_28 : mm_dec q148 28 = some (.bipush 48) := by decide +kernel
theorem d148_30 : mm_dec q148 30 = some (.isub) := by decide +kernel
theorem d148_31 : mm_dec q148 31 = some (.istore_n 1) := by decide +kernel
theorem d148_32 : mm_dec q148 32 = some (.aload_n 0) := by decide +kernel
theorem d148_33 : mm_dec q148 33 = some (.dup) := by decide +kernel
theorem d148_34 : mm_dec q148 34 = some (.getfield 113) := by decide +kernel
theorem d148_37 : mm_dec q148 37 = some (.iconst 1) := by decide +kernel
theorem d148_38 : mm_dec q148 38 = some (.iadd) := by decide +kernel
theorem d148_39 : mm_dec q148 39 = some (.putfield 113) := by decide +kernel
theorem d148_42 : mm_dec q148 42 = some (.iinc 2 1) := by decide +kernel
theorem d148_45 : mm_dec q148 45 = some (.goto (-41)) := by decide +kernel
theorem d148_48 : mm_dec q148 48 = some (.aload_n 0) := by decide +kernel
theorem d148_49 : mm_dec q148 49 = some (.invokevirtual 116) := by decide +kernel
theorem d148_52 : mm_dec q148 52 = some (.invokestatic 135) := by decide +kernel
theorem d148_55 : mm_dec q148 55 = some (.ifCond .eq 7) := by decide +kernel
theorem d148_58 : mm_dec q148 58 = some (.aload_n 0) := by decide +kernel
theorem d148_59 : mm_dec q148 59 = some (.invokevirtual 129) := by decide +kernel
theorem d148_62 : mm_dec q148 62 = some (.iload_n 1) := by decide +kernel
theorem d148_63 : mm_dec q148 63 = some (.ireturn) := by decide +kernel
theorem d149_0 : mm_dec q149 0 = some (.aload_n 0) := by decide +kernel
theorem d149_1 : mm_dec q149 1 = some (.invokevirtual 132) := by decide +kernel
theorem d149_4 : mm_dec q149 4 = some (.istore_n 1) := by decide +kernel
theorem d149_5 : mm_dec q149 5 = some (.iload_n 1) := by decide +kernel
theorem d149_6 : mm_dec q149 6 = some (.invokestatic 135) := by decide +kernel
theorem d149_9 : mm_dec q149 9 = some (.ifCond .eq 15) := by decide +kernel
theorem d149_12 : mm_dec q149 12 = some (.aload_n 0) := by decide +kernel
theorem d149_13 : mm_dec q149 13 = some (.iconst 0) := by decide +kernel
theorem d149_14 : mm_dec q149 14 = some (.aload_n 0) := by decide +kernel
theorem d149_15 : mm_dec q149 15 = some (.invokevirtual 139) := by decide +kernel
theorem d149_18 : mm_dec q149 18 = some (.invokevirtual 142) := by decide +kernel
theorem d149_21 : mm_dec q149 21 = some (.goto 68) := by decide +kernel
theorem d149_24 : mm_dec q149 24 = some (.iload_n 1) := by decide +kernel
theorem d149_25 : mm_dec q149 25 = some (.invokestatic 146) := by decide +kernel
theorem d149_28 : mm_dec q149 28 = some (.iconst (-1)) := by decide +kernel
theorem d149_29 : mm_dec q149 29 = some (.if_icmp .eq 25) := by decide +kernel
theorem d149_32 : mm_dec q149 32 = some (.aload_n 0) := by decide +kernel
theorem d149_33 : mm_dec q149 33 = some (.dup) := by decide +kernel
theorem d149_34 : mm_dec q149 34 = some (.getfield 113) := by decide +kernel
theorem d149_37 : mm_dec q149 37 = some (.iconst 1) := by decide +kernel
theorem d149_38 : mm_dec q149 38 = some (.iadd) := by decide +kernel
theorem d149_39 : mm_dec q149 39 = some (.putfield 113) := by decide +kernel
theorem d149_42 : mm_dec q149 42 = some (.aload_n 0) := by decide +kernel
theorem d149_43 : mm_dec q149 43 = some (.iconst 1) := by decide +kernel
theorem d149_44 : mm_dec q149 44 = some (.iload_n 1) := by decide +kernel
theorem d149_45 : mm_dec q149 45 = some (.invokestatic 146) := by decide +kernel
theorem d149_48 : mm_dec q149 48 = some (.invokevirtual 142) := by decide +kernel
theorem d149_51 : mm_dec q149 51 = some (.goto 38) := by decide +kernel
theorem d149_54 : mm_dec q149 54 = some (.iload_n 1) := by decide +kernel
theorem d149_55 : mm_dec q149 55 = some (.bipush 91) := by decide +kernel
theorem d149_57 : mm_dec q149 57 = some (.if_icmp .ne 28) := by decide +kernel
theorem d149_60 : mm_dec q149 60 = some (.aload_n 0) := by decide +kernel
theorem d149_61 : mm_dec q149 61 = some (.invokevirtual 150) := by decide +kernel
theorem d149_64 : mm_dec q149 64 = some (.aload_n 0) := by decide +kernel
theorem d149_65 : mm_dec q149 65 = some (.getfield 120) := by decide +kernel
theorem d149_68 : mm_dec q149 68 = some (.iconst (-1)) := by decide +kernel
theorem d149_69 : mm_dec q149 69 = some (.if_icmp .ne 20) := by decide +kernel
theorem d149_72 : mm_dec q149 72 = some (.aload_n 0) := by decide +kernel
theorem d149_73 : mm_dec q149 73 = some (.invokevirtual 153) := by decide +kernel
theorem d149_76 : mm_dec q149 76 = some (.aload_n 0) := by decide +kernel
theorem d149_77 : mm_dec q149 77 = some (.bipush 93) := by decide +kernel
theorem d149_79 : mm_dec q149 79 = some (.invokevirtual 156) := by decide +kernel
theorem d149_82 : mm_dec q149 82 = some (.goto 7) := by decide +kernel
theorem d149_85 : mm_dec q149 85 = some (.aload_n 0) := by decide +kernel
theorem d149_86 : mm_dec q149 86 = some (.invokevirtual 129) := by decide +kernel
theorem d149_89 : mm_dec q149 89 = some (.return_) := by decide +kernel
theorem d150_0 : mm_dec q150 0 = some (.aload_n 0) := by decide +kernel
theorem d150_1 : mm_dec q150 1 = some (.invokevirtual 160) := by decide +kernel
theorem d150_4 : mm_dec q150 4 = some (.aload_n 0) := by decide +kernel
theorem d150_5 : mm_dec q150 5 = some (.getfield 120) := by decide +kernel
theorem d150_8 : mm_dec q150 8 = some (.iconst (-1)) := by decide +kernel
theorem d150_9 : mm_dec q150 9 = some (.if_icmp .ne 10) := by decide +kernel
theorem d150_12 : mm_dec q150 12 = some (.aload_n 0) := by decide +kernel
theorem d150_13 : mm_dec q150 13 = some (.invokevirtual 132) := by decide +kernel
theorem d150_16 : mm_dec q150 16 = some (.goto 4) := by decide +kernel
theorem d150_19 : mm_dec q150 19 = some (.iconst (-1)) := by decide +kernel
theorem d150_20 : mm_dec q150 20 = some (.istore_n 1) := by decide +kernel
theorem d150_21 : mm_dec q150 21 = some (.iload_n 1) := by decide +kernel
theorem d150_22 : mm_dec q150 22 = some (.bipush 42) := by decide +kernel
theorem d150_24 : mm_dec q150 24 = some (.if_icmp .eq 9) := by decide +kernel
theorem d150_27 : mm_dec q150 27 = some (.iload_n 1) := by decide +kernel
theorem d150_28 : mm_dec q150 28 = some (.bipush 47) := by decide +kernel
theorem d150_30 : mm_dec q150 30 = some (.if_icmp .ne 53) := by decide +kernel
theorem d150_33 : mm_dec q150 33 = some (.aload_n 0) := by decide +kernel
theorem d150_34 : mm_dec q150 34 = some (.dup) := by decide +kernel
theorem d150_35 : mm_dec q150 35 = some (.getfield 113) := by decide +kernel
theorem d150_38 : mm_dec q150 38 = some (.iconst 1) := by decide +kernel
theorem d150_39 : mm_dec q150 39 = some (.iadd) := by decide +kernel
theorem d150_40 : mm_dec q150 40 = some (.putfield 113) := by decide +kernel
theorem d150_43 : mm_dec q150 43 = some (.aload_n 0) := by decide +kernel
theorem d150_44 : mm_dec q150 44 = some (.invokevirtual 160) := by decide +kernel
theorem d150_47 : mm_dec q150 47 = some (.aload_n 0) := by decide +kernel
theorem d150_48 : mm_dec q150 48 = some (.iload_n 1) := by decide +kernel
theorem d150_49 : mm_dec q150 49 = some (.bipush 42) := by decide +kernel
theorem d150_51 : mm_dec q150 51 = some (.if_icmp .ne 7) := by decide +kernel
theorem d150_54 : mm_dec q150 54 = some (.iconst 4) := by decide +kernel
theorem d150_55 : mm_dec q150 55 = some (.goto 4) := by decide +kernel
theorem d150_58 : mm_dec q150 58 = some (.iconst 5) := by decide +kernel
theorem d150_59 : mm_dec q150 59 = some (.iconst 0) := by decide +kernel
theorem d150_60 : mm_dec q150 60 = some (.invokevirtual 142) := by decide +kernel
theorem d150_63 : mm_dec q150 63 = some (.aload_n 0) := by decide +kernel
theorem d150_64 : mm_dec q150 64 = some (.getfield 120) := by decide +kernel
theorem d150_67 : mm_dec q150 67 = some (.iconst (-1)) := by decide +kernel
theorem d150_68 : mm_dec q150 68 = some (.if_icmp .ne 10) := by decide +kernel
theorem d150_71 : mm_dec q150 71 = some (.aload_n 0) := by decide +kernel
theorem d150_72 : mm_dec q150 72 = some (.invokevirtual 132) := by decide +kernel
theorem d150_75 : mm_dec q150 75 = some (.goto 4) := by decide +kernel
theorem d150_78 : mm_dec q150 78 = some (.iconst (-1)) := by decide +kernel
theorem d150_79 : mm_dec q150 79 = some (.istore_n 1) := by decide +kernel
theorem d150_80 : mm_dec q150 80 = some (.goto (-59)) := by decide +kernel
theorem d150_83 : mm_dec q150 83 = some (.return_) := by decide +kernel
theorem d151_0 : mm_dec q151 0 = some (.aload_n 0) := by decide +kernel
theorem d151_1 : mm_dec q151 1 = some (.invokevirtual 163) := by decide +kernel
theorem d151_4 : mm_dec q151 4 = some (.aload_n 0) := by decide +kernel
theorem d151_5 : mm_dec q151 5 = some (.getfield 120) := by decide +kernel
theorem d151_8 : mm_dec q151 8 = some (.iconst (-1)) := by decide +kernel
theorem d151_9 : mm_dec q151 9 = some (.if_icmp .ne 10) := by decide +kernel
theorem d151_12 : mm_dec q151 12 = some (.aload_n 0) := by decide +kernel
theorem d151_13 : mm_dec q151 13 = some (.invokevirtual 132) := by decide +kernel
theorem d151_16 : mm_dec q151 16 = some (.goto 4) := by decide +kernel
theorem d151_19 : mm_dec q151 19 = some (.iconst (-1)) := by decide +kernel
theorem d151_20 : mm_dec q151 20 = some (.istore_n 1) := by decide +kernel
theorem d151_21 : mm_dec q151 21 = some (.iload_n 1) := by decide +kernel
theorem d151_22 : mm_dec q151 22 = some (.bipush 43) := by decide +kernel
theorem d151_24 : mm_dec q151 24 = some (.if_icmp .eq 9) := by decide +kernel
theorem d151_27 : mm_dec q151 27 = some (.iload_n 1) := by decide +kernel
theorem d151_28 : mm_dec q151 28 = some (.bipush 45) := by decide +kernel
theorem d151_30 : mm_dec q151 30 = some (.if_icmp .ne 53) := by decide +kernel
theorem d151_33 : mm_dec q151 33 = some (.aload_n 0) := by decide +kernel
theorem d151_34 : mm_dec q151 34 = some (.dup) := by decide +kernel
theorem d151_35 : mm_dec q151 35 = some (.getfield 113) := by decide +kernel
theorem d151_38 : mm_dec q151 38 = some (.iconst 1) := by decide +kernel
theorem d151_39 : mm_dec q151 39 = some (.iadd) := by decide +kernel
theorem d151_40 : mm_dec q151 40 = some (.putfield 113) := by decide +kernel
theorem d151_43 : mm_dec q151 43 = some (.aload_n 0) := by decide +kernel
theorem d151_44 : mm_dec q151 44 = some (.invokevirtual 163) := by decide +kernel
theorem d151_47 : mm_dec q151 47 = some (.aload_n 0) := by decide +kernel
theorem d151_48 : mm_dec q151 48 = some (.iload_n 1) := by decide +kernel
theorem d151_49 : mm_dec q151 49 = some (.bipush 43) := by decide +kernel
theorem d151_51 : mm_dec q151 51 = some (.if_icmp .ne 7) := by decide +kernel
theorem d151_54 : mm_dec q151 54 = some (.iconst 2) := by decide +kernel
theorem d151_55 : mm_dec q151 55 = some (.goto 4) := by decide +kernel
theorem d151_58 : mm_dec q151 58 = some (.iconst 3) := by decide +kernel
theorem d151_59 : mm_dec q151 59 = some (.iconst 0) := by decide +kernel
theorem d151_60 : mm_dec q151 60 = some (.invokevirtual 142) := by decide +kernel
theorem d151_63 : mm_dec q151 63 = some (.aload_n 0) := by decide +kernel
theorem d151_64 : mm_dec q151 64 = some (.getfield 120) := by decide +kernel
theorem d151_67 : mm_dec q151 67 = some (.iconst (-1)) := by decide +kernel
theorem d151_68 : mm_dec q151 68 = some (.if_icmp .ne 10) := by decide +kernel
theorem d151_71 : mm_dec q151 71 = some (.aload_n 0) := by decide +kernel
theorem d151_72 : mm_dec q151 72 = some (.invokevirtual 132) := by decide +kernel
theorem d151_75 : mm_dec q151 75 = some (.goto 4) := by decide +kernel
theorem d151_78 : mm_dec q151 78 = some (.iconst (-1)) := by decide +kernel
theorem d151_79 : mm_dec q151 79 = some (.istore_n 1) := by decide +kernel
theorem d151_80 : mm_dec q151 80 = some (.goto (-59)) := by decide +kernel
theorem d151_83 : mm_dec q151 83 = some (.return_) := by decide +kernel
theorem d152_0 : mm_dec q152 0 = some (.iload_n 0) := by decide +kernel
theorem d152_1 : mm_dec q152 1 = some (.bipush 61) := by decide +kernel
theorem d152_3 : mm_dec q152 3 = some (.if_icmp .eq 15) := by decide +kernel
theorem d152_6 : mm_dec q152 6 = some (.iload_n 0) := by decide +kernel
theorem d152_7 : mm_dec q152 7 = some (.bipush 60) := by decide +kernel
theorem d152_9 : mm_dec q152 9 = some (.if_icmp .eq 9) := by decide +kernel
theorem d152_12 : mm_dec q152 12 = some (.iload_n 0) := by decide +kernel
theorem d152_13 : mm_dec q152 13 = some (.bipush 62) := by decide +kernel
theorem d152_15 : mm_dec q152 15 = some (.if_icmp .ne 7) := by decide +kernel
theorem d152_18 : mm_dec q152 18 = some (.iconst 1) := by decide +kernel
theorem d152_19 : mm_dec q152 19 = some (.goto 4) := by decide +kernel
theorem d152_22 : mm_dec q152 22 = some (.iconst 0) := by decide +kernel
theorem d152_23 : mm_dec q152 23 = some (.ireturn) := by decide +kernel
theorem d153_0 : mm_dec q153 0 = some (.aload_n 0) := by decide +kernel
theorem d153_1 : mm_dec q153 1 = some (.getfield 120) := by decide +kernel
theorem d153_4 : mm_dec q153 4 = some (.iconst (-1)) := by decide +kernel
theorem d153_5 : mm_dec q153 5 = some (.if_icmp .ne 10) := by decide +kernel
theorem d153_8 : mm_dec q153 8 = some (.aload_n 0) := by decide +kernel
theorem d153_9 : mm_dec q153 9 = some (.invokevirtual 132) := by decide +kernel
theorem d153_12 : mm_dec q153 12 = some (.goto 4) := by decide +kernel
theorem d153_15 : mm_dec q153 15 = some (.iconst (-1)) := by decide +kernel
theorem d153_16 : mm_dec q153 16 = some (.istore_n 1) := by decide +kernel
theorem d153_17 : mm_dec q153 17 = some (.iload_n 1) := by decide +kernel
theorem d153_18 : mm_dec q153 18 = some (.invokestatic 166) := by decide +kernel
theorem d153_21 : mm_dec q153 21 = some (.ifCond .ne 8) := by decide +kernel
theorem d153_24 : mm_dec q153 24 = some (.aload_n 0) := by decide +kernel
theorem d153_25 : mm_dec q153 25 = some (.invokevirtual 129) := by decide +kernel
theorem d153_28 : mm_dec q153 28 = some (.return_) := by decide +kernel
theorem d153_29 : mm_dec q153 29 = some (.aload_n 0) := by decide +kernel
theorem d153_30 : mm_dec q153 30 = some (.dup) := by decide +kernel
theorem d153_31 : mm_dec q153 31 = some (.getfield 113) := by decide +kernel
theorem d153_34 : mm_dec q153 34 = some (.iconst 1) := by decide +kernel
theorem d153_35 : mm_dec q153 35 = some (.iadd) := by decide +kernel
theorem d153_36 : mm_dec q153 36 = some (.putfield 113) := by decide +kernel
theorem d153_39 : mm_dec q153 39 = some (.aload_n 0) := by decide +kernel
theorem d153_40 : mm_dec q153 40 = some (.invokevirtual 153) := by decide +kernel
theorem d153_43 : mm_dec q153 43 = some (.aload_n 0) := by decide +kernel
theorem d153_44 : mm_dec q153 44 = some (.iload_n 1) := by decide +kernel
theorem d153_45 : mm_dec q153 45 = some (.bipush 61) := by decide +kernel
theorem d153_47 : mm_dec q153 47 = some (.if_icmp .ne 8) := by decide +kernel
theorem d153_50 : mm_dec q153 50 = some (.bipush 6) := by decide +kernel
theorem d153_52 : mm_dec q153 52 = some (.goto 16) := by decide +kernel
theorem d153_55 : mm_dec q153 55 = some (.iload_n 1) := by decide +kernel
theorem d153_56 : mm_dec q153 56 = some (.bipush 60) := by decide +kernel
theorem d153_58 : mm_dec q153 58 = some (.if_icmp .ne 8) := by decide +kernel
theorem d153_61 : mm_dec q153 61 = some (.bipush 7) := by decide +kernel
theorem d153_63 : mm_dec q153 63 = some (.goto 5) := by decide +kernel
theorem d153_66 : mm_dec q153 66 = some (.bipush 8) := by decide +kernel
theorem d153_68 : mm_dec q153 68 = some (.iconst 0) := by decide +kernel
theorem d153_69 : mm_dec q153 69 = some (.invokevirtual 142) := by decide +kernel
theorem d153_72 : mm_dec q153 72 = some (.return_) := by decide +kernel
theorem d154_0 : mm_dec q154 0 = some (.aload_n 0) := by decide +kernel
theorem d154_1 : mm_dec q154 1 = some (.invokevirtual 132) := by decide +kernel
theorem d154_4 : mm_dec q154 4 = some (.istore_n 1) := by decide +kernel
theorem d154_5 : mm_dec q154 5 = some (.iload_n 1) := by decide +kernel
theorem d154_6 : mm_dec q154 6 = some (.bipush 33) := by decide +kernel
theorem d154_8 : mm_dec q154 8 = some (.if_icmp .ne 39) := by decide +kernel
theorem d154_11 : mm_dec q154 11 = some (.aload_n 0) := by decide +kernel
theorem d154_12 : mm_dec q154 12 = some (.invokevirtual 150) := by decide +kernel
theorem d154_15 : mm_dec q154 15 = some (.aload_n 0) := by decide +kernel
theorem d154_16 : mm_dec q154 16 = some (.getfield 120) := by decide +kernel
theorem d154_19 : mm_dec q154 19 = some (.iconst (-1)) := by decide +kernel
theorem d154_20 : mm_dec q154 20 = some (.if_icmp .ne 74) := by decide +kernel
theorem d154_23 : mm_dec q154 23 = some (.aload_n 0) := by decide +kernel
theorem d154_24 : mm_dec q154 24 = some (.invokevirtual 169) := by decide +kernel
theorem d154_27 : mm_dec q154 27 = some (.aload_n 0) := by decide +kernel
theorem d154_28 : mm_dec q154 28 = some (.bipush 9) := by decide +kernel
theorem d154_30 : mm_dec q154 30 = some (.iconst 0) := by decide +kernel
theorem d154_31 : mm_dec q154 31 = some (.invokevirtual 142) := by decide +kernel
theorem d154_34 : mm_dec q154 34 = some (.aload_n 0) := by decide +kernel
theorem d154_35 : mm_dec q154 35 = some (.dup) := by decide +kernel
theorem d154_36 : mm_dec q154 36 = some (.getfield 126) := by decide +kernel
theorem d154_39 : mm_dec q154 39 = some (.iconst 1) := by decide +kernel
theorem d154_40 : mm_dec q154 40 = some (.isub) := by decide +kernel
theorem d154_41 : mm_dec q154 41 = some (.putfield 126) := by decide +kernel
theorem d154_44 : mm_dec q154 44 = some (.goto 50) := by decide +kernel
theorem d154_47 : mm_dec q154 47 = some (.iload_n 1) := by decide +kernel
theorem d154_48 : mm_dec q154 48 = some (.bipush 40) := by decide +kernel
theorem d154_50 : mm_dec q154 50 = some (.if_icmp .ne 28) := by decide +kernel
theorem d154_53 : mm_dec q154 53 = some (.aload_n 0) := by decide +kernel
theorem d154_54 : mm_dec q154 54 = some (.invokevirtual 150) := by decide +kernel
theorem d154_57 : mm_dec q154 57 = some (.aload_n 0) := by decide +kernel
theorem d154_58 : mm_dec q154 58 = some (.getfield 120) := by decide +kernel
theorem d154_61 : mm_dec q154 61 = some (.iconst (-1)) := by decide +kernel
theorem d154_62 : mm_dec q154 62 = some (.if_icmp .ne 32) := by decide +kernel
theorem d154_65 : mm_dec q154 65 = some (.aload_n 0) := by decide +kernel
theorem d154_66 : mm_dec q154 66 = some (.invokevirtual 172) := by decide +kernel
theorem d154_69 : mm_dec q154 69 = some (.aload_n 0) := by decide +kernel
theorem d154_70 : mm_dec q154 70 = some (.bipush 41) := by decide +kernel
theorem d154_72 : mm_dec q154 72 = some (.invokevirtual 156) := by decide +kernel
theorem d154_75 : mm_dec q154 75 = some (.goto 19) := by decide +kernel
theorem d154_78 : mm_dec q154 78 = some (.aload_n 0) := by decide +kernel
theorem d154_79 : mm_dec q154 79 = some (.invokevirtual 153) := by decide +kernel
theorem d154_82 : mm_dec q154 82 = some (.aload_n 0) := by decide +kernel
theorem d154_83 : mm_dec q154 83 = some (.getfield 120) := by decide +kernel
theorem d154_86 : mm_dec q154 86 = some (.iconst (-1)) := by decide +kernel
theorem d154_87 : mm_dec q154 87 = some (.if_icmp .ne 7) := by decide +kernel
theorem d154_90 : mm_dec q154 90 = some (.aload_n 0) := by decide +kernel
theorem d154_91 : mm_dec q154 91 = some (.invokevirtual 175) := by decide +kernel
theorem d154_94 : mm_dec q154 94 = some (.return_) := by decide +kernel
theorem d155_0 : mm_dec q155 0 = some (.aload_n 0) := by decide +kernel
theorem d155_1 : mm_dec q155 1 = some (.getfield 120) := by decide +kernel
theorem d155_4 : mm_dec q155 4 = some (.iconst (-1)) := by decide +kernel
theorem d155_5 : mm_dec q155 5 = some (.if_icmp .ne 36) := by decide +kernel
theorem d155_8 : mm_dec q155 8 = some (.aload_n 0) := by decide +kernel
theorem d155_9 : mm_dec q155 9 = some (.invokevirtual 132) := by decide +kernel
theorem d155_12 : mm_dec q155 12 = some (.bipush 38) := by decide +kernel
theorem d155_14 : mm_dec q155 14 = some (.if_icmp .ne 27) := by decide +kernel
theorem d155_17 : mm_dec q155 17 = some (.aload_n 0) := by decide +kernel
theorem d155_18 : mm_dec q155 18 = some (.dup) := by decide +kernel
theorem d155_19 : mm_dec q155 19 = some (.getfield 113) := by decide +kernel
theorem d155_22 : mm_dec q155 22 = some (.iconst 1) := by decide +kernel
theorem d155_23 : mm_dec q155 23 = some (.iadd) := by decide +kernel
theorem d155_24 : mm_dec q155 24 = some (.putfield 113) := by decide +kernel
theorem d155_27 : mm_dec q155 27 = some (.aload_n 0) := by decide +kernel
theorem d155_28 : mm_dec q155 28 = some (.invokevirtual 169) := by decide +kernel
theorem d155_31 : mm_dec q155 31 = some (.aload_n 0) := by decide +kernel
theorem d155_32 : mm_dec q155 32 = some (.bipush 10) := by decide +kernel
theorem d155_34 : mm_dec q155 34 = some (.iconst 0) := by decide +kernel
theorem d155_35 : mm_dec q155 35 = some (.invokevirtual 142) := by decide +kernel
theorem d155_38 : mm_dec q155 38 = some (.goto (-38)) := by decide +kernel
theorem d155_41 : mm_dec q155 41 = some (.return_) := by decide +kernel
theorem d156_0 : mm_dec q156 0 = some (.aload_n 0) := by decide +kernel
theorem d156_1 : mm_dec q156 1 = some (.getfield 120) := by decide +kernel
theorem d156_4 : mm_dec q156 4 = some (.iconst (-1)) := by decide +kernel
theorem d156_5 : mm_dec q156 5 = some (.if_icmp .ne 40) := by decide +kernel
theorem d156_8 : mm_dec q156 8 = some (.aload_n 0) := by decide +kernel
theorem d156_9 : mm_dec q156 9 = some (.invokevirtual 132) := by decide +kernel
theorem d156_12 : mm_dec q156 12 = some (.bipush 124) := by decide +kernel
theorem d156_14 : mm_dec q156 14 = some (.if_icmp .ne 31) := by decide +kernel
theorem d156_17 : mm_dec q156 17 = some (.aload_n 0) := by decide +kernel
theorem d156_18 : mm_dec q156 18 = some (.dup) := by decide +kernel
theorem d156_19 : mm_dec q156 19 = some (.getfield 113) := by decide +kernel
theorem d156_22 : mm_dec q156 22 = some (.iconst 1) := by decide +kernel
theorem d156_23 : mm_dec q156 23 = some (.iadd) := by decide +kernel
theorem d156_24 : mm_dec q156 24 = some (.putfield 113) := by decide +kernel
theorem d156_27 : mm_dec q156 27 = some (.aload_n 0) := by decide +kernel
theorem d156_28 : mm_dec q156 28 = some (.invokevirtual 169) := by decide +kernel
theorem d156_31 : mm_dec q156 31 = some (.aload_n 0) := by decide +kernel
theorem d156_32 : mm_dec q156 32 = some (.invokevirtual 178) := by decide +kernel
theorem d156_35 : mm_dec q156 35 = some (.aload_n 0) := by decide +kernel
theorem d156_36 : mm_dec q156 36 = some (.bipush 11) := by decide +kernel
theorem d156_38 : mm_dec q156 38 = some (.iconst 0) := by decide +kernel
theorem d156_39 : mm_dec q156 39 = some (.invokevirtual 142) := by decide +kernel
theorem d156_42 : mm_dec q156 42 = some (.goto (-42)) := by decide +kernel
theorem d156_45 : mm_dec q156 45 = some (.return_) := by decide +kernel
theorem d157_0 : mm_dec q157 0 = some (.aload_n 0) := by decide +kernel
theorem d157_1 : mm_dec q157 1 = some (.invokevirtual 169) := by decide +kernel
theorem d157_4 : mm_dec q157 4 = some (.aload_n 0) := by decide +kernel
theorem d157_5 : mm_dec q157 5 = some (.invokevirtual 178) := by decide +kernel
theorem d157_8 : mm_dec q157 8 = some (.aload_n 0) := by decide +kernel
theorem d157_9 : mm_dec q157 9 = some (.invokevirtual 181) := by decide +kernel
theorem d157_12 : mm_dec q157 12 = some (.return_) := by decide +kernel
theorem d158_0 : mm_dec q158 0 = some (.bipush 90) := by decide +kernel
theorem d158_2 : mm_dec q158 2 = some (.aload_n 0) := by decide +kernel
theorem d158_3 : mm_dec q158 3 = some (.getfield 123) := by decide +kernel
theorem d158_6 : mm_dec q158 6 = some (.imul) := by decide +kernel
theorem d158_7 : mm_dec q158 7 = some (.aload_n 0) := by decide +kernel
theorem d158_8 : mm_dec q158 8 = some (.getfield 22) := by decide +kernel
theorem d158_11 : mm_dec q158 11 = some (.aload_n 0) := by decide +kernel
theorem d158_12 : mm_dec q158 12 = some (.getfield 123) := by decide +kernel
theorem d158_15 : mm_dec q158 15 = some (.iaload) := by decide +kernel
theorem d158_16 : mm_dec q158 16 = some (.iadd) := by decide +kernel
theorem d158_17 : mm_dec q158 17 = some (.istore_n 1) := by decide +kernel
theorem d158_18 : mm_dec q158 18 = some (.aload_n 0) := by decide +kernel
theorem d158_19 : mm_dec q158 19 = some (.getfield 120) := by decide +kernel
theorem d158_22 : mm_dec q158 22 = some (.iconst (-1)) := by decide +kernel
theorem d158_23 : mm_dec q158 23 = some (.if_icmp .ne 16) := by decide +kernel
theorem d158_26 : mm_dec q158 26 = some (.aload_n 0) := by decide +kernel
theorem d158_27 : mm_dec q158 27 = some (.invokevirtual 132) := by decide +kernel
theorem d158_30 : mm_dec q158 30 = some (.bipush 121) := by decide +kernel
theorem d158_32 : mm_dec q158 32 = some (.if_icmp .eq 7) := by decide +kernel
theorem d158_35 : mm_dec q158 35 = some (.aload_n 0) := by decide +kernel
theorem d158_36 : mm_dec q158 36 = some (.invokevirtual 129) := by decide +kernel
theorem d158_39 : mm_dec q158 39 = some (.aload_n 0) := by decide +kernel
theorem d158_40 : mm_dec q158 40 = some (.dup) := by decide +kernel
theorem d158_41 : mm_dec q158 41 = some (.getfield 113) := by decide +kernel
theorem d158_44 : mm_dec q158 44 = some (.iconst 1) := by decide +kernel
theorem d158_45 : mm_dec q158 45 = some (.iadd) := by decide +kernel
theorem d158_46 : mm_dec q158 46 = some (.putfield 113) := by decide +kernel
theorem d158_49 : mm_dec q158 49 = some (.aload_n 0) := by decide +kernel
theorem d158_50 : mm_dec q158 50 = some (.getfield 120) := by decide +kernel
theorem d158_53 : mm_dec q158 53 = some (.iconst (-1)) := by decide +kernel
theorem d158_54 : mm_dec q158 54 = some (.if_icmp .ne 16) := by decide +kernel
theorem d158_57 : mm_dec q158 57 = some (.aload_n 0) := by decide +kernel
theorem d158_58 : mm_dec q158 58 = some (.invokevirtual 132) := by decide +kernel
theorem d158_61 : mm_dec q158 61 = some (.bipush 58) := by decide +kernel
theorem d158_63 : mm_dec q158 63 = some (.if_icmp .eq 7) := by decide +kernel
theorem d158_66 : mm_dec q158 66 = some (.aload_n 0) := by decide +kernel
theorem d158_67 : mm_dec q158 67 = some (.invokevirtual 129) := by decide +kernel
theorem d158_70 : mm_dec q158 70 = some (.aload_n 0) := by decide +kernel
theorem d158_71 : mm_dec q158 71 = some (.dup) := by decide +kernel
theorem d158_72 : mm_dec q158 72 = some (.getfield 113) := by decide +kernel
theorem d158_75 : mm_dec q158 75 = some (.iconst 1) := by decide +kernel
theorem d158_76 : mm_dec q158 76 = some (.iadd) := by decide +kernel
theorem d158_77 : mm_dec q158 77 = some (.putfield 113) := by decide +kernel
theorem d158_80 : mm_dec q158 80 = some (.aload_n 0) := by decide +kernel
theorem d158_81 : mm_dec q158 81 = some (.getfield 120) := by decide +kernel
theorem d158_84 : mm_dec q158 84 = some (.iconst (-1)) := by decide +kernel
theorem d158_85 : mm_dec q158 85 = some (.if_icmp .eq 4) := by decide +kernel
theorem d158_88 : mm_dec q158 88 = some (.return_) := by decide +kernel
theorem d158_89 : mm_dec q158 89 = some (.aload_n 0) := by decide +kernel
theorem d158_90 : mm_dec q158 90 = some (.getfield 25) := by decide +kernel
theorem d158_93 : mm_dec q158 93 = some (.iload_n 1) := by decide +kernel
theorem d158_94 : mm_dec q158 94 = some (.aload_n 0) := by decide +kernel
theorem d158_95 : mm_dec q158 95 = some (.getfield 19) := by decide +kernel
theorem d158_98 : mm_dec q158 98 = some (.aload_n 0) := by decide +kernel
theorem d158_99 : mm_dec q158 99 = some (.getfield 123) := by decide +kernel
theorem d158_102 : mm_dec q158 102 = some (.iaload) := by decide +kernel
theorem d158_103 : mm_dec q158 103 = some (.iastore) := by decide +kernel
theorem d158_104 : mm_dec q158 104 = some (.aload_n 0) := by decide +kernel
theorem d158_105 : mm_dec q158 105 = some (.invokevirtual 132) := by decide +kernel
theorem d158_108 : mm_dec q158 108 = some (.bipush 33) := by decide +kernel
theorem d158_110 : mm_dec q158 110 = some (.if_icmp .eq 12) := by decide +kernel
theorem d158_113 : mm_dec q158 113 = some (.aload_n 0) := by decide +kernel
theorem d158_114 : mm_dec q158 114 = some (.invokevirtual 132) := by decide +kernel
theorem d158_117 : mm_dec q158 117 = some (.bipush 40) := by decide +kernel
theorem d158_119 : mm_dec q158 119 = some (.if_icmp .ne 7) := by decide +kernel
theorem d158_122 : mm_dec q158 122 = some (.iconst 1) := by decide +kernel
theorem d158_123 : mm_dec q158 123 = some (.goto 4) := by decide +kernel
theorem d158_126 : mm_dec q158 126 = some (.iconst 0) := by decide +kernel
theorem d158_127 : mm_dec q158 127 = some (.istore_n 2) := by decide +kernel
theorem d158_128 : mm_dec q158 128 = some (.iload_n 2) := by decide +kernel
theorem d158_129 : mm_dec q158 129 = some (.ifCond .eq 10) := by decide +kernel
theorem d158_132 : mm_dec q158 132 = some (.aload_n 0) := by decide +kernel
theorem d158_133 : mm_dec q158 133 = some (.invokevirtual 172) := by decide +kernel
theorem d158_136 : mm_dec q158 136 = some (.goto 47) := by decide +kernel
theorem d158_139 : mm_dec q158 139 = some (.aload_n 0) := by decide +kernel
theorem d158_140 : mm_dec q158 140 = some (.invokevirtual 153) := by decide +kernel
theorem d158_143 : mm_dec q158 143 = some (.aload_n 0) := by decide +kernel
theorem d158_144 : mm_dec q158 144 = some (.getfield 120) := by decide +kernel
theorem d158_147 : mm_dec q158 147 = some (.iconst (-1)) := by decide +kernel
theorem d158_148 : mm_dec q158 148 = some (.if_icmp .ne 17) := by decide +kernel
theorem d158_151 : mm_dec q158 151 = some (.aload_n 0) := by decide +kernel
theorem d158_152 : mm_dec q158 152 = some (.invokevirtual 132) := by decide +kernel
theorem d158_155 : mm_dec q158 155 = some (.invokestatic 166) := by decide +kernel
theorem d158_158 : mm_dec q158 158 = some (.ifCond .eq 7) := by decide +kernel
theorem d158_161 : mm_dec q158 161 = some (.iconst 1) := by decide +kernel
theorem d158_162 : mm_dec q158 162 = some (.goto 4) := by decide +kernel
theorem d158_165 : mm_dec q158 165 = some (.iconst 0) := by decide +kernel
theorem d158_166 : mm_dec q158 166 = some (.istore_n 2) := by decide +kernel
theorem d158_167 : mm_dec q158 167 = some (.iload_n 2) := by decide +kernel
theorem d158_168 : mm_dec q158 168 = some (.ifCond .eq 15) := by decide +kernel
theorem d158_171 : mm_dec q158 171 = some (.aload_n 0) := by decide +kernel
theorem d158_172 : mm_dec q158 172 = some (.invokevirtual 175) := by decide +kernel
theorem d158_175 : mm_dec q158 175 = some (.aload_n 0) := by decide +kernel
theorem d158_176 : mm_dec q158 176 = some (.invokevirtual 178) := by decide +kernel
theorem d158_179 : mm_dec q158 179 = some (.aload_n 0) := by decide +kernel
theorem d158_180 : mm_dec q158 180 = some (.invokevirtual 181) := by decide +kernel
theorem d158_183 : mm_dec q158 183 = some (.aload_n 0) := by decide +kernel
theorem d158_184 : mm_dec q158 184 = some (.getfield 28) := by decide +kernel
theorem d158_187 : mm_dec q158 187 = some (.iload_n 1) := by decide +kernel
theorem d158_188 : mm_dec q158 188 = some (.aload_n 0) := by decide +kernel
theorem d158_189 : mm_dec q158 189 = some (.getfield 25) := by decide +kernel
theorem d158_192 : mm_dec q158 192 = some (.iload_n 1) := by decide +kernel
theorem d158_193 : mm_dec q158 193 = some (.iaload) := by decide +kernel
theorem d158_194 : mm_dec q158 194 = some (.iastore) := by decide +kernel
theorem d158_195 : mm_dec q158 195 = some (.iload_n 2) := by decide +kernel
theorem d158_196 : mm_dec q158 196 = some (.ifCond .eq 54) := by decide +kernel
theorem d158_199 : mm_dec q158 199 = some (.aload_n 0) := by decide +kernel
theorem d158_200 : mm_dec q158 200 = some (.getfield 120) := by decide +kernel
theorem d158_203 : mm_dec q158 203 = some (.iconst (-1)) := by decide +kernel
theorem d158_204 : mm_dec q158 204 = some (.if_icmp .ne 46) := by decide +kernel
theorem d158_207 : mm_dec q158 207 = some (.aload_n 0) := by decide +kernel
theorem d158_208 : mm_dec q158 208 = some (.invokevirtual 132) := by decide +kernel
theorem d158_211 : mm_dec q158 211 = some (.bipush 63) := by decide +kernel
theorem d158_213 : mm_dec q158 213 = some (.if_icmp .eq 8) := by decide +kernel
theorem d158_216 : mm_dec q158 216 = some (.aload_n 0) := by decide +kernel
theorem d158_217 : mm_dec q158 217 = some (.invokevirtual 129) := by decide +kernel
theorem d158_220 : mm_dec q158 220 = some (.return_) := by decide +kernel
theorem d158_221 : mm_dec q158 221 = some (.aload_n 0) := by decide +kernel
theorem d158_222 : mm_dec q158 222 = some (.dup) := by decide +kernel
theorem d158_223 : mm_dec q158 223 = some (.getfield 113) := by decide +kernel
theorem d158_226 : mm_dec q158 226 = some (.iconst 1) := by decide +kernel
theorem d158_227 : mm_dec q158 227 = some (.iadd) := by decide +kernel
theorem d158_228 : mm_dec q158 228 = some (.putfield 113) := by decide +kernel
theorem d158_231 : mm_dec q158 231 = some (.aload_n 0) := by decide +kernel
theorem d158_232 : mm_dec q158 232 = some (.getfield 28) := by decide +kernel
theorem d158_235 : mm_dec q158 235 = some (.iload_n 1) := by decide +kernel
theorem d158_236 : mm_dec q158 236 = some (.aload_n 0) := by decide +kernel
theorem d158_237 : mm_dec q158 237 = some (.getfield 19) := by decide +kernel
theorem d158_240 : mm_dec q158 240 = some (.aload_n 0) := by decide +kernel
theorem d158_241 : mm_dec q158 241 = some (.getfield 123) := by decide +kernel
theorem d158_244 : mm_dec q158 244 = some (.iaload) := by decide +kernel
theorem d158_245 : mm_dec q158 245 = some (.iastore) := by decide +kernel
theorem d158_246 : mm_dec q158 246 = some (.aload_n 0) := by decide +kernel
theorem d158_247 : mm_dec q158 247 = some (.invokevirtual 153) := by decide +kernel
theorem d158_250 : mm_dec q158 250 = some (.aload_n 0) := by decide +kernel
theorem d158_251 : mm_dec q158 251 = some (.getfield 31) := by decide +kernel
theorem d158_254 : mm_dec q158 254 = some (.iload_n 1) := by decide +kernel
theorem d158_255 : mm_dec q158 255 = some (.aload_n 0) := by decide +kernel
theorem d158_256 : mm_dec q158 256 = some (.getfield 19) := by decide +kernel
theorem d158_259 : mm_dec q158 259 = some (.aload_n 0) := by decide +kernel
theorem d158_260 : mm_dec q158 260 = some (.getfield 123) := by decide +kernel
theorem d158_263 : mm_dec q158 263 = some (.iaload) := by decide +kernel
theorem d158_264 : mm_dec q158 264 = some (.iastore) := by decide +kernel
theorem d158_265 : mm_dec q158 265 = some (.aload_n 0) := by decide +kernel
theorem d158_266 : mm_dec q158 266 = some (.getfield 22) := by decide +kernel
theorem d158_269 : mm_dec q158 269 = some (.aload_n 0) := by decide +kernel
theorem d158_270 : mm_dec q158 270 = some (.getfield 123) := by decide +kernel
theorem d158_273 : mm_dec q158 273 = some (.dup2) := by decide +kernel
theorem d158_274 : mm_dec q158 274 = some (.iaload) := by decide +kernel
