theorem d113_4 : mm_dec q113 4 = some (.ifCond .eq 8) := by decide +kernel
theorem d113_7 : mm_dec q113 7 = some (.iload_n 1) := by decide +kernel
theorem d113_8 : mm_dec q113 8 = some (.iconst (-1)) := by decide +kernel
theorem d113_9 : mm_dec q113 9 = some (.if_icmp .ge 5) := by decide +kernel
theorem d113_12 : mm_dec q113 12 = some (.iconst (-1)) := by decide +kernel
theorem d113_13 : mm_dec q113 13 = some (.ireturn) := by decide +kernel
theorem d113_14 : mm_dec q113 14 = some (.sipush 540) := by decide +kernel
theorem d113_17 : mm_dec q113 17 = some (.istore_n 2) := by decide +kernel
theorem d113_18 : mm_dec q113 18 = some (.aload_n 0) := by decide +kernel
theorem d113_19 : mm_dec q113 19 = some (.getfield 98) := by decide +kernel
theorem d113_22 : mm_dec q113 22 = some (.aload_n 0) := by decide +kernel
theorem d113_23 : mm_dec q113 23 = some (.getfield 73) := by decide +kernel
theorem d113_26 : mm_dec q113 26 = some (.iload_n 2) := by decide +kernel
theorem d113_27 : mm_dec q113 27 = some (.invokevirtual 163) := by decide +kernel
theorem d113_30 : mm_dec q113 30 = some (.aload_n 0) := by decide +kernel
theorem d113_31 : mm_dec q113 31 = some (.getfield 98) := by decide +kernel
theorem d113_34 : mm_dec q113 34 = some (.iload_n 2) := by decide +kernel
theorem d113_35 : mm_dec q113 35 = some (.invokevirtual 244) := by decide +kernel
theorem d113_38 : mm_dec q113 38 = some (.iconst 0) := by decide +kernel
theorem d113_39 : mm_dec q113 39 = some (.istore_n 3) := by decide +kernel
theorem d113_40 : mm_dec q113 40 = some (.iconst 0) := by decide +kernel
theorem d113_41 : mm_dec q113 41 = some (.istore 4) := by decide +kernel
theorem d113_43 : mm_dec q113 43 = some (.iload 4) := by decide +kernel
theorem d113_45 : mm_dec q113 45 = some (.sipush 480) := by decide +kernel
theorem d113_48 : mm_dec q113 48 = some (.if_icmp .ge 39) := by decide +kernel
theorem d113_51 : mm_dec q113 51 = some (.aload_n 0) := by decide +kernel
theorem d113_52 : mm_dec q113 52 = some (.getfield 89) := by decide +kernel
theorem d113_55 : mm_dec q113 55 = some (.aload_n 0) := by decide +kernel
theorem d113_56 : mm_dec q113 56 = some (.getfield 98) := by decide +kernel
theorem d113_59 : mm_dec q113 59 = some (.getfield 298) := by decide +kernel
theorem d113_62 : mm_dec q113 62 = some (.iload 4) := by decide +kernel
theorem d113_64 : mm_dec q113 64 = some (.invokevirtual 302) := by decide +kernel
theorem d113_67 : mm_dec q113 67 = some (.ifCond .eq 14) := by decide +kernel
theorem d113_70 : mm_dec q113 70 = some (.iload_n 3) := by decide +kernel
theorem d113_71 : mm_dec q113 71 = some (.iload_n 1) := by decide +kernel
theorem d113_72 : mm_dec q113 72 = some (.if_icmp .ne 6) := by decide +kernel
theorem d113_75 : mm_dec q113 75 = some (.iload 4) := by decide +kernel
theorem d113_77 : mm_dec q113 77 = some (.ireturn) := by decide +kernel
theorem d113_78 : mm_dec q113 78 = some (.iinc 3 1) := by decide +kernel
theorem d113_81 : mm_dec q113 81 = some (.iinc 4 1) := by decide +kernel
theorem d113_84 : mm_dec q113 84 = some (.goto (-41)) := by decide +kernel
theorem d113_87 : mm_dec q113 87 = some (.iload_n 1) := by decide +kernel
theorem d113_88 : mm_dec q113 88 = some (.iconst (-1)) := by decide +kernel
theorem d113_89 : mm_dec q113 89 = some (.if_icmp .ne 7) := by decide +kernel
theorem d113_92 : mm_dec q113 92 = some (.iload_n 3) := by decide +kernel
theorem d113_93 : mm_dec q113 93 = some (.goto 4) := by decide +kernel
theorem d113_96 : mm_dec q113 96 = some (.iconst (-1)) := by decide +kernel
theorem d113_97 : mm_dec q113 97 = some (.ireturn) := by decide +kernel
theorem d114_0 : mm_dec q114 0 = some (.aload_n 0) := by decide +kernel
theorem d114_1 : mm_dec q114 1 = some (.iload_n 1) := by decide +kernel
theorem d114_2 : mm_dec q114 2 = some (.invokevirtual 288) := by decide +kernel
theorem d114_5 : mm_dec q114 5 = some (.ifCond .eq 8) := by decide +kernel
theorem d114_8 : mm_dec q114 8 = some (.iload_n 2) := by decide +kernel
theorem d114_9 : mm_dec q114 9 = some (.iconst (-1)) := by decide +kernel
theorem d114_10 : mm_dec q114 10 = some (.if_icmp .ge 5) := by decide +kernel
theorem d114_13 : mm_dec q114 13 = some (.iconst (-1)) := by decide +kernel
theorem d114_14 : mm_dec q114 14 = some (.ireturn) := by decide +kernel
theorem d114_15 : mm_dec q114 15 = some (.aload_n 0) := by decide +kernel
theorem d114_16 : mm_dec q114 16 = some (.getfield 89) := by decide +kernel
theorem d114_19 : mm_dec q114 19 = some (.invokevirtual 306) := by decide +kernel
theorem d114_22 : mm_dec q114 22 = some (.iconst 1) := by decide +kernel
theorem d114_23 : mm_dec q114 23 = some (.iadd) := by decide +kernel
theorem d114_24 : mm_dec q114 24 = some (.istore_n 3) := by decide +kernel
theorem d114_25 : mm_dec q114 25 = some (.aload_n 0) := by decide +kernel
theorem d114_26 : mm_dec q114 26 = some (.getfield 98) := by decide +kernel
theorem d114_29 : mm_dec q114 29 = some (.aload_n 0) := by decide +kernel
theorem d114_30 : mm_dec q114 30 = some (.getfield 69) := by decide +kernel
theorem d114_33 : mm_dec q114 33 = some (.iload_n 3) := by decide +kernel
theorem d114_34 : mm_dec q114 34 = some (.invokevirtual 163) := by decide +kernel
theorem d114_37 : mm_dec q114 37 = some (.iconst 0) := by decide +kernel
theorem d114_38 : mm_dec q114 38 = some (.istore 4) := by decide +kernel
theorem d114_40 : mm_dec q114 40 = some (.iconst 0) := by decide +kernel
theorem d114_41 : mm_dec q114 41 = some (.istore 5) := by decide +kernel
theorem d114_43 : mm_dec q114 43 = some (.iload 5) := by decide +kernel
theorem d114_45 : mm_dec q114 45 = some (.bipush 60) := by decide +kernel
theorem d114_47 : mm_dec q114 47 = some (.if_icmp .ge 64) := by decide +kernel
theorem d114_50 : mm_dec q114 50 = some (.aload_n 0) := by decide +kernel
theorem d114_51 : mm_dec q114 51 = some (.getfield 98) := by decide +kernel
theorem d114_54 : mm_dec q114 54 = some (.invokevirtual 270) := by decide +kernel
theorem d114_57 : mm_dec q114 57 = some (.aload_n 0) := by decide +kernel
theorem d114_58 : mm_dec q114 58 = some (.getfield 98) := by decide +kernel
theorem d114_61 : mm_dec q114 61 = some (.iload_n 1) := by decide +kernel
theorem d114_62 : mm_dec q114 62 = some (.iload 5) := by decide +kernel
theorem d114_64 : mm_dec q114 64 = some (.invokevirtual 291) := by decide +kernel
theorem d114_67 : mm_dec q114 67 = some (.aload_n 0) := by decide +kernel
theorem d114_68 : mm_dec q114 68 = some (.getfield 98) := by decide +kernel
theorem d114_71 : mm_dec q114 71 = some (.iload_n 3) := by decide +kernel
theorem d114_72 : mm_dec q114 72 = some (.invokevirtual 244) := by decide +kernel
theorem d114_75 : mm_dec q114 75 = some (.aload_n 0) := by decide +kernel
theorem d114_76 : mm_dec q114 76 = some (.getfield 89) := by decide +kernel
theorem d114_79 : mm_dec q114 79 = some (.aload_n 0) := by decide +kernel
theorem d114_80 : mm_dec q114 80 = some (.getfield 98) := by decide +kernel
theorem d114_83 : mm_dec q114 83 = some (.getfield 298) := by decide +kernel
theorem d114_86 : mm_dec q114 86 = some (.iconst 0) := by decide +kernel
theorem d114_87 : mm_dec q114 87 = some (.invokevirtual 302) := by decide +kernel
theorem d114_90 : mm_dec q114 90 = some (.ifCond .eq 15) := by decide +kernel
theorem d114_93 : mm_dec q114 93 = some (.iload 4) := by decide +kernel
theorem d114_95 : mm_dec q114 95 = some (.iload_n 2) := by decide +kernel
theorem d114_96 : mm_dec q114 96 = some (.if_icmp .ne 6) := by decide +kernel
theorem d114_99 : mm_dec q114 99 = some (.iload 5) := by decide +kernel
theorem d114_101 : mm_dec q114 101 = some (.ireturn) := by decide +kernel
theorem d114_102 : mm_dec q114 102 = some (.iinc 4 1) := by decide +kernel
theorem d114_105 : mm_dec q114 105 = some (.iinc 5 1) := by decide +kernel
theorem d114_108 : mm_dec q114 108 = some (.goto (-65)) := by decide +kernel
theorem d114_111 : mm_dec q114 111 = some (.iload_n 2) := by decide +kernel
theorem d114_112 : mm_dec q114 112 = some (.iconst (-1)) := by decide +kernel
theorem d114_113 : mm_dec q114 113 = some (.if_icmp .ne 8) := by decide +kernel
theorem d114_116 : mm_dec q114 116 = some (.iload 4) := by decide +kernel
theorem d114_118 : mm_dec q114 118 = some (.goto 4) := by decide +kernel
theorem d114_121 : mm_dec q114 121 = some (.iconst (-1)) := by decide +kernel
theorem d114_122 : mm_dec q114 122 = some (.ireturn) := by decide +kernel
theorem d115_0 : mm_dec q115 0 = some (.aload_n 0) := by decide +kernel
theorem d115_1 : mm_dec q115 1 = some (.invokevirtual 189) := by decide +kernel
theorem d115_4 : mm_dec q115 4 = some (.ifCond .eq 14) := by decide +kernel
theorem d115_7 : mm_dec q115 7 = some (.iload_n 1) := by decide +kernel
theorem d115_8 : mm_dec q115 8 = some (.iconst 1) := by decide +kernel
theorem d115_9 : mm_dec q115 9 = some (.if_icmp .lt 9) := by decide +kernel
theorem d115_12 : mm_dec q115 12 = some (.iload_n 1) := by decide +kernel
theorem d115_13 : mm_dec q115 13 = some (.bipush 10) := by decide +kernel
theorem d115_15 : mm_dec q115 15 = some (.if_icmp .le 5) := by decide +kernel
theorem d115_18 : mm_dec q115 18 = some (.iconst (-1)) := by decide +kernel
theorem d115_19 : mm_dec q115 19 = some (.ireturn) := by decide +kernel
theorem d115_20 : mm_dec q115 20 = some (.aload_n 0) := by decide +kernel
theorem d115_21 : mm_dec q115 21 = some (.getfield 98) := by decide +kernel
theorem d115_24 : mm_dec q115 24 = some (.aload_n 0) := by decide +kernel
theorem d115_25 : mm_dec q115 25 = some (.getfield 69) := by decide +kernel
theorem d115_28 : mm_dec q115 28 = some (.iload_n 1) := by decide +kernel
theorem d115_29 : mm_dec q115 29 = some (.invokevirtual 163) := by decide +kernel
theorem d115_32 : mm_dec q115 32 = some (.aload_n 0) := by decide +kernel
theorem d115_33 : mm_dec q115 33 = some (.iload_n 1) := by decide +kernel
theorem d115_34 : mm_dec q115 34 = some (.iconst 0) := by decide +kernel
theorem d115_35 : mm_dec q115 35 = some (.aload_n 0) := by decide +kernel
theorem d115_36 : mm_dec q115 36 = some (.getfield 69) := by decide +kernel
theorem d115_39 : mm_dec q115 39 = some (.getfield 182) := by decide +kernel
theorem d115_42 : mm_dec q115 42 = some (.iconst 0) := by decide +kernel
theorem d115_43 : mm_dec q115 43 = some (.iaload) := by decide +kernel
theorem d115_44 : mm_dec q115 44 = some (.ldc2_w 309) := by decide +kernel
theorem d115_47 : mm_dec q115 47 = some (.invokevirtual 311) := by decide +kernel
theorem d115_50 : mm_dec q115 50 = some (.l2i) := by decide +kernel
theorem d115_51 : mm_dec q115 51 = some (.ireturn) := by decide +kernel
theorem d116_0 : mm_dec q116 0 = some (.iload_n 2) := by decide +kernel
theorem d116_1 : mm_dec q116 1 = some (.iload_n 1) := by decide +kernel
theorem d116_2 : mm_dec q116 2 = some (.if_icmp .ge 9) := by decide +kernel
theorem d116_5 : mm_dec q116 5 = some (.iload_n 2) := by decide +kernel
theorem d116_6 : mm_dec q116 6 = some (.bipush 10) := by decide +kernel
theorem d116_8 : mm_dec q116 8 = some (.if_icmp .lt 14) := by decide +kernel
theorem d116_11 : mm_dec q116 11 = some (.iload_n 3) := by decide +kernel
theorem d116_12 : mm_dec q116 12 = some (.ifCond .ne 8) := by decide +kernel
theorem d116_15 : mm_dec q116 15 = some (.lload 4) := by decide +kernel
theorem d116_17 : mm_dec q116 17 = some (.goto 4) := by decide +kernel
theorem d116_20 : mm_dec q116 20 = some (.lconst 0) := by decide +kernel
theorem d116_21 : mm_dec q116 21 = some (.lreturn) := by decide +kernel
theorem d116_22 : mm_dec q116 22 = some (.lload 4) := by decide +kernel
theorem d116_24 : mm_dec q116 24 = some (.lconst 0) := by decide +kernel
theorem d116_25 : mm_dec q116 25 = some (.lcmp) := by decide +kernel
theorem d116_26 : mm_dec q116 26 = some (.ifCond .ne 7) := by decide +kernel
theorem d116_29 : mm_dec q116 29 = some (.lconst 0) := by decide +kernel
theorem d116_30 : mm_dec q116 30 = some (.goto 12) := by decide +kernel
theorem d116_33 : mm_dec q116 33 = some (.aload_n 0) := by decide +kernel
theorem d116_34 : mm_dec q116 34 = some (.iload_n 1) := by decide +kernel
theorem d116_35 : mm_dec q116 35 = some (.iload_n 2) := by decide +kernel
theorem d116_36 : mm_dec q116 36 = some (.iload_n 3) := by decide +kernel
theorem d116_37 : mm_dec q116 37 = some (.lload 4) := by decide +kernel
theorem d116_39 : mm_dec q116 39 = some (.invokevirtual 315) := by decide +kernel
theorem d116_42 : mm_dec q116 42 = some (.lreturn) := by decide +kernel
theorem d117_0 : mm_dec q117 0 = some (.aload_n 0) := by decide +kernel
theorem d117_1 : mm_dec q117 1 = some (.getfield 69) := by decide +kernel
theorem d117_4 : mm_dec q117 4 = some (.getfield 217) := by decide +kernel
theorem d117_7 : mm_dec q117 7 = some (.iload_n 2) := by decide +kernel
theorem d117_8 : mm_dec q117 8 = some (.iadd) := by decide +kernel
theorem d117_9 : mm_dec q117 9 = some (.istore 6) := by decide +kernel
theorem d117_11 : mm_dec q117 11 = some (.aload_n 0) := by decide +kernel
theorem d117_12 : mm_dec q117 12 = some (.getfield 28) := by decide +kernel
theorem d117_15 : mm_dec q117 15 = some (.aload_n 0) := by decide +kernel
theorem d117_16 : mm_dec q117 16 = some (.getfield 98) := by decide +kernel
theorem d117_19 : mm_dec q117 19 = some (.iload_n 2) := by decide +kernel
theorem d117_20 : mm_dec q117 20 = some (.iload_n 3) := by decide +kernel
theorem d117_21 : mm_dec q117 21 = some (.invokevirtual 318) := by decide +kernel
theorem d117_24 : mm_dec q117 24 = some (.iload 6) := by decide +kernel
theorem d117_26 : mm_dec q117 26 = some (.aload_n 0) := by decide +kernel
theorem d117_27 : mm_dec q117 27 = some (.getfield 28) := by decide +kernel
theorem d117_30 : mm_dec q117 30 = some (.aload_n 0) := by decide +kernel
theorem d117_31 : mm_dec q117 31 = some (.getfield 28) := by decide +kernel
theorem d117_34 : mm_dec q117 34 = some (.invokevirtual 224) := by decide +kernel
theorem d117_37 : mm_dec q117 37 = some (.invokevirtual 227) := by decide +kernel
theorem d117_40 : mm_dec q117 40 = some (.invokevirtual 230) := by decide +kernel
theorem d117_43 : mm_dec q117 43 = some (.ifCond .eq 7) := by decide +kernel
theorem d117_46 : mm_dec q117 46 = some (.iconst 1) := by decide +kernel
theorem d117_47 : mm_dec q117 47 = some (.goto 4) := by decide +kernel
theorem d117_50 : mm_dec q117 50 = some (.iconst 0) := by decide +kernel
theorem d117_51 : mm_dec q117 51 = some (.istore 7) := by decide +kernel
theorem d117_53 : mm_dec q117 53 = some (.iload_n 3) := by decide +kernel
theorem d117_54 : mm_dec q117 54 = some (.aload_n 0) := by decide +kernel
theorem d117_55 : mm_dec q117 55 = some (.getfield 28) := by decide +kernel
theorem d117_58 : mm_dec q117 58 = some (.iconst 0) := by decide +kernel
theorem d117_59 : mm_dec q117 59 = some (.iload 6) := by decide +kernel
theorem d117_61 : mm_dec q117 61 = some (.invokevirtual 320) := by decide +kernel
theorem d117_64 : mm_dec q117 64 = some (.iadd) := by decide +kernel
theorem d117_65 : mm_dec q117 65 = some (.istore 8) := by decide +kernel
theorem d117_67 : mm_dec q117 67 = some (.lload 4) := by decide +kernel
theorem d117_69 : mm_dec q117 69 = some (.aload_n 0) := by decide +kernel
theorem d117_70 : mm_dec q117 70 = some (.getfield 203) := by decide +kernel
theorem d117_73 : mm_dec q117 73 = some (.i2l) := by decide +kernel
theorem d117_74 : mm_dec q117 74 = some (.lmul) := by decide +kernel
theorem d117_75 : mm_dec q117 75 = some (.ldc2_w 323) := by decide +kernel
theorem d117_78 : mm_dec q117 78 = some (.ldiv) := by decide +kernel
theorem d117_79 : mm_dec q117 79 = some (.lstore 9) := by decide +kernel
theorem d117_81 : mm_dec q117 81 = some (.aload_n 0) := by decide +kernel
theorem d117_82 : mm_dec q117 82 = some (.iload_n 1) := by decide +kernel
theorem d117_83 : mm_dec q117 83 = some (.iload_n 2) := by decide +kernel
theorem d117_84 : mm_dec q117 84 = some (.iconst 1) := by decide +kernel
theorem d117_85 : mm_dec q117 85 = some (.iadd) := by decide +kernel
theorem d117_86 : mm_dec q117 86 = some (.aload_n 0) := by decide +kernel
theorem d117_87 : mm_dec q117 87 = some (.getfield 28) := by decide +kernel
theorem d117_90 : mm_dec q117 90 = some (.iconst 0) := by decide +kernel
theorem d117_91 : mm_dec q117 91 = some (.iload 8) := by decide +kernel
theorem d117_93 : mm_dec q117 93 = some (.iconst 1) := by decide +kernel
theorem d117_94 : mm_dec q117 94 = some (.invokevirtual 325) := by decide +kernel
theorem d117_97 : mm_dec q117 97 = some (.lload 9) := by decide +kernel
theorem d117_99 : mm_dec q117 99 = some (.invokevirtual 311) := by decide +kernel
theorem d117_102 : mm_dec q117 102 = some (.aload_n 0) := by decide +kernel
theorem d117_103 : mm_dec q117 103 = some (.iload_n 1) := by decide +kernel
theorem d117_104 : mm_dec q117 104 = some (.iload_n 2) := by decide +kernel
theorem d117_105 : mm_dec q117 105 = some (.iconst 1) := by decide +kernel
theorem d117_106 : mm_dec q117 106 = some (.iadd) := by decide +kernel
theorem d117_107 : mm_dec q117 107 = some (.aload_n 0) := by decide +kernel
theorem d117_108 : mm_dec q117 108 = some (.getfield 28) := by decide +kernel
theorem d117_111 : mm_dec q117 111 = some (.iconst 0) := by decide +kernel
theorem d117_112 : mm_dec q117 112 = some (.iload 8) := by decide +kernel
theorem d117_114 : mm_dec q117 114 = some (.iload 7) := by decide +kernel
theorem d117_116 : mm_dec q117 116 = some (.invokevirtual 325) := by decide +kernel
theorem d117_119 : mm_dec q117 119 = some (.lload 4) := by decide +kernel
theorem d117_121 : mm_dec q117 121 = some (.lload 9) := by decide +kernel
theorem d117_123 : mm_dec q117 123 = some (.lsub) := by decide +kernel
theorem d117_124 : mm_dec q117 124 = some (.invokevirtual 311) := by decide +kernel
theorem d117_127 : mm_dec q117 127 = some (.ladd) := by decide +kernel
theorem d117_128 : mm_dec q117 128 = some (.lreturn) := by decide +kernel
theorem d118_0 : mm_dec q118 0 = some (.aload_n 0) := by decide +kernel
theorem d118_1 : mm_dec q118 1 = some (.iload_n 1) := by decide +kernel
theorem d118_2 : mm_dec q118 2 = some (.invokevirtual 176) := by decide +kernel
theorem d118_5 : mm_dec q118 5 = some (.ifCond .eq 19) := by decide +kernel
theorem d118_8 : mm_dec q118 8 = some (.iload_n 2) := by decide +kernel
theorem d118_9 : mm_dec q118 9 = some (.invokestatic 210) := by decide +kernel
theorem d118_12 : mm_dec q118 12 = some (.ifCond .eq 12) := by decide +kernel
theorem d118_15 : mm_dec q118 15 = some (.iload_n 3) := by decide +kernel
theorem d118_16 : mm_dec q118 16 = some (.ifCond .lt 8) := by decide +kernel
theorem d118_19 : mm_dec q118 19 = some (.iload_n 3) := by decide +kernel
theorem d118_20 : mm_dec q118 20 = some (.iconst 1) := by decide +kernel
theorem d118_21 : mm_dec q118 21 = some (.if_icmp .le 5) := by decide +kernel
theorem d118_24 : mm_dec q118 24 = some (.iconst (-1)) := by decide +kernel
theorem d118_25 : mm_dec q118 25 = some (.ireturn) := by decide +kernel
theorem d118_26 : mm_dec q118 26 = some (.aload_n 0) := by decide +kernel
theorem d118_27 : mm_dec q118 27 = some (.getfield 98) := by decide +kernel
theorem d118_30 : mm_dec q118 30 = some (.aload_n 0) := by decide +kernel
theorem d118_31 : mm_dec q118 31 = some (.getfield 69) := by decide +kernel
theorem d118_34 : mm_dec q118 34 = some (.iload_n 2) := by decide +kernel
theorem d118_35 : mm_dec q118 35 = some (.invokevirtual 163) := by decide +kernel
theorem d118_38 : mm_dec q118 38 = some (.iconst (-1)) := by decide +kernel
theorem d118_39 : mm_dec q118 39 = some (.istore 4) := by decide +kernel
theorem d118_41 : mm_dec q118 41 = some (.iconst 0) := by decide +kernel
theorem d118_42 : mm_dec q118 42 = some (.istore 5) := by decide +kernel
theorem d118_44 : mm_dec q118 44 = some (.iconst 0) := by decide +kernel
theorem d118_45 : mm_dec q118 45 = some (.istore 6) := by decide +kernel
theorem d118_47 : mm_dec q118 47 = some (.iload 6) := by decide +kernel
theorem d118_49 : mm_dec q118 49 = some (.iload_n 2) := by decide +kernel
theorem d118_50 : mm_dec q118 50 = some (.if_icmp .ge 53) := by decide +kernel
theorem d118_53 : mm_dec q118 53 = some (.aload_n 0) := by decide +kernel
theorem d118_54 : mm_dec q118 54 = some (.getfield 98) := by decide +kernel
theorem d118_57 : mm_dec q118 57 = some (.invokevirtual 167) := by decide +kernel
theorem d118_60 : mm_dec q118 60 = some (.aload_n 0) := by decide +kernel
theorem d118_61 : mm_dec q118 61 = some (.getfield 98) := by decide +kernel
theorem d118_64 : mm_dec q118 64 = some (.getfield 247) := by decide +kernel
theorem d118_67 : mm_dec q118 67 = some (.getfield 182) := by decide +kernel
theorem d118_70 : mm_dec q118 70 = some (.iload_n 1) := by decide +kernel
theorem d118_71 : mm_dec q118 71 = some (.iaload) := by decide +kernel
theorem d118_72 : mm_dec q118 72 = some (.iload 4) := by decide +kernel
theorem d118_74 : mm_dec q118 74 = some (.if_icmp .le 23) := by decide +kernel
theorem d118_77 : mm_dec q118 77 = some (.aload_n 0) := by decide +kernel
theorem d118_78 : mm_dec q118 78 = some (.getfield 98) := by decide +kernel
theorem d118_81 : mm_dec q118 81 = some (.getfield 247) := by decide +kernel
theorem d118_84 : mm_dec q118 84 = some (.getfield 182) := by decide +kernel
theorem d118_87 : mm_dec q118 87 = some (.iload_n 1) := by decide +kernel
theorem d118_88 : mm_dec q118 88 = some (.iaload) := by decide +kernel
theorem d118_89 : mm_dec q118 89 = some (.istore 4) := by decide +kernel
theorem d118_91 : mm_dec q118 91 = some (.iload 6) := by decide +kernel
theorem d118_93 : mm_dec q118 93 = some (.iconst 1) := by decide +kernel
theorem d118_94 : mm_dec q118 94 = some (.iadd) := by decide +kernel
theorem d118_95 : mm_dec q118 95 = some (.istore 5) := by decide +kernel
theorem d118_97 : mm_dec q118 97 = some (.iinc 6 1) := by decide +kernel
theorem d118_100 : mm_dec q118 100 = some (.goto (-53)) := by decide +kernel
theorem d118_103 : mm_dec q118 103 = some (.iload_n 3) := by decide +kernel
theorem d118_104 : mm_dec q118 104 = some (.ifCond .ne 8) := by decide +kernel
theorem d118_107 : mm_dec q118 107 = some (.iload 4) := by decide +kernel
theorem d118_109 : mm_dec q118 109 = some (.goto 5) := by decide +kernel
theorem d118_112 : mm_dec q118 112 = some (.iload 5) := by decide +kernel
theorem d118_114 : mm_dec q118 114 = some (.ireturn) := by decide +kernel
theorem d119_0 : mm_dec q119 0 = some (.aload_n 0) := by decide +kernel
theorem d119_1 : mm_dec q119 1 = some (.iload_n 1) := by decide +kernel
theorem d119_2 : mm_dec q119 2 = some (.invokevirtual 176) := by decide +kernel
theorem d119_5 : mm_dec q119 5 = some (.ifCond .ne 5) := by decide +kernel
theorem d119_8 : mm_dec q119 8 = some (.iconst (-1)) := by decide +kernel
theorem d119_9 : mm_dec q119 9 = some (.ireturn) := by decide +kernel
theorem d119_10 : mm_dec q119 10 = some (.aload_n 0) := by decide +kernel
theorem d119_11 : mm_dec q119 11 = some (.getfield 98) := by decide +kernel
theorem d119_14 : mm_dec q119 14 = some (.aload_n 0) := by decide +kernel
theorem d119_15 : mm_dec q119 15 = some (.getfield 69) := by decide +kernel
theorem d119_18 : mm_dec q119 18 = some (.sipush 240) := by decide +kernel
theorem d119_21 : mm_dec q119 21 = some (.invokevirtual 163) := by decide +kernel
theorem d119_24 : mm_dec q119 24 = some (.iconst 1) := by decide +kernel
theorem d119_25 : mm_dec q119 25 = some (.istore_n 2) := by decide +kernel
theorem d119_26 : mm_dec q119 26 = some (.iload_n 2) := by decide +kernel
theorem d119_27 : mm_dec q119 27 = some (.sipush 240) := by decide +kernel
theorem d119_30 : mm_dec q119 30 = some (.if_icmp .gt 33) := by decide +kernel
theorem d119_33 : mm_dec q119 33 = some (.aload_n 0) := by decide +kernel
theorem d119_34 : mm_dec q119 34 = some (.getfield 98) := by decide +kernel
theorem d119_37 : mm_dec q119 37 = some (.invokevirtual 167) := by decide +kernel
theorem d119_40 : mm_dec q119 40 = some (.aload_n 0) := by decide +kernel
theorem d119_41 : mm_dec q119 41 = some (.getfield 98) := by decide +kernel
theorem d119_44 : mm_dec q119 44 = some (.getfield 247) := by decide +kernel
theorem d119_47 : mm_dec q119 47 = some (.getfield 182) := by decide +kernel
theorem d119_50 : mm_dec q119 50 = some (.iload_n 1) := by decide +kernel
theorem d119_51 : mm_dec q119 51 = some (.iaload) := by decide +kernel
theorem d119_52 : mm_dec q119 52 = some (.ifCond .ne 5) := by decide +kernel
theorem d119_55 : mm_dec q119 55 = some (.iload_n 2) := by decide +kernel
theorem d119_56 : mm_dec q119 56 = some (.ireturn) := by decide +kernel
theorem d119_57 : mm_dec q119 57 = some (.iinc 2 1) := by decide +kernel
theorem d119_60 : mm_dec q119 60 = some (.goto (-34)) := by decide +kernel
theorem d119_63 : mm_dec q119 63 = some (.iconst (-1)) := by decide +kernel
theorem d119_64 : mm_dec q119 64 = some (.ireturn) := by decide +kernel
theorem d120_0 : mm_dec q120 0 = some (.aload_n 0) := by decide +kernel
theorem d120_1 : mm_dec q120 1 = some (.iload_n 1) := by decide +kernel
theorem d120_2 : mm_dec q120 2 = some (.invokevirtual 148) := by decide +kernel
theorem d120_5 : mm_dec q120 5 = some (.ifCond .eq 10) := by decide +kernel
theorem d120_8 : mm_dec q120 8 = some (.iload_n 2) := by decide +kernel
theorem d120_9 : mm_dec q120 9 = some (.invokestatic 210) := by decide +kernel
theorem d120_12 : mm_dec q120 12 = some (.ifCond .ne 5) := by decide +kernel
theorem d120_15 : mm_dec q120 15 = some (.iconst (-1)) := by decide +kernel
theorem d120_16 : mm_dec q120 16 = some (.ireturn) := by decide +kernel
theorem d120_17 : mm_dec q120 17 = some (.aload_n 0) := by decide +kernel
theorem d120_18 : mm_dec q120 18 = some (.getfield 98) := by decide +kernel
theorem d120_21 : mm_dec q120 21 = some (.aload_n 0) := by decide +kernel
theorem d120_22 : mm_dec q120 22 = some (.getfield 69) := by decide +kernel
theorem d120_25 : mm_dec q120 25 = some (.iload_n 2) := by decide +kernel
theorem d120_26 : mm_dec q120 26 = some (.invokevirtual 163) := by decide +kernel
theorem d120_29 : mm_dec q120 29 = some (.iconst 0) := by decide +kernel
theorem d120_30 : mm_dec q120 30 = some (.istore_n 3) := by decide +kernel
theorem d120_31 : mm_dec q120 31 = some (.iconst 0) := by decide +kernel
theorem d120_32 : mm_dec q120 32 = some (.istore 4) := by decide +kernel
theorem d120_34 : mm_dec q120 34 = some (.iload 4) := by decide +kernel
theorem d120_36 : mm_dec q120 36 = some (.iload_n 2) := by decide +kernel
theorem d120_37 : mm_dec q120 37 = some (.if_icmp .ge 37) := by decide +kernel
theorem d120_40 : mm_dec q120 40 = some (.aload_n 0) := by decide +kernel
theorem d120_41 : mm_dec q120 41 = some (.getfield 98) := by decide +kernel
theorem d120_44 : mm_dec q120 44 = some (.invokevirtual 167) := by decide +kernel
theorem d120_47 : mm_dec q120 47 = some (.iload_n 3) := by decide +kernel
theorem d120_48 : mm_dec q120 48 = some (.aload_n 0) := by decide +kernel
theorem d120_49 : mm_dec q120 49 = some (.getfield 98) := by decide +kernel
theorem d120_52 : mm_dec q120 52 = some (.getfield 173) := by decide +kernel
theorem d120_55 : mm_dec q120 55 = some (.iconst 1) := by decide +kernel
theorem d120_56 : mm_dec q120 56 = some (.iload_n 1) := by decide +kernel
theorem d120_57 : mm_dec q120 57 = some (.ishl) := by decide +kernel
theorem d120_58 : mm_dec q120 58 = some (.if_icmp .ne 7) := by decide +kernel
theorem d120_61 : mm_dec q120 61 = some (.iconst 1) := by decide +kernel
theorem d120_62 : mm_dec q120 62 = some (.goto 4) := by decide +kernel
theorem d120_65 : mm_dec q120 65 = some (.iconst 0) := by decide +kernel
theorem d120_66 : mm_dec q120 66 = some (.iadd) := by decide +kernel
theorem d120_67 : mm_dec q120 67 = some (.istore_n 3) := by decide +kernel
theorem d120_68 : mm_dec q120 68 = some (.iinc 4 1) := by decide +kernel
theorem d120_71 : mm_dec q120 71 = some (.goto (-37)) := by decide +kernel
theorem d120_74 : mm_dec q120 74 = some (.iload_n 3) := by decide +kernel
theorem d120_75 : mm_dec q120 75 = some (.ireturn) := by decide +kernel
theorem d121_0 : mm_dec q121 0 = some (.aload_n 0) := by decide +kernel
theorem d121_1 : mm_dec q121 1 = some (.iload_n 1) := by decide +kernel
theorem d121_2 : mm_dec q121 2 = some (.invokevirtual 176) := by decide +kernel
theorem d121_5 : mm_dec q121 5 = some (.ifCond .eq 7) := by decide +kernel
theorem d121_8 : mm_dec q121 8 = some (.iload_n 2) := by decide +kernel
theorem d121_9 : mm_dec q121 9 = some (.ifCond .ge 5) := by decide +kernel
theorem d121_12 : mm_dec q121 12 = some (.iconst (-1)) := by decide +kernel
theorem d121_13 : mm_dec q121 13 = some (.ireturn) := by decide +kernel
theorem d121_14 : mm_dec q121 14 = some (.aload_n 0) := by decide +kernel
theorem d121_15 : mm_dec q121 15 = some (.getfield 98) := by decide +kernel
theorem d121_18 : mm_dec q121 18 = some (.aload_n 0) := by decide +kernel
theorem d121_19 : mm_dec q121 19 = some (.getfield 69) := by decide +kernel
theorem d121_22 : mm_dec q121 22 = some (.sipush 240) := by decide +kernel
theorem d121_25 : mm_dec q121 25 = some (.invokevirtual 163) := by decide +kernel
theorem d121_28 : mm_dec q121 28 = some (.aload_n 0) := by decide +kernel
theorem d121_29 : mm_dec q121 29 = some (.getfield 69) := by decide +kernel
theorem d121_32 : mm_dec q121 32 = some (.getfield 182) := by decide +kernel
theorem d121_35 : mm_dec q121 35 = some (.iload_n 1) := by decide +kernel
theorem d121_36 : mm_dec q121 36 = some (.iaload) := by decide +kernel
theorem d121_37 : mm_dec q121 37 = some (.istore_n 3) := by decide +kernel
theorem d121_38 : mm_dec q121 38 = some (.iconst 0) := by decide +kernel
theorem d121_39 : mm_dec q121 39 = some (.istore 4) := by decide +kernel
theorem d121_41 : mm_dec q121 41 = some (.iconst 0) := by decide +kernel
theorem d121_42 : mm_dec q121 42 = some (.istore 5) := by decide +kernel
theorem d121_44 : mm_dec q121 44 = some (.iload 5) := by decide +kernel
theorem d121_46 : mm_dec q121 46 = some (.sipush 240) := by decide +kernel
theorem d121_49 : mm_dec q121 49 = some (.if_icmp .ge 90) := by decide +kernel
theorem d121_52 : mm_dec q121 52 = some (.aload_n 0) := by decide +kernel
theorem d121_53 : mm_dec q121 53 = some (.getfield 28) := by decide +kernel
theorem d121_56 : mm_dec q121 56 = some (.iload_n 1) := by decide +kernel
theorem d121_57 : mm_dec q121 57 = some (.aload_n 0) := by decide +kernel
theorem d121_58 : mm_dec q121 58 = some (.getfield 98) := by decide +kernel
theorem d121_61 : mm_dec q121 61 = some (.getfield 247) := by decide +kernel
theorem d121_64 : mm_dec q121 64 = some (.getfield 217) := by decide +kernel
theorem d121_67 : mm_dec q121 67 = some (.invokevirtual 320) := by decide +kernel
theorem d121_70 : mm_dec q121 70 = some (.istore 6) := by decide +kernel
theorem d121_72 : mm_dec q121 72 = some (.iload 6) := by decide +kernel
theorem d121_74 : mm_dec q121 74 = some (.ifCond .le 17) := by decide +kernel
theorem d121_77 : mm_dec q121 77 = some (.iload 4) := by decide +kernel
theorem d121_79 : mm_dec q121 79 = some (.iload_n 2) := by decide +kernel
theorem d121_80 : mm_dec q121 80 = some (.if_icmp .gt 11) := by decide +kernel
theorem d121_83 : mm_dec q121 83 = some (.iload_n 3) := by decide +kernel
theorem d121_84 : mm_dec q121 84 = some (.iload 6) := by decide +kernel
theorem d121_86 : mm_dec q121 86 = some (.iadd) := by decide +kernel
theorem d121_87 : mm_dec q121 87 = some (.istore_n 3) := by decide +kernel
theorem d121_88 : mm_dec q121 88 = some (.iinc 4 1) := by decide +kernel
theorem d121_91 : mm_dec q121 91 = some (.aload_n 0) := by decide +kernel
theorem d121_92 : mm_dec q121 92 = some (.getfield 98) := by decide +kernel
theorem d121_95 : mm_dec q121 95 = some (.invokevirtual 167) := by decide +kernel
theorem d121_98 : mm_dec q121 98 = some (.iload 4) := by decide +kernel
theorem d121_100 : mm_dec q121 100 = some (.iload_n 2) := by decide +kernel
theorem d121_101 : mm_dec q121 101 = some (.if_icmp .le 32) := by decide +kernel
theorem d121_104 : mm_dec q121 104 = some (.aload_n 0) := by decide +kernel
theorem d121_105 : mm_dec q121 105 = some (.getfield 98) := by decide +kernel
theorem d121_108 : mm_dec q121 108 = some (.getfield 247) := by decide +kernel
theorem d121_111 : mm_dec q121 111 = some (.getfield 186) := by decide +kernel
theorem d121_114 : mm_dec q121 114 = some (.iload_n 1) := by decide +kernel
theorem d121_115 : mm_dec q121 115 = some (.iaload) := by decide +kernel
theorem d121_116 : mm_dec q121 116 = some (.aload_n 0) := by decide +kernel
theorem d121_117 : mm_dec q121 117 = some (.getfield 69) := by decide +kernel
theorem d121_120 : mm_dec q121 120 = some (.getfield 186) := by decide +kernel
theorem d121_123 : mm_dec q121 123 = some (.iload_n 1) := by decide +kernel
theorem d121_124 : mm_dec q121 124 = some (.iaload) := by decide +kernel
theorem d121_125 : mm_dec q121 125 = some (.isub) := by decide +kernel
theorem d121_126 : mm_dec q121 126 = some (.iload_n 3) := by decide +kernel
theorem d121_127 : mm_dec q121 127 = some (.if_icmp .lt 6) := by decide +kernel
theorem d121_130 : mm_dec q121 130 = some (.iload 5) := by decide +kernel
theorem d121_132 : mm_dec q121 132 = some (.ireturn) := by decide +kernel
theorem d121_133 : mm_dec q121 133 = some (.iinc 5 1) := by decide +kernel
theorem d121_136 : mm_dec q121 136 = some (.goto (-92)) := by decide +kernel
theorem d121_139 : mm_dec q121 139 = some (.iconst (-1)) := by decide +kernel
theorem d121_140 : mm_dec q121 140 = some (.ireturn) := by decide +kernel
theorem d122_0 : mm_dec q122 0 = some (.aload_n 0) := by decide +kernel
theorem d122_1 : mm_dec q122 1 = some (.invokevirtual 189) := by decide +kernel
theorem d122_4 : mm_dec q122 4 = some (.ifCond .eq 29) := by decide +kernel
theorem d122_7 : mm_dec q122 7 = some (.aload_n 0) := by decide +kernel
theorem d122_8 : mm_dec q122 8 = some (.getfield 28) := by decide +kernel
theorem d122_11 : mm_dec q122 11 = some (.getfield 329) := by decide +kernel
theorem d122_14 : mm_dec q122 14 = some (.ifCond .eq 19) := by decide +kernel
theorem d122_17 : mm_dec q122 17 = some (.iload_n 1) := by decide +kernel
theorem d122_18 : mm_dec q122 18 = some (.invokestatic 210) := by decide +kernel
theorem d122_21 : mm_dec q122 21 = some (.ifCond .eq 12) := by decide +kernel
theorem d122_24 : mm_dec q122 24 = some (.iload_n 2) := by decide +kernel
theorem d122_25 : mm_dec q122 25 = some (.ifCond .lt 8) := by decide +kernel
theorem d122_28 : mm_dec q122 28 = some (.iload_n 2) := by decide +kernel
theorem d122_29 : mm_dec q122 29 = some (.iconst 1) := by decide +kernel
theorem d122_30 : mm_dec q122 30 = some (.if_icmp .le 5) := by decide +kernel
theorem d122_33 : mm_dec q122 33 = some (.iconst (-1)) := by decide +kernel
theorem d122_34 : mm_dec q122 34 = some (.ireturn) := by decide +kernel
theorem d122_35 : mm_dec q122 35 = some (.aload_n 0) := by decide +kernel
theorem d122_36 : mm_dec q122 36 = some (.getfield 98) := by decide +kernel
theorem d122_39 : mm_dec q122 39 = some (.aload_n 0) := by decide +kernel
theorem d122_40 : mm_dec q122 40 = some (.getfield 69) := by decide +kernel
theorem d122_43 : mm_dec q122 43 = some (.iload_n 1) := by decide +kernel
theorem d122_44 : mm_dec q122 44 = some (.invokevirtual 163) := by decide +kernel
theorem d122_47 : mm_dec q122 47 = some (.iconst 0) := by decide +kernel
theorem d122_48 : mm_dec q122 48 = some (.istore_n 3) := by decide +kernel
theorem d122_49 : mm_dec q122 49 = some (.iload_n 3) := by decide +kernel
theorem d122_50 : mm_dec q122 50 = some (.bipush 10) := by decide +kernel
theorem d122_52 : mm_dec q122 52 = some (.if_icmp .ge 48) := by decide +kernel
theorem d122_55 : mm_dec q122 55 = some (.aload_n 0) := by decide +kernel
theorem d122_56 : mm_dec q122 56 = some (.getfield 98) := by decide +kernel
theorem d122_59 : mm_dec q122 59 = some (.invokevirtual 270) := by decide +kernel
theorem d122_62 : mm_dec q122 62 = some (.aload_n 0) := by decide +kernel
theorem d122_63 : mm_dec q122 63 = some (.getfield 98) := by decide +kernel
theorem d122_66 : mm_dec q122 66 = some (.aload_n 0) := by decide +kernel
theorem d122_67 : mm_dec q122 67 = some (.getfield 28) := by decide +kernel
theorem d122_70 : mm_dec q122 70 = some (.iload_n 3) := by decide +kernel
theorem d122_71 : mm_dec q122 71 = some (.invokevirtual 227) := by decide +kernel
theorem d122_74 : mm_dec q122 74 = some (.putfield 332) := by decide +kernel
theorem d122_77 : mm_dec q122 77 = some (.aload_n 0) := by decide +kernel
theorem d122_78 : mm_dec q122 78 = some (.getfield 98) := by decide +kernel
theorem d122_81 : mm_dec q122 81 = some (.iload_n 3) := by decide +kernel
theorem d122_82 : mm_dec q122 82 = some (.aload_n 0) := by decide +kernel
theorem d122_83 : mm_dec q122 83 = some (.getfield 98) := by decide +kernel
theorem d122_86 : mm_dec q122 86 = some (.iconst 0) := by decide +kernel
theorem d122_87 : mm_dec q122 87 = some (.iload_n 1) := by decide +kernel
theorem d122_88 : mm_dec q122 88 = some (.invokevirtual 250) := by decide +kernel
theorem d122_91 : mm_dec q122 91 = some (.invokevirtual 278) := by decide +kernel
theorem d122_94 : mm_dec q122 94 = some (.iinc 3 1) := by decide +kernel
theorem d122_97 : mm_dec q122 97 = some (.goto (-48)) := by decide +kernel
theorem d122_100 : mm_dec q122 100 = some (.iload_n 2) := by decide +kernel
theorem d122_101 : mm_dec q122 101 = some (.ifCond .ne 13) := by decide +kernel
theorem d122_104 : mm_dec q122 104 = some (.aload_n 0) := by decide +kernel
theorem d122_105 : mm_dec q122 105 = some (.getfield 98) := by decide +kernel
theorem d122_108 : mm_dec q122 108 = some (.getfield 282) := by decide +kernel
theorem d122_111 : mm_dec q122 111 = some (.goto 10) := by decide +kernel
theorem d122_114 : mm_dec q122 114 = some (.aload_n 0) := by decide +kernel
theorem d122_115 : mm_dec q122 115 = some (.getfield 98) := by decide +kernel
theorem d122_118 : mm_dec q122 118 = some (.getfield 285) := by decide +kernel
theorem d122_121 : mm_dec q122 121 = some (.ireturn) := by decide +kernel
theorem d123_0 : mm_dec q123 0 = some (.aload_n 0) := by decide +kernel
theorem d123_1 : mm_dec q123 1 = some (.invokevirtual 189) := by decide +kernel
theorem d123_4 : mm_dec q123 4 = some (.ifCond .ne 5) := by decide +kernel
theorem d123_7 : mm_dec q123 7 = some (.iconst (-1)) := by decide +kernel
theorem d123_8 : mm_dec q123 8 = some (.ireturn) := by decide +kernel
theorem d123_9 : mm_dec q123 9 = some (.aload_n 0) := by decide +kernel
theorem d123_10 : mm_dec q123 10 = some (.getfield 76) := by decide +kernel
theorem d123_13 : mm_dec q123 13 = some (.aload_n 0) := by decide +kernel
theorem d123_14 : mm_dec q123 14 = some (.getfield 69) := by decide +kernel
theorem d123_17 : mm_dec q123 17 = some (.invokevirtual 334) := by decide +kernel
theorem d123_20 : mm_dec q123 20 = some (.aload_n 0) := by decide +kernel
theorem d123_21 : mm_dec q123 21 = some (.iconst 1) := by decide +kernel
theorem d123_22 : mm_dec q123 22 = some (.putfield 135) := by decide +kernel
theorem d123_25 : mm_dec q123 25 = some (.aload_n 0) := by decide +kernel
theorem d123_26 : mm_dec q123 26 = some (.getfield 69) := by decide +kernel
theorem d123_29 : mm_dec q123 29 = some (.getfield 217) := by decide +kernel
theorem d123_32 : mm_dec q123 32 = some (.ireturn) := by decide +kernel
theorem d124_0 : mm_dec q124 0 = some (.aload_n 0) := by decide +kernel
theorem d124_1 : mm_dec q124 1 = some (.invokevirtual 189) := by decide +kernel
theorem d124_4 : mm_dec q124 4 = some (.ifCond .eq 10) := by decide +kernel
theorem d124_7 : mm_dec q124 7 = some (.aload_n 0) := by decide +kernel
theorem d124_8 : mm_dec q124 8 = some (.getfield 135) := by decide +kernel
theorem d124_11 : mm_dec q124 11 = some (.ifCond .ne 5) := by decide +kernel
theorem d124_14 : mm_dec q124 14 = some (.iconst (-1)) := by decide +kernel
theorem d124_15 : mm_dec q124 15 = some (.ireturn) := by decide +kernel
theorem d124_16 : mm_dec q124 16 = some (.aload_n 0) := by decide +kernel
theorem d124_17 : mm_dec q124 17 = some (.getfield 69) := by decide +kernel
theorem d124_20 : mm_dec q124 20 = some (.aload_n 0) := by decide +kernel
theorem d124_21 : mm_dec q124 21 = some (.getfield 76) := by decide +kernel
theorem d124_24 : mm_dec q124 24 = some (.invokevirtual 334) := by decide +kernel
theorem d124_27 : mm_dec q124 27 = some (.aload_n 0) := by decide +kernel
theorem d124_28 : mm_dec q124 28 = some (.getfield 82) := by decide +kernel
theorem d124_31 : mm_dec q124 31 = some (.invokevirtual 131) := by decide +kernel
theorem d124_34 : mm_dec q124 34 = some (.aload_n 0) := by decide +kernel
theorem d124_35 : mm_dec q124 35 = some (.getfield 69) := by decide +kernel
theorem d124_38 : mm_dec q124 38 = some (.getfield 217) := by decide +kernel
theorem d124_41 : mm_dec q124 41 = some (.ireturn) := by decide +kernel
theorem d125_0 : mm_dec q125 0 = some (.iload_n 1) := by decide +kernel
theorem d125_1 : mm_dec q125 1 = some (.tableswitch 119 0 7 #[47, 55, 63, 68, 76, 84, 103, 111]) := by decide +kernel
theorem d125_48 : mm_dec q125 48 = some (.aload_n 0) := by decide +kernel
theorem d125_49 : mm_dec q125 49 = some (.getfield 28) := by decide +kernel
theorem d125_52 : mm_dec q125 52 = some (.getfield 139) := by decide +kernel
theorem d125_55 : mm_dec q125 55 = some (.ireturn) := by decide +kernel
theorem d125_56 : mm_dec q125 56 = some (.aload_n 0) := by decide +kernel
theorem d125_57 : mm_dec q125 57 = some (.getfield 28) := by decide +kernel
theorem d125_60 : mm_dec q125 60 = some (.getfield 336) := by decide +kernel
theorem d125_63 : mm_dec q125 63 = some (.ireturn) := by decide +kernel
theorem d125_64 : mm_dec q125 64 = some (.aload_n 0) := by decide +kernel
theorem d125_65 : mm_dec q125 65 = some (.getfield 142) := by decide +kernel
theorem d125_68 : mm_dec q125 68 = some (.ireturn) := by decide +kernel
theorem d125_69 : mm_dec q125 69 = some (.aload_n 0) := by decide +kernel
theorem d125_70 : mm_dec q125 70 = some (.getfield 12) := by decide +kernel
theorem d125_73 : mm_dec q125 73 = some (.getfield 106) := by decide +kernel
theorem d125_76 : mm_dec q125 76 = some (.ireturn) := by decide +kernel
theorem d125_77 : mm_dec q125 77 = some (.aload_n 0) := by decide +kernel
theorem d125_78 : mm_dec q125 78 = some (.getfield 69) := by decide +kernel
theorem d125_81 : mm_dec q125 81 = some (.getfield 217) := by decide +kernel
theorem d125_84 : mm_dec q125 84 = some (.ireturn) := by decide +kernel
theorem d125_85 : mm_dec q125 85 = some (.aload_n 0) := by decide +kernel
theorem d125_86 : mm_dec q125 86 = some (.invokevirtual 189) := by decide +kernel
theorem d125_89 : mm_dec q125 89 = some (.ifCond .eq 13) := by decide +kernel
theorem d125_92 : mm_dec q125 92 = some (.aload_n 0) := by decide +kernel
theorem d125_93 : mm_dec q125 93 = some (.getfield 28) := by decide +kernel
theorem d125_96 : mm_dec q125 96 = some (.invokevirtual 224) := by decide +kernel
theorem d125_99 : mm_dec q125 99 = some (.goto 4) := by decide +kernel
theorem d125_102 : mm_dec q125 102 = some (.iconst 0) := by decide +kernel
theorem d125_103 : mm_dec q125 103 = some (.ireturn) := by decide +kernel
theorem d125_104 : mm_dec q125 104 = some (.aload_n 0) := by decide +kernel
theorem d125_105 : mm_dec q125 105 = some (.getfield 89) := by decide +kernel
theorem d125_108 : mm_dec q125 108 = some (.getfield 294) := by decide +kernel
theorem d125_111 : mm_dec q125 111 = some (.ireturn) := by decide +kernel
theorem d125_112 : mm_dec q125 112 = some (.aload_n 0) := by decide +kernel
theorem d125_113 : mm_dec q125 113 = some (.getfield 82) := by decide +kernel
theorem d125_116 : mm_dec q125 116 = some (.getfield 339) := by decide +kernel
theorem d125_119 : mm_dec q125 119 = some (.ireturn) := by decide +kernel
theorem d125_120 : mm_dec q125 120 = some (.ldc_w 277) := by decide +kernel
theorem d125_123 : mm_dec q125 123 = some (.ireturn) := by decide +kernel
theorem d126_0 : mm_dec q126 0 = some (.aload_n 0) := by decide +kernel
theorem d126_1 : mm_dec q126 1 = some (.getfield 28) := by decide +kernel
theorem d126_4 : mm_dec q126 4 = some (.getfield 139) := by decide +kernel
theorem d126_7 : mm_dec q126 7 = some (.ifCond .le 7) := by decide +kernel
theorem d126_10 : mm_dec q126 10 = some (.iconst 1) := by decide +kernel
theorem d126_11 : mm_dec q126 11 = some (.goto 4) := by decide +kernel
theorem d126_14 : mm_dec q126 14 = some (.iconst 0) := by decide +kernel
theorem d126_15 : mm_dec q126 15 = some (.ireturn) := by decide +kernel
theorem d127_0 : mm_dec q127 0 = some (.iload_n 1) := by decide +kernel
theorem d127_1 : mm_dec q127 1 = some (.ifCond .lt 18) := by decide +kernel
theorem d127_4 : mm_dec q127 4 = some (.iload_n 1) := by decide +kernel
theorem d127_5 : mm_dec q127 5 = some (.aload_n 0) := by decide +kernel
theorem d127_6 : mm_dec q127 6 = some (.getfield 28) := by decide +kernel
theorem d127_9 : mm_dec q127 9 = some (.getfield 139) := by decide +kernel
theorem d127_12 : mm_dec q127 12 = some (.if_icmp .ge 7) := by decide +kernel
theorem d127_15 : mm_dec q127 15 = some (.iconst 1) := by decide +kernel
theorem d127_16 : mm_dec q127 16 = some (.goto 4) := by decide +kernel
theorem d127_19 : mm_dec q127 19 = some (.iconst 0) := by decide +kernel
theorem d127_20 : mm_dec q127 20 = some (.ireturn) := by decide +kernel
theorem d128_0 : mm_dec q128 0 = some (.aload_n 0) := by decide +kernel
theorem d128_1 : mm_dec q128 1 = some (.iload_n 1) := by decide +kernel
theorem d128_2 : mm_dec q128 2 = some (.invokevirtual 148) := by decide +kernel
theorem d128_5 : mm_dec q128 5 = some (.ifCond .eq 19) := by decide +kernel
theorem d128_8 : mm_dec q128 8 = some (.aload_n 0) := by decide +kernel
theorem d128_9 : mm_dec q128 9 = some (.getfield 28) := by decide +kernel
theorem d128_12 : mm_dec q128 12 = some (.getfield 159) := by decide +kernel
theorem d128_15 : mm_dec q128 15 = some (.iload_n 1) := by decide +kernel
theorem d128_16 : mm_dec q128 16 = some (.aaload) := by decide +kernel
theorem d128_17 : mm_dec q128 17 = some (.ifnonnull 7) := by decide +kernel
theorem d128_20 : mm_dec q128 20 = some (.iconst 1) := by decide +kernel
theorem d128_21 : mm_dec q128 21 = some (.goto 4) := by decide +kernel
theorem d128_24 : mm_dec q128 24 = some (.iconst 0) := by decide +kernel
theorem d128_25 : mm_dec q128 25 = some (.ireturn) := by decide +kernel
theorem d129_0 : mm_dec q129 0 = some (.iload_n 1) := by decide +kernel
theorem d129_1 : mm_dec q129 1 = some (.ifCond .lt 18) := by decide +kernel
theorem d129_4 : mm_dec q129 4 = some (.iload_n 1) := by decide +kernel
theorem d129_5 : mm_dec q129 5 = some (.aload_n 0) := by decide +kernel
theorem d129_6 : mm_dec q129 6 = some (.getfield 28) := by decide +kernel
theorem d129_9 : mm_dec q129 9 = some (.getfield 336) := by decide +kernel
theorem d129_12 : mm_dec q129 12 = some (.if_icmp .ge 7) := by decide +kernel
theorem d129_15 : mm_dec q129 15 = some (.iconst 1) := by decide +kernel
theorem d129_16 : mm_dec q129 16 = some (.goto 4) := by decide +kernel
theorem d129_19 : mm_dec q129 19 = some (.iconst 0) := by decide +kernel
theorem d129_20 : mm_dec q129 20 = some (.ireturn) := by decide +kernel
theorem d130_0 : mm_dec q130 0 = some (.iload_n 0) := by decide +kernel
theorem d130_1 : mm_dec q130 1 = some (.iconst 1) := by decide +kernel
theorem d130_2 : mm_dec q130 2 = some (.if_icmp .lt 14) := by decide +kernel
theorem d130_5 : mm_dec q130 5 = some (.iload_n 0) := by decide +kernel
theorem d130_6 : mm_dec q130 6 = some (.sipush 240) := by decide +kernel
theorem d130_9 : mm_dec q130 9 = some (.if_icmp .gt 7) := by decide +kernel
theorem d130_12 : mm_dec q130 12 = some (.iconst 1) := by decide +kernel
theorem d130_13 : mm_dec q130 13 = some (.goto 4) := by decide +kernel
theorem d130_16 : mm_dec q130 16 = some (.iconst 0) := by decide +kernel
theorem d130_17 : mm_dec q130 17 = some (.ireturn) := by decide +kernel
theorem d131_0 : mm_dec q131 0 = some (.iload_n 0) := by decide +kernel
theorem d131_1 : mm_dec q131 1 = some (.iload_n 1) := by decide +kernel
theorem d131_2 : mm_dec q131 2 = some (.if_icmp .lt 12) := by decide +kernel
theorem d131_5 : mm_dec q131 5 = some (.iload_n 0) := by decide +kernel
theorem d131_6 : mm_dec q131 6 = some (.iload_n 2) := by decide +kernel
theorem d131_7 : mm_dec q131 7 = some (.if_icmp .gt 7) := by decide +kernel
theorem d131_10 : mm_dec q131 10 = some (.iconst 1) := by decide +kernel
theorem d131_11 : mm_dec q131 11 = some (.goto 4) := by decide +kernel
theorem d131_14 : mm_dec q131 14 = some (.iconst 0) := by decide +kernel
theorem d131_15 : mm_dec q131 15 = some (.ireturn) := by decide +kernel
theorem d132_0 : mm_dec q132 0 = some (.iload_n 0) := by decide +kernel
theorem d132_1 : mm_dec q132 1 = some (.iload_n 1) := by decide +kernel
theorem d132_2 : mm_dec q132 2 = some (.ishr) := by decide +kernel
theorem d132_3 : mm_dec q132 3 = some (.iconst 1) := by decide +kernel
theorem d132_4 : mm_dec q132 4 = some (.iand) := by decide +kernel
theorem d132_5 : mm_dec q132 5 = some (.iconst 1) := by decide +kernel
theorem d132_6 : mm_dec q132 6 = some (.if_icmp .ne 7) := by decide +kernel
theorem d132_9 : mm_dec q132 9 = some (.iconst 1) := by decide +kernel
theorem d132_10 : mm_dec q132 10 = some (.goto 4) := by decide +kernel
theorem d132_13 : mm_dec q132 13 = some (.iconst 0) := by decide +kernel
theorem d132_14 : mm_dec q132 14 = some (.ireturn) := by decide +kernel
theorem d133_0 : mm_dec q133 0 = some (.aload_n 0) := by decide +kernel
theorem d133_1 : mm_dec q133 1 = some (.invokespecial 3) := by decide +kernel
theorem d133_4 : mm_dec q133 4 = some (.aload_n 0) := by decide +kernel
theorem d133_5 : mm_dec q133 5 = some (.sipush 160) := by decide +kernel
theorem d133_8 : mm_dec q133 8 = some (.newarray .int) := by decide +kernel
theorem d133_10 : mm_dec q133 10 = some (.putfield 9) := by decide +kernel
theorem d133_13 : mm_dec q133 13 = some (.aload_n 0) := by decide +kernel
theorem d133_14 : mm_dec q133 14 = some (.sipush 1700) := by decide +kernel
theorem d133_17 : mm_dec q133 17 = some (.newarray .int) := by decide +kernel
theorem d133_19 : mm_dec q133 19 = some (.putfield 13) := by decide +kernel
theorem d133_22 : mm_dec q133 22 = some (.aload_n 0) := by decide +kernel
theorem d133_23 : mm_dec q133 23 = some (.sipush 1700) := by decide +kernel
theorem d133_26 : mm_dec q133 26 = some (.newarray .int) := by decide +kernel
theorem d133_28 : mm_dec q133 28 = some (.putfield 16) := by decide +kernel
theorem d133_31 : mm_dec q133 31 = some (.aload_n 0) := by decide +kernel
theorem d133_32 : mm_dec q133 32 = some (.iconst 5) := by decide +kernel
theorem d133_33 : mm_dec q133 33 = some (.newarray .int) := by decide +kernel
theorem d133_35 : mm_dec q133 35 = some (.putfield 19) := by decide +kernel
theorem d133_38 : mm_dec q133 38 = some (.aload_n 0) := by decide +kernel
theorem d133_39 : mm_dec q133 39 = some (.iconst 5) := by decide +kernel
theorem d133_40 : mm_dec q133 40 = some (.newarray .int) := by decide +kernel
theorem d133_42 : mm_dec q133 42 = some (.putfield 22) := by decide +kernel
theorem d133_45 : mm_dec q133 45 = some (.aload_n 0) := by decide +kernel
theorem d133_46 : mm_dec q133 46 = some (.sipush 450) := by decide +kernel
theorem d133_49 : mm_dec q133 49 = some (.newarray .int) := by decide +kernel
theorem d133_51 : mm_dec q133 51 = some (.putfield 25) := by decide +kernel
theorem d133_54 : mm_dec q133 54 = some (.aload_n 0) := by decide +kernel
theorem d133_55 : mm_dec q133 55 = some (.sipush 450) := by decide +kernel
theorem d133_58 : mm_dec q133 58 = some (.newarray .int) := by decide +kernel
theorem d133_60 : mm_dec q133 60 = some (.putfield 28) := by decide +kernel
theorem d133_63 : mm_dec q133 63 = some (.aload_n 0) := by decide +kernel
theorem d133_64 : mm_dec q133 64 = some (.sipush 450) := by decide +kernel
theorem d133_67 : mm_dec q133 67 = some (.newarray .int) := by decide +kernel
theorem d133_69 : mm_dec q133 69 = some (.putfield 31) := by decide +kernel
theorem d133_72 : mm_dec q133 72 = some (.aload_n 0) := by decide +kernel
theorem d133_73 : mm_dec q133 73 = some (.bipush 6) := by decide +kernel
theorem d133_75 : mm_dec q133 75 = some (.newarray .int) := by decide +kernel
theorem d133_77 : mm_dec q133 77 = some (.putfield 34) := by decide +kernel
theorem d133_80 : mm_dec q133 80 = some (.aload_n 0) := by decide +kernel
theorem d133_81 : mm_dec q133 81 = some (.bipush 80) := by decide +kernel
theorem d133_83 : mm_dec q133 83 = some (.newarray .int) := by decide +kernel
theorem d133_85 : mm_dec q133 85 = some (.putfield 37) := by decide +kernel
theorem d133_88 : mm_dec q133 88 = some (.aload_n 0) := by decide +kernel
theorem d133_89 : mm_dec q133 89 = some (.bipush 24) := by decide +kernel
theorem d133_91 : mm_dec q133 91 = some (.newarray .int) := by decide +kernel
theorem d133_93 : mm_dec q133 93 = some (.putfield 40) := by decide +kernel
theorem d133_96 : mm_dec q133 96 = some (.aload_n 0) := by decide +kernel
theorem d133_97 : mm_dec q133 97 = some (.iconst 4) := by decide +kernel
theorem d133_98 : mm_dec q133 98 = some (.newarray .int) := by decide +kernel
theorem d133_100 : mm_dec q133 100 = some (.putfield 43) := by decide +kernel
theorem d133_103 : mm_dec q133 103 = some (.aload_n 0) := by decide +kernel
theorem d133_104 : mm_dec q133 104 = some (.bipush 6) := by decide +kernel
theorem d133_106 : mm_dec q133 106 = some (.newarray .int) := by decide +kernel
theorem d133_108 : mm_dec q133 108 = some (.putfield 46) := by decide +kernel
theorem d133_111 : mm_dec q133 111 = some (.aload_n 0) := by decide +kernel
theorem d133_112 : mm_dec q133 112 = some (.bipush 24) := by decide +kernel
theorem d133_114 : mm_dec q133 114 = some (.newarray .int) := by decide +kernel
theorem d133_116 : mm_dec q133 116 = some (.putfield 49) := by decide +kernel
theorem d133_119 : mm_dec q133 119 = some (.aload_n 0) := by decide +kernel
theorem d133_120 : mm_dec q133 120 = some (.iconst 4) := by decide +kernel
theorem d133_121 : mm_dec q133 121 = some (.newarray .int) := by decide +kernel
theorem d133_123 : mm_dec q133 123 = some (.putfield 52) := by decide +kernel
theorem d133_126 : mm_dec q133 126 = some (.aload_n 0) := by decide +kernel
theorem d133_127 : mm_dec q133 127 = some (.bipush 6) := by decide +kernel
theorem d133_129 : mm_dec q133 129 = some (.newarray .int) := by decide +kernel
theorem d133_131 : mm_dec q133 131 = some (.putfield 55) := by decide +kernel
theorem d133_134 : mm_dec q133 134 = some (.aload_n 0) := by decide +kernel
theorem d133_135 : mm_dec q133 135 = some (.bipush 6) := by decide +kernel
theorem d133_137 : mm_dec q133 137 = some (.newarray .int) := by decide +kernel
theorem d133_139 : mm_dec q133 139 = some (.putfield 58) := by decide +kernel
theorem d133_142 : mm_dec q133 142 = some (.aload_n 0) := by decide +kernel
theorem d133_143 : mm_dec q133 143 = some (.iconst 2) := by decide +kernel
theorem d133_144 : mm_dec q133 144 = some (.newarray .int) := by decide +kernel
theorem d133_146 : mm_dec q133 146 = some (.putfield 61) := by decide +kernel
theorem d133_149 : mm_dec q133 149 = some (.aload_n 0) := by decide +kernel
theorem d133_150 : mm_dec q133 150 = some (.iconst 2) := by decide +kernel
theorem d133_151 : mm_dec q133 151 = some (.newarray .int) := by decide +kernel
theorem d133_153 : mm_dec q133 153 = some (.putfield 64) := by decide +kernel
theorem d133_156 : mm_dec q133 156 = some (.aload_n 0) := by decide +kernel
theorem d133_157 : mm_dec q133 157 = some (.iconst 2) := by decide +kernel
theorem d133_158 : mm_dec q133 158 = some (.newarray .boolean) := by decide +kernel
theorem d133_160 : mm_dec q133 160 = some (.putfield 67) := by decide +kernel
theorem d133_163 : mm_dec q133 163 = some (.aload_n 0) := by decide +kernel
theorem d133_164 : mm_dec q133 164 = some (.bipush 120) := by decide +kernel
theorem d133_166 : mm_dec q133 166 = some (.newarray .int) := by decide +kernel
theorem d133_168 : mm_dec q133 168 = some (.putfield 71) := by decide +kernel
theorem d133_171 : mm_dec q133 171 = some (.aload_n 0) := by decide +kernel
theorem d133_172 : mm_dec q133 172 = some (.bipush 120) := by decide +kernel
theorem d133_174 : mm_dec q133 174 = some (.newarray .int) := by decide +kernel
theorem d133_176 : mm_dec q133 176 = some (.putfield 74) := by decide +kernel
theorem d133_179 : mm_dec q133 179 = some (.aload_n 0) := by decide +kernel
theorem d133_180 : mm_dec q133 180 = some (.bipush 60) := by decide +kernel
theorem d133_182 : mm_dec q133 182 = some (.newarray .long) := by decide +kernel
theorem d133_184 : mm_dec q133 184 = some (.putfield 77) := by decide +kernel
theorem d133_187 : mm_dec q133 187 = some (.aload_n 0) := by decide +kernel
theorem d133_188 : mm_dec q133 188 = some (.iconst 2) := by decide +kernel
theorem d133_189 : mm_dec q133 189 = some (.newarray .int) := by decide +kernel
theorem d133_191 : mm_dec q133 191 = some (.putfield 81) := by decide +kernel
theorem d133_194 : mm_dec q133 194 = some (.aload_n 0) := by decide +kernel
theorem d133_195 : mm_dec q133 195 = some (.iconst 2) := by decide +kernel
theorem d133_196 : mm_dec q133 196 = some (.newarray .int) := by decide +kernel
theorem d133_198 : mm_dec q133 198 = some (.putfield 84) := by decide +kernel
theorem d133_201 : mm_dec q133 201 = some (.aload_n 0) := by decide +kernel
theorem d133_202 : mm_dec q133 202 = some (.bipush 20) := by decide +kernel
theorem d133_204 : mm_dec q133 204 = some (.newarray .int) := by decide +kernel
theorem d133_206 : mm_dec q133 206 = some (.putfield 87) := by decide +kernel
theorem d133_209 : mm_dec q133 209 = some (.aload_n 0) := by decide +kernel
theorem d133_210 : mm_dec q133 210 = some (.bipush 20) := by decide +kernel
theorem d133_212 : mm_dec q133 212 = some (.newarray .boolean) := by decide +kernel
theorem d133_214 : mm_dec q133 214 = some (.putfield 90) := by decide +kernel
theorem d133_217 : mm_dec q133 217 = some (.aload_n 0) := by decide +kernel
theorem d133_218 : mm_dec q133 218 = some (.sipush 541) := by decide +kernel
theorem d133_221 : mm_dec q133 221 = some (.newarray .boolean) := by decide +kernel
theorem d133_223 : mm_dec q133 223 = some (.putfield 93) := by decide +kernel
theorem d133_226 : mm_dec q133 226 = some (.aload_n 0) := by decide +kernel
theorem d133_227 : mm_dec q133 227 = some (.bipush 22) := by decide +kernel
theorem d133_229 : mm_dec q133 229 = some (.newarray .int) := by decide +kernel
theorem d133_231 : mm_dec q133 231 = some (.putfield 96) := by decide +kernel
theorem d133_234 : mm_dec q133 234 = some (.aload_n 0) := by decide +kernel
theorem d133_235 : mm_dec q133 235 = some (.iconst 4) := by decide +kernel
theorem d133_236 : mm_dec q133 236 = some (.newarray .int) := by decide +kernel
theorem d133_238 : mm_dec q133 238 = some (.putfield 99) := by decide +kernel
theorem d133_241 : mm_dec q133 241 = some (.return_) := by decide +kernel
theorem d134_0 : mm_dec q134 0 = some (.aload_n 0) := by decide +kernel
theorem d134_1 : mm_dec q134 1 = some (.getfield 102) := by decide +kernel
theorem d134_4 : mm_dec q134 4 = some (.ireturn) := by decide +kernel
theorem d135_0 : mm_dec q135 0 = some (.iload 5) := by decide +kernel
theorem d135_2 : mm_dec q135 2 = some (.iconst 4) := by decide +kernel
theorem d135_3 : mm_dec q135 3 = some (.if_icmp .ge 7) := by decide +kernel
theorem d135_6 : mm_dec q135 6 = some (.iload_n 0) := by decide +kernel
theorem d135_7 : mm_dec q135 7 = some (.goto 38) := by decide +kernel
theorem d135_10 : mm_dec q135 10 = some (.iload 5) := by decide +kernel
theorem d135_12 : mm_dec q135 12 = some (.bipush 8) := by decide +kernel
theorem d135_14 : mm_dec q135 14 = some (.if_icmp .ge 7) := by decide +kernel
theorem d135_17 : mm_dec q135 17 = some (.iload_n 1) := by decide +kernel
theorem d135_18 : mm_dec q135 18 = some (.goto 27) := by decide +kernel
theorem d135_21 : mm_dec q135 21 = some (.iload 5) := by decide +kernel
theorem d135_23 : mm_dec q135 23 = some (.bipush 12) := by decide +kernel
theorem d135_25 : mm_dec q135 25 = some (.if_icmp .ge 7) := by decide +kernel
theorem d135_28 : mm_dec q135 28 = some (.iload_n 2) := by decide +kernel
theorem d135_29 : mm_dec q135 29 = some (.goto 16) := by decide +kernel
theorem d135_32 : mm_dec q135 32 = some (.iload 5) := by decide +kernel
theorem d135_34 : mm_dec q135 34 = some (.bipush 16) := by decide +kernel
theorem d135_36 : mm_dec q135 36 = some (.if_icmp .ge 7) := by decide +kernel
theorem d135_39 : mm_dec q135 39 = some (.iload_n 3) := by decide +kernel
theorem d135_40 : mm_dec q135 40 = some (.goto 5) := by decide +kernel
theorem d135_43 : mm_dec q135 43 = some (.iload 4) := by decide +kernel
theorem d135_45 : mm_dec q135 45 = some (.istore 6) := by decide +kernel
theorem d135_47 : mm_dec q135 47 = some (.iload 6) := by decide +kernel
theorem d135_49 : mm_dec q135 49 = some (.bipush 24) := by decide +kernel
theorem d135_51 : mm_dec q135 51 = some (.bipush 8) := by decide +kernel
theorem d135_53 : mm_dec q135 53 = some (.iload 5) := by decide +kernel
theorem d135_55 : mm_dec q135 55 = some (.iconst 4) := by decide +kernel
theorem d135_56 : mm_dec q135 56 = some (.irem) := by decide +kernel
theorem d135_57 : mm_dec q135 57 = some (.imul) := by decide +kernel
theorem d135_58 : mm_dec q135 58 = some (.isub) := by decide +kernel
theorem d135_59 : mm_dec q135 59 = some (.ishr) := by decide +kernel
theorem d135_60 : mm_dec q135 60 = some (.sipush 255) := by decide +kernel
theorem d135_63 : mm_dec q135 63 = some (.iand) := by decide +kernel
theorem d135_64 : mm_dec q135 64 = some (.ireturn) := by decide +kernel
theorem d136_0 : mm_dec q136 0 = some (.iconst 0) := by decide +kernel
theorem d136_1 : mm_dec q136 1 = some (.istore 6) := by decide +kernel
theorem d136_3 : mm_dec q136 3 = some (.iconst 0) := by decide +kernel
theorem d136_4 : mm_dec q136 4 = some (.istore 7) := by decide +kernel
theorem d136_6 : mm_dec q136 6 = some (.iload 7) := by decide +kernel
theorem d136_8 : mm_dec q136 8 = some (.bipush 20) := by decide +kernel
theorem d136_10 : mm_dec q136 10 = some (.if_icmp .ge 34) := by decide +kernel
theorem d136_13 : mm_dec q136 13 = some (.iload 6) := by decide +kernel
theorem d136_15 : mm_dec q136 15 = some (.iload_n 1) := by decide +kernel
theorem d136_16 : mm_dec q136 16 = some (.iload_n 2) := by decide +kernel
theorem d136_17 : mm_dec q136 17 = some (.iload_n 3) := by decide +kernel
theorem d136_18 : mm_dec q136 18 = some (.iload 4) := by decide +kernel
theorem d136_20 : mm_dec q136 20 = some (.iload 5) := by decide +kernel
theorem d136_22 : mm_dec q136 22 = some (.iload 7) := by decide +kernel
theorem d136_24 : mm_dec q136 24 = some (.invokestatic 106) := by decide +kernel
theorem d136_27 : mm_dec q136 27 = some (.ifCond .eq 7) := by decide +kernel
theorem d136_30 : mm_dec q136 30 = some (.iconst 1) := by decide +kernel
theorem d136_31 : mm_dec q136 31 = some (.goto 4) := by decide +kernel
theorem d136_34 : mm_dec q136 34 = some (.iconst 0) := by decide +kernel
theorem d136_35 : mm_dec q136 35 = some (.iadd) := by decide +kernel
theorem d136_36 : mm_dec q136 36 = some (.istore 6) := by decide +kernel
theorem d136_38 : mm_dec q136 38 = some (.iinc 7 1) := by decide +kernel
theorem d136_41 : mm_dec q136 41 = some (.goto (-35)) := by decide +kernel
theorem d136_44 : mm_dec q136 44 = some (.aload_n 0) := by decide +kernel
theorem d136_45 : mm_dec q136 45 = some (.getfield 110) := by decide +kernel
theorem d136_48 : mm_dec q136 48 = some (.iload 6) := by decide +kernel
theorem d136_50 : mm_dec q136 50 = some (.iadd) := by decide +kernel
theorem d136_51 : mm_dec q136 51 = some (.sipush 160) := by decide +kernel
theorem d136_54 : mm_dec q136 54 = some (.if_icmp .le 5) := by decide +kernel
theorem d136_57 : mm_dec q136 57 = some (.iconst (-1)) := by decide +kernel
theorem d136_58 : mm_dec q136 58 = some (.ireturn) := by decide +kernel
theorem d136_59 : mm_dec q136 59 = some (.iconst 0) := by decide +kernel
theorem d136_60 : mm_dec q136 60 = some (.istore 7) := by decide +kernel
theorem d136_62 : mm_dec q136 62 = some (.iload 7) := by decide +kernel
theorem d136_64 : mm_dec q136 64 = some (.bipush 20) := by decide +kernel
theorem d136_66 : mm_dec q136 66 = some (.if_icmp .ge 49) := by decide +kernel
theorem d136_69 : mm_dec q136 69 = some (.iload_n 1) := by decide +kernel
theorem d136_70 : mm_dec q136 70 = some (.iload_n 2) := by decide +kernel
theorem d136_71 : mm_dec q136 71 = some (.iload_n 3) := by decide +kernel
theorem d136_72 : mm_dec q136 72 = some (.iload 4) := by decide +kernel
theorem d136_74 : mm_dec q136 74 = some (.iload 5) := by decide +kernel
theorem d136_76 : mm_dec q136 76 = some (.iload 7) := by decide +kernel
theorem d136_78 : mm_dec q136 78 = some (.invokestatic 106) := by decide +kernel
theorem d136_81 : mm_dec q136 81 = some (.istore 8) := by decide +kernel
theorem d136_83 : mm_dec q136 83 = some (.iload 8) := by decide +kernel
theorem d136_85 : mm_dec q136 85 = some (.ifCond .eq 24) := by decide +kernel
theorem d136_88 : mm_dec q136 88 = some (.aload_n 0) := by decide +kernel
theorem d136_89 : mm_dec q136 89 = some (.getfield 9) := by decide +kernel
theorem d136_92 : mm_dec q136 92 = some (.aload_n 0) := by decide +kernel
theorem d136_93 : mm_dec q136 93 = some (.getfield 110) := by decide +kernel
theorem d136_96 : mm_dec q136 96 = some (.iload 8) := by decide +kernel
theorem d136_98 : mm_dec q136 98 = some (.iastore) := by decide +kernel
theorem d136_99 : mm_dec q136 99 = some (.aload_n 0) := by decide +kernel
theorem d136_100 : mm_dec q136 100 = some (.dup) := by decide +kernel
theorem d136_101 : mm_dec q136 101 = some (.getfield 110) := by decide +kernel
theorem d136_104 : mm_dec q136 104 = some (.iconst 1) := by decide +kernel
theorem d136_105 : mm_dec q136 105 = some (.iadd) := by decide +kernel
theorem d136_106 : mm_dec q136 106 = some (.putfield 110) := by decide +kernel
theorem d136_109 : mm_dec q136 109 = some (.iinc 7 1) := by decide +kernel
theorem d136_112 : mm_dec q136 112 = some (.goto (-50)) := by decide +kernel
theorem d136_115 : mm_dec q136 115 = some (.aload_n 0) := by decide +kernel
theorem d136_116 : mm_dec q136 116 = some (.getfield 110) := by decide +kernel
theorem d136_119 : mm_dec q136 119 = some (.ireturn) := by decide +kernel
theorem d137_0 : mm_dec q137 0 = some (.iload_n 1) := by decide +kernel
theorem d137_1 : mm_dec q137 1 = some (.ifCond .lt 11) := by decide +kernel
theorem d137_4 : mm_dec q137 4 = some (.iload_n 1) := by decide +kernel
theorem d137_5 : mm_dec q137 5 = some (.aload_n 0) := by decide +kernel
theorem d137_6 : mm_dec q137 6 = some (.getfield 110) := by decide +kernel
theorem d137_9 : mm_dec q137 9 = some (.if_icmp .le 5) := by decide +kernel
theorem d137_12 : mm_dec q137 12 = some (.iconst 0) := by decide +kernel
theorem d137_13 : mm_dec q137 13 = some (.ireturn) := by decide +kernel
theorem d137_14 : mm_dec q137 14 = some (.aload_n 0) := by decide +kernel
theorem d137_15 : mm_dec q137 15 = some (.iload_n 1) := by decide +kernel
theorem d137_16 : mm_dec q137 16 = some (.putfield 110) := by decide +kernel
theorem d137_19 : mm_dec q137 19 = some (.iconst 1) := by decide +kernel
theorem d137_20 : mm_dec q137 20 = some (.ireturn) := by decide +kernel
theorem d138_0 : mm_dec q138 0 = some (.aload_n 0) := by decide +kernel
theorem d138_1 : mm_dec q138 1 = some (.getfield 113) := by decide +kernel
theorem d138_4 : mm_dec q138 4 = some (.aload_n 0) := by decide +kernel
theorem d138_5 : mm_dec q138 5 = some (.getfield 110) := by decide +kernel
theorem d138_8 : mm_dec q138 8 = some (.if_icmp .ge 15) := by decide +kernel
theorem d138_11 : mm_dec q138 11 = some (.aload_n 0) := by decide +kernel
theorem d138_12 : mm_dec q138 12 = some (.getfield 9) := by decide +kernel
theorem d138_15 : mm_dec q138 15 = some (.aload_n 0) := by decide +kernel
theorem d138_16 : mm_dec q138 16 = some (.getfield 113) := by decide +kernel
theorem d138_19 : mm_dec q138 19 = some (.iaload) := by decide +kernel
theorem d138_20 : mm_dec q138 20 = some (.goto 4) := by decide +kernel
theorem d138_23 : mm_dec q138 23 = some (.iconst (-1)) := by decide +kernel
theorem d138_24 : mm_dec q138 24 = some (.ireturn) := by decide +kernel
theorem d139_0 : mm_dec q139 0 = some (.aload_n 0) := by decide +kernel
theorem d139_1 : mm_dec q139 1 = some (.invokevirtual 116) := by decide +kernel
theorem d139_4 : mm_dec q139 4 = some (.bipush 32) := by decide +kernel
theorem d139_6 : mm_dec q139 6 = some (.if_icmp .ne 16) := by decide +kernel
theorem d139_9 : mm_dec q139 9 = some (.aload_n 0) := by decide +kernel
theorem d139_10 : mm_dec q139 10 = some (.dup) := by decide +kernel
theorem d139_11 : mm_dec q139 11 = some (.getfield 113) := by decide +kernel
theorem d139_14 : mm_dec q139 14 = some (.iconst 1) := by decide +kernel
theorem d139_15 : mm_dec q139 15 = some (.iadd) := by decide +kernel
theorem d139_16 : mm_dec q139 16 = some (.putfield 113) := by decide +kernel
theorem d139_19 : mm_dec q139 19 = some (.goto (-19)) := by decide +kernel
theorem d139_22 : mm_dec q139 22 = some (.aload_n 0) := by decide +kernel
theorem d139_23 : mm_dec q139 23 = some (.invokevirtual 116) := by decide +kernel
theorem d139_26 : mm_dec q139 26 = some (.ireturn) := by decide +kernel
theorem d140_0 : mm_dec q140 0 = some (.aload_n 0) := by decide +kernel
theorem d140_1 : mm_dec q140 1 = some (.aload_n 0) := by decide +kernel
theorem d140_2 : mm_dec q140 2 = some (.getfield 120) := by decide +kernel
theorem d140_5 : mm_dec q140 5 = some (.iconst (-1)) := by decide +kernel
theorem d140_6 : mm_dec q140 6 = some (.if_icmp .ne 10) := by decide +kernel
theorem d140_9 : mm_dec q140 9 = some (.aload_n 0) := by decide +kernel
theorem d140_10 : mm_dec q140 10 = some (.getfield 113) := by decide +kernel
theorem d140_13 : mm_dec q140 13 = some (.goto 7) := by decide +kernel
theorem d140_16 : mm_dec q140 16 = some (.aload_n 0) := by decide +kernel
theorem d140_17 : mm_dec q140 17 = some (.getfield 120) := by decide +kernel
theorem d140_20 : mm_dec q140 20 = some (.putfield 120) := by decide +kernel
theorem d140_23 : mm_dec q140 23 = some (.return_) := by decide +kernel
theorem d141_0 : mm_dec q141 0 = some (.iload_n 0) := by decide +kernel
theorem d141_1 : mm_dec q141 1 = some (.bipush 48) := by decide +kernel
theorem d141_3 : mm_dec q141 3 = some (.if_icmp .lt 13) := by decide +kernel
theorem d141_6 : mm_dec q141 6 = some (.iload_n 0) := by decide +kernel
theorem d141_7 : mm_dec q141 7 = some (.bipush 57) := by decide +kernel
theorem d141_9 : mm_dec q141 9 = some (.if_icmp .gt 7) := by decide +kernel
theorem d141_12 : mm_dec q141 12 = some (.iconst 1) := by decide +kernel
theorem d141_13 : mm_dec q141 13 = some (.goto 4) := by decide +kernel
theorem d141_16 : mm_dec q141 16 = some (.iconst 0) := by decide +kernel
theorem d141_17 : mm_dec q141 17 = some (.ireturn) := by decide +kernel
theorem d142_0 : mm_dec q142 0 = some (.aload_n 0) := by decide +kernel
theorem d142_1 : mm_dec q142 1 = some (.getfield 13) := by decide +kernel
theorem d142_4 : mm_dec q142 4 = some (.sipush 340) := by decide +kernel
theorem d142_7 : mm_dec q142 7 = some (.aload_n 0) := by decide +kernel
theorem d142_8 : mm_dec q142 8 = some (.getfield 123) := by decide +kernel
theorem d142_11 : mm_dec q142 11 = some (.imul) := by decide +kernel
theorem d142_12 : mm_dec q142 12 = some (.aload_n 0) := by decide +kernel
theorem d142_13 : mm_dec q142 13 = some (.getfield 19) := by decide +kernel
theorem d142_16 : mm_dec q142 16 = some (.aload_n 0) := by decide +kernel
theorem d142_17 : mm_dec q142 17 = some (.getfield 123) := by decide +kernel
theorem d142_20 : mm_dec q142 20 = some (.iaload) := by decide +kernel
theorem d142_21 : mm_dec q142 21 = some (.iadd) := by decide +kernel
theorem d142_22 : mm_dec q142 22 = some (.iload_n 1) := by decide +kernel
theorem d142_23 : mm_dec q142 23 = some (.iastore) := by decide +kernel
theorem d142_24 : mm_dec q142 24 = some (.aload_n 0) := by decide +kernel
theorem d142_25 : mm_dec q142 25 = some (.getfield 16) := by decide +kernel
theorem d142_28 : mm_dec q142 28 = some (.sipush 340) := by decide +kernel
theorem d142_31 : mm_dec q142 31 = some (.aload_n 0) := by decide +kernel
theorem d142_32 : mm_dec q142 32 = some (.getfield 123) := by decide +kernel
theorem d142_35 : mm_dec q142 35 = some (.imul) := by decide +kernel
theorem d142_36 : mm_dec q142 36 = some (.aload_n 0) := by decide +kernel
theorem d142_37 : mm_dec q142 37 = some (.getfield 19) := by decide +kernel
theorem d142_40 : mm_dec q142 40 = some (.aload_n 0) := by decide +kernel
theorem d142_41 : mm_dec q142 41 = some (.getfield 123) := by decide +kernel
theorem d142_44 : mm_dec q142 44 = some (.iaload) := by decide +kernel
theorem d142_45 : mm_dec q142 45 = some (.iadd) := by decide +kernel
theorem d142_46 : mm_dec q142 46 = some (.iload_n 2) := by decide +kernel
theorem d142_47 : mm_dec q142 47 = some (.iastore) := by decide +kernel
theorem d142_48 : mm_dec q142 48 = some (.aload_n 0) := by decide +kernel
theorem d142_49 : mm_dec q142 49 = some (.getfield 19) := by decide +kernel
theorem d142_52 : mm_dec q142 52 = some (.aload_n 0) := by decide +kernel
theorem d142_53 : mm_dec q142 53 = some (.getfield 123) := by decide +kernel
theorem d142_56 : mm_dec q142 56 = some (.dup2) := by decide +kernel
theorem d142_57 : mm_dec q142 57 = some (.iaload) := by decide +kernel
theorem d142_58 : mm_dec q142 58 = some (.iconst 1) := by decide +kernel
theorem d142_59 : mm_dec q142 59 = some (.iadd) := by decide +kernel
theorem d142_60 : mm_dec q142 60 = some (.iastore) := by decide +kernel
theorem d142_61 : mm_dec q142 61 = some (.return_) := by decide +kernel
theorem d143_0 : mm_dec q143 0 = some (.iload_n 0) := by decide +kernel
theorem d143_1 : mm_dec q143 1 = some (.bipush 116) := by decide +kernel
theorem d143_3 : mm_dec q143 3 = some (.if_icmp .ne 7) := by decide +kernel
theorem d143_6 : mm_dec q143 6 = some (.iconst 0) := by decide +kernel
theorem d143_7 : mm_dec q143 7 = some (.goto 54) := by decide +kernel
theorem d143_10 : mm_dec q143 10 = some (.iload_n 0) := by decide +kernel
theorem d143_11 : mm_dec q143 11 = some (.bipush 104) := by decide +kernel
theorem d143_13 : mm_dec q143 13 = some (.if_icmp .ne 7) := by decide +kernel
theorem d143_16 : mm_dec q143 16 = some (.iconst 1) := by decide +kernel
theorem d143_17 : mm_dec q143 17 = some (.goto 44) := by decide +kernel
theorem d143_20 : mm_dec q143 20 = some (.iload_n 0) := by decide +kernel
theorem d143_21 : mm_dec q143 21 = some (.bipush 109) := by decide +kernel
theorem d143_23 : mm_dec q143 23 = some (.if_icmp .ne 7) := by decide +kernel
theorem d143_26 : mm_dec q143 26 = some (.iconst 2) := by decide +kernel
theorem d143_27 : mm_dec q143 27 = some (.goto 34) := by decide +kernel
theorem d143_30 : mm_dec q143 30 = some (.iload_n 0) := by decide +kernel
theorem d143_31 : mm_dec q143 31 = some (.bipush 111) := by decide +kernel
theorem d143_33 : mm_dec q143 33 = some (.if_icmp .ne 7) := by decide +kernel
theorem d143_36 : mm_dec q143 36 = some (.iconst 3) := by decide +kernel
theorem d143_37 : mm_dec q143 37 = some (.goto 24) := by decide +kernel
theorem d143_40 : mm_dec q143 40 = some (.iload_n 0) := by decide +kernel
theorem d143_41 : mm_dec q143 41 = some (.bipush 100) := by decide +kernel
theorem d143_43 : mm_dec q143 43 = some (.if_icmp .ne 7) := by decide +kernel
theorem d143_46 : mm_dec q143 46 = some (.iconst 4) := by decide +kernel
theorem d143_47 : mm_dec q143 47 = some (.goto 14) := by decide +kernel
theorem d143_50 : mm_dec q143 50 = some (.iload_n 0) := by decide +kernel
theorem d143_51 : mm_dec q143 51 = some (.bipush 112) := by decide +kernel
theorem d143_53 : mm_dec q143 53 = some (.if_icmp .ne 7) := by decide +kernel
theorem d143_56 : mm_dec q143 56 = some (.iconst 5) := by decide +kernel
theorem d143_57 : mm_dec q143 57 = some (.goto 4) := by decide +kernel
theorem d143_60 : mm_dec q143 60 = some (.iconst (-1)) := by decide +kernel
theorem d143_61 : mm_dec q143 61 = some (.ireturn) := by decide +kernel
theorem d144_0 : mm_dec q144 0 = some (.aload_n 0) := by decide +kernel
theorem d144_1 : mm_dec q144 1 = some (.getfield 126) := by decide +kernel
theorem d144_4 : mm_dec q144 4 = some (.bipush 6) := by decide +kernel
theorem d144_6 : mm_dec q144 6 = some (.if_icmp .ne 7) := by decide +kernel
theorem d144_9 : mm_dec q144 9 = some (.aload_n 0) := by decide +kernel
theorem d144_10 : mm_dec q144 10 = some (.invokevirtual 129) := by decide +kernel
theorem d144_13 : mm_dec q144 13 = some (.aload_n 0) := by decide +kernel
theorem d144_14 : mm_dec q144 14 = some (.dup) := by decide +kernel
theorem d144_15 : mm_dec q144 15 = some (.getfield 126) := by decide +kernel
theorem d144_18 : mm_dec q144 18 = some (.iconst 1) := by decide +kernel
theorem d144_19 : mm_dec q144 19 = some (.iadd) := by decide +kernel
theorem d144_20 : mm_dec q144 20 = some (.putfield 126) := by decide +kernel
theorem d144_23 : mm_dec q144 23 = some (.aload_n 0) := by decide +kernel
theorem d144_24 : mm_dec q144 24 = some (.dup) := by decide +kernel
theorem d144_25 : mm_dec q144 25 = some (.getfield 113) := by decide +kernel
theorem d144_28 : mm_dec q144 28 = some (.iconst 1) := by decide +kernel
theorem d144_29 : mm_dec q144 29 = some (.iadd) := by decide +kernel
theorem d144_30 : mm_dec q144 30 = some (.putfield 113) := by decide +kernel
theorem d144_33 : mm_dec q144 33 = some (.return_) := by decide +kernel
theorem d145_0 : mm_dec q145 0 = some (.aload_n 0) := by decide +kernel
theorem d145_1 : mm_dec q145 1 = some (.getfield 120) := by decide +kernel
theorem d145_4 : mm_dec q145 4 = some (.iconst (-1)) := by decide +kernel
theorem d145_5 : mm_dec q145 5 = some (.if_icmp .ne 15) := by decide +kernel
theorem d145_8 : mm_dec q145 8 = some (.aload_n 0) := by decide +kernel
theorem d145_9 : mm_dec q145 9 = some (.invokevirtual 132) := by decide +kernel
theorem d145_12 : mm_dec q145 12 = some (.iload_n 1) := by decide +kernel
theorem d145_13 : mm_dec q145 13 = some (.if_icmp .eq 7) := by decide +kernel
theorem d145_16 : mm_dec q145 16 = some (.aload_n 0) := by decide +kernel
theorem d145_17 : mm_dec q145 17 = some (.invokevirtual 129) := by decide +kernel
theorem d145_20 : mm_dec q145 20 = some (.aload_n 0) := by decide +kernel
theorem d145_21 : mm_dec q145 21 = some (.dup) := by decide +kernel
theorem d145_22 : mm_dec q145 22 = some (.getfield 113) := by decide +kernel
theorem d145_25 : mm_dec q145 25 = some (.iconst 1) := by decide +kernel
theorem d145_26 : mm_dec q145 26 = some (.iadd) := by decide +kernel
theorem d145_27 : mm_dec q145 27 = some (.putfield 113) := by decide +kernel
theorem d145_30 : mm_dec q145 30 = some (.aload_n 0) := by decide +kernel
theorem d145_31 : mm_dec q145 31 = some (.dup) := by decide +kernel
theorem d145_32 : mm_dec q145 32 = some (.getfield 126) := by decide +kernel
theorem d145_35 : mm_dec q145 35 = some (.iconst 1) := by decide +kernel
theorem d145_36 : mm_dec q145 36 = some (.isub) := by decide +kernel
theorem d145_37 : mm_dec q145 37 = some (.putfield 126) := by decide +kernel
theorem d145_40 : mm_dec q145 40 = some (.return_) := by decide +kernel
theorem d146_0 : mm_dec q146 0 = some (.iconst 0) := by decide +kernel
theorem d146_1 : mm_dec q146 1 = some (.istore_n 1) := by decide +kernel
theorem d146_2 : mm_dec q146 2 = some (.iconst 0) := by decide +kernel
theorem d146_3 : mm_dec q146 3 = some (.istore_n 2) := by decide +kernel
theorem d146_4 : mm_dec q146 4 = some (.iload_n 2) := by decide +kernel
theorem d146_5 : mm_dec q146 5 = some (.iconst 4) := by decide +kernel
theorem d146_6 : mm_dec q146 6 = some (.if_icmp .ge 42) := by decide +kernel
theorem d146_9 : mm_dec q146 9 = some (.aload_n 0) := by decide +kernel
theorem d146_10 : mm_dec q146 10 = some (.invokevirtual 116) := by decide +kernel
theorem d146_13 : mm_dec q146 13 = some (.invokestatic 135) := by decide +kernel
theorem d146_16 : mm_dec q146 16 = some (.ifCond .eq 32) := by decide +kernel
theorem d146_19 : mm_dec q146 19 = some (.bipush 10) := by decide +kernel
theorem d146_21 : mm_dec q146 21 = some (.iload_n 1) := by decide +kernel
theorem d146_22 : mm_dec q146 22 = some (.imul) := by decide +kernel
theorem d146_23 : mm_dec q146 23 = some (.aload_n 0) := by decide +kernel
theorem d146_24 : mm_dec q146 24 = some (.invokevirtual 116) := by decide +kernel
theorem d146_27 : mm_dec q146 27 = some (.iadd) := by decide +kernel
theorem d146_28 : mm_dec q146 28 = some (.bipush 48) := by decide +kernel
theorem d146_30 : mm_dec q146 30 = some (.isub) := by decide +kernel
theorem d146_31 : mm_dec q146 31 = some (.istore_n 1) := by decide +kernel
theorem d146_32 : mm_dec q146 32 = some (.aload_n 0) := by decide +kernel
theorem d146_33 : mm_dec q146 33 = some (.dup) := by decide +kernel
theorem d146_34 : mm_dec q146 34 = some (.getfield 113) := by decide +kernel
theorem d146_37 : mm_dec q146 37 = some (.iconst 1) := by decide +kernel
theorem d146_38 : mm_dec q146 38 = some (.iadd) := by decide +kernel
theorem d146_39 : mm_dec q146 39 = some (.putfield 113) := by decide +kernel
theorem d146_42 : mm_dec q146 42 = some (.iinc 2 1) := by decide +kernel
theorem d146_45 : mm_dec q146 45 = some (.goto (-41)) := by decide +kernel
theorem d146_48 : mm_dec q146 48 = some (.aload_n 0) := by decide +kernel
theorem d146_49 : mm_dec q146 49 = some (.invokevirtual 116) := by decide +kernel
theorem d146_52 : mm_dec q146 52 = some (.invokestatic 135) := by decide +kernel
theorem d146_55 : mm_dec q146 55 = some (.ifCond .eq 7) := by decide +kernel
theorem d146_58 : mm_dec q146 58 = some (.aload_n 0) := by decide +kernel
theorem d146_59 : mm_dec q146 59 = some (.invokevirtual 129) := by decide +kernel
theorem d146_62 : mm_dec q146 62 = some (.iload_n 1) := by decide +kernel
theorem d146_63 : mm_dec q146 63 = some (.ireturn) := by decide +kernel
theorem d147_0 : mm_dec q147 0 = some (.aload_n 0) := by decide +kernel
theorem d147_1 : mm_dec q147 1 = some (.invokevirtual 132) := by decide +kernel
theorem d147_4 : mm_dec q147 4 = some (.istore_n 1) := by decide +kernel
theorem d147_5 : mm_dec q147 5 = some (.iload_n 1) := by decide +kernel
theorem d147_6 : mm_dec q147 6 = some (.invokestatic 135) := by decide +kernel
theorem d147_9 : mm_dec q147 9 = some (.ifCond .eq 15) := by decide +kernel
theorem d147_12 : mm_dec q147 12 = some (.aload_n 0) := by decide +kernel
theorem d147_13 : mm_dec q147 13 = some (.iconst 0) := by decide +kernel
theorem d147_14 : mm_dec q147 14 = some (.aload_n 0) := by decide +kernel
theorem d147_15 : mm_dec q147 15 = some (.invokevirtual 139) := by decide +kernel
theorem d147_18 : mm_dec q147 18 = some (.invokevirtual 142) := by decide +kernel
theorem d147_21 : mm_dec q147 21 = some (.goto 68) := by decide +kernel
theorem d147_24 : mm_dec q147 24 = some (.iload_n 1) := by decide +kernel
theorem d147_25 : mm_dec q147 25 = some (.invokestatic 146) := by decide +kernel
theorem d147_28 : mm_dec q147 28 = some (.iconst (-1)) := by decide +kernel
theorem d147_29 : mm_dec q147 29 = some (.if_icmp .eq 25) := by decide +kernel
theorem d147_32 : mm_dec q147 32 = some (.aload_n 0) := by decide +kernel
theorem d147_33 : mm_dec q147 33 = some (.dup) := by decide +kernel
theorem d147_34 : mm_dec q147 34 = some (.getfield 113) := by decide +kernel
theorem d147_37 : mm_dec q147 37 = some (.iconst 1) := by decide +kernel
theorem d147_38 : mm_dec q147 38 = some (.iadd) := by decide +kernel
theorem d147_39 : mm_dec q147 39 = some (.putfield 113) := by decide +kernel
theorem d147_42 : mm_dec q147 42 = some (.aload_n 0) := by decide +kernel
theorem d147_43 : mm_dec q147 43 = some (.iconst 1) := by decide +kernel
theorem d147_44 : mm_dec q147 44 = some (.iload_n 1) := by decide +kernel
theorem d147_45 : mm_dec q147 45 = some (.invokestatic 146) := by decide +kernel
theorem d147_48 : mm_dec q147 48 = some (.invokevirtual 142) := by decide +kernel
theorem d147_51 : mm_dec q147 51 = some (.goto 38) := by decide +kernel
theorem d147_54 : mm_dec q147 54 = some (.iload_n 1) := by decide +kernel
theorem d147_55 : mm_dec q147 55 = some (.bipush 91) := by decide +kernel
theorem d147_57 : mm_dec q147 57 = some (.if_icmp .ne 28) := by decide +kernel
theorem d147_60 : mm_dec q147 60 = some (.aload_n 0) := by decide +kernel
theorem d147_61 : mm_dec q147 61 = some (.invokevirtual 150) := by decide +kernel
theorem d147_64 : mm_dec q147 64 = some (.aload_n 0) := by decide +kernel
theorem d147_65 : mm_dec q147 65 = some (.getfield 120) := by decide +kernel
theorem d147_68 : mm_dec q147 68 = some (.iconst (-1)) := by decide +kernel
theorem d147_69 : mm_dec q147 69 = some (.if_icmp .ne 20) := by decide +kernel
theorem d147_72 : mm_dec q147 72 = some (.aload_n 0) := by decide +kernel
theorem d147_73 : mm_dec q147 73 = some (.invokevirtual 153) := by decide +kernel
theorem d147_76 : mm_dec q147 76 = some (.aload_n 0) := by decide +kernel
theorem d147_77 : mm_dec q147 77 = some (.bipush 93) := by decide +kernel
theorem d147_79 : mm_dec q147 79 = some (.invokevirtual 156) := by decide +kernel
theorem d147_82 : mm_dec q147 82 = some (.goto 7) := by decide +kernel
theorem d147_85 : mm_dec q147 85 = some (.aload_n 0) := by decide +kernel
theorem d147_86 : mm_dec q147 86 = some (.invokevirtual 129) := by decide +kernel
theorem d147_89 : mm_dec q147 89 = some (.return_) := by decide +kernel
theorem d148_0 : mm_dec q148 0 = some (.aload_n 0) := by decide +kernel
theorem d148_1 : mm_dec q148 1 = some (.invokevirtual 160) := by decide +kernel
theorem d148_4 : mm_dec q148 4 = some (.aload_n 0) := by decide +kernel
theorem d148_5 : mm_dec q148 5 = some (.getfield 120) := by decide +kernel
theorem d148_8 : mm_dec q148 8 = some (.iconst (-1)) := by decide +kernel
theorem d148_9 : mm_dec q148 9 = some (.if_icmp .ne 10) := by decide +kernel
theorem d148_12 : mm_dec q148 12 = some (.aload_n 0) := by decide +kernel
theorem d148_13 : mm_dec q148 13 = some (.invokevirtual 132) := by decide +kernel
theorem d148_16 : mm_dec q148 16 = some (.goto 4) := by decide +kernel
theorem d148_19 : mm_dec q148 19 = some (.iconst (-1)) := by decide +kernel
theorem d148_20 : mm_dec q148 20 = some (.istore_n 1) := by decide +kernel
theorem d148_21 : mm_dec q148 21 = some (.iload_n 1) := by decide +kernel
theorem d148_22 : mm_dec q148 22 = some (.bipush 42) := by decide +kernel
theorem d148_24 : mm_dec q148 24 = some (.if_icmp .eq 9) := by decide +kernel
theorem d148_27 : mm_dec q148 27 = some (.iload_n 1) := by decide +kernel
theorem d148_28 : mm_dec q148 28 = some (.bipush 47) := by decide +kernel
theorem d148_30 : mm_dec q148 30 = some (.if_icmp .ne 53) := by decide +kernel
theorem d148_33 : mm_dec q148 33 = some (.aload_n 0) := by decide +kernel
theorem d148_34 : mm_dec q148 34 = some (.dup) := by decide +kernel
theorem d148_35 : mm_dec q148 35 = some (.getfield 113) := by decide +kernel
theorem d148_38 : mm_dec q148 38 = some (.iconst 1) := by decide +kernel
theorem d148_39 : mm_dec q148 39 = some (.iadd) := by decide +kernel
theorem d148_40 : mm_dec q148 40 = some (.putfield 113) := by decide +kernel
theorem d148_43 : mm_dec q148 43 = some (.aload_n 0) := by decide +kernel
theorem d148_44 : mm_dec q148 44 = some (.invokevirtual 160) := by decide +kernel
theorem d148_47 : mm_dec q148 47 = some (.aload_n 0) := by decide +kernel
theorem d148_48 : mm_dec q148 48 = some (.iload_n 1) := by decide +kernel
theorem d148_49 : mm_dec q148 49 = some (.bipush 42) := by decide +kernel
theorem d148_51 : mm_dec q148 51 = some (.if_icmp .ne 7) := by decide +kernel
theorem d148_54 : mm_dec q148 54 = some (.iconst 4) := by decide +kernel
theorem d148_55 : mm_dec q148 55 = some (.goto 4) := by decide +kernel
theorem d148_58 : mm_dec q148 58 = some (.iconst 5) := by decide +kernel
theorem d148_59 : mm_dec q148 59 = some (.iconst 0) := by decide +kernel
theorem d148_60 : mm_dec q148 60 = some (.invokevirtual 142) := by decide +kernel
theorem d148_63 : mm_dec q148 63 = some (.aload_n 0) := by decide +kernel
theorem d148_64 : mm_dec q148 64 = some (.getfield 120) := by decide +kernel
theorem d148_67 : mm_dec q148 67 = some (.iconst (-1)) := by decide +kernel
theorem d148_68 : mm_dec q148 68 = some (.if_icmp .ne 10) := by decide +kernel
theorem d148_71 : mm_dec q148 71 = some (.aload_n 0) := by decide +kernel
theorem d148_72 : mm_dec q148 72 = some (.invokevirtual 132) := by decide +kernel
theorem d148_75 : mm_dec q148 75 = some (.goto 4) := by decide +kernel
theorem d148_78 : mm_dec q148 78 = some (.iconst (-1)) := by decide +kernel
theorem d148_79 : mm_dec q148 79 = some (.istore_n 1) := by decide +kernel
theorem d148_80 : mm_dec q148 80 = some (.goto (-59)) := by decide +kernel
theorem d148_83 : mm_dec q148 83 = some (.return_) := by decide +kernel
theorem d149_0 : mm_dec q149 0 = some (.aload_n 0) := by decide +kernel
theorem d149_1 : mm_dec q149 1 = some (.invokevirtual 163) := by decide +kernel
theorem d149_4 : mm_dec q149 4 = some (.aload_n 0) := by decide +kernel
theorem d149_5 : mm_dec q149 5 = some (.getfield 120) := by decide +kernel
theorem d149_8 : mm_dec q149 8 = some (.iconst (-1)) := by decide +kernel
theorem d149_9 : mm_dec q149 9 = some (.if_icmp .ne 10) := by decide +kernel
theorem d149_12 : mm_dec q149 12 = some (.aload_n 0) := by decide +kernel
theorem d149_13 : mm_dec q149 13 = some (.invokevirtual 132) := by decide +kernel
theorem d149_16 : mm_dec q149 16 = some (.goto 4) := by decide +kernel
theorem d149_19 : mm_dec q149 19 = some (.iconst (-1)) := by decide +kernel
theorem d149_20 : mm_dec q149 20 = some (.istore_n 1) := by decide +kernel
theorem d149_21 : mm_dec q149 21 = some (.iload_n 1) := by decide +kernel
theorem d149_22 : mm_dec q149 22 = some (.bipush 43) := by decide +kernel
theorem d149_24 : mm_dec q149 24 = some (.if_icmp .eq 9) := by decide +kernel
theorem d149_27 : mm_dec q149 27 = some (.iload_n 1) := by decide +kernel
theorem d149_28 : mm_dec q149 28 = some (.bipush 45) := by decide +kernel
theorem d149_30 : mm_dec q149 30 = some (.if_icmp .ne 53) := by decide +kernel
theorem d149_33 : mm_dec q149 33 = some (.aload_n 0) := by decide +kernel
theorem d149_34 : mm_dec q149 34 = some (.dup) := by decide +kernel
theorem d149_35 : mm_dec q149 35 = some (.getfield 113) := by decide +kernel
theorem d149_38 : mm_dec q149 38 = some (.iconst 1) := by decide +kernel
theorem d149_39 : mm_dec q149 39 = some (.iadd) := by decide +kernel
theorem d149_40 : mm_dec q149 40 = some (.putfield 113) := by decide +kernel
theorem d149_43 : mm_dec q149 43 = some (.aload_n 0) := by decide +kernel
theorem d149_44 : mm_dec q149 44 = some (.invokevirtual 163) := by decide +kernel
theorem d149_47 : mm_dec q149 47 = some (.aload_n 0) := by decide +kernel
theorem d149_48 : mm_dec q149 48 = some (.iload_n 1) := by decide +kernel
theorem d149_49 : mm_dec q149 49 = some (.bipush 43) := by decide +kernel
theorem d149_51 : mm_dec q149 51 = some (.if_icmp .ne 7) := by decide +kernel
theorem d149_54 : mm_dec q149 54 = some (.iconst 2) := by decide +kernel
theorem d149_55 : mm_dec q149 55 = some (.goto 4) := by decide +kernel
theorem d149_58 : mm_dec q149 58 = some (.iconst 3) := by decide +kernel
theorem d149_59 : mm_dec q149 59 = some (.iconst 0) := by decide +kernel
theorem d149_60 : mm_dec q149 60 = some (.invokevirtual 142) := by decide +kernel
theorem d149_63 : mm_dec q149 63 = some (.aload_n 0) := by decide +kernel
theorem d149_64 : mm_dec q149 64 = some (.getfield 120) := by decide +kernel
theorem d149_67 : mm_dec q149 67 = some (.iconst (-1)) := by decide +kernel
theorem d149_68 : mm_dec q149 68 = some (.if_icmp .ne 10) := by decide +kernel
theorem d149_71 : mm_dec q149 71 = some (.aload_n 0) := by decide +kernel
theorem d149_72 : mm_dec q149 72 = some (.invokevirtual 132) := by decide +kernel
theorem d149_75 : mm_dec q149 75 = some (.goto 4) := by decide +kernel
theorem d149_78 : mm_dec q149 78 = some (.iconst (-1)) := by decide +kernel
theorem d149_79 : mm_dec q149 79 = some (.istore_n 1) := by decide +kernel
theorem d149_80 : mm_dec q149 80 = some (.goto (-59)) := by decide +kernel
theorem d149_83 : mm_dec q149 83 = some (.return_) := by decide +kernel
theorem d150_0 : mm_dec q150 0 = some (.iload_n 0) := by decide +kernel
theorem d150_1 : mm_dec q150 1 = some (.bipush 61) := by decide +kernel
theorem d150_3 : mm_dec q150 3 = some (.if_icmp .eq 15) := by decide +kernel
theorem d150_6 : mm_dec q150 6 = some (.iload_n 0) := by decide +kernel
theorem d150_7 : mm_dec q150 7 = some (.bipush 60) := by decide +kernel
theorem d150_9 : mm_dec q150 9 = some (.if_icmp .eq 9) := by decide +kernel
theorem d150_12 : mm_dec q150 12 = some (.iload_n 0) := by decide +kernel
theorem d150_13 : mm_dec q150 13 = some (.bipush 62) := by decide +kernel
theorem d150_15 : mm_dec q150 15 = some (.if_icmp .ne 7) := by decide +kernel
theorem d150_18 : mm_dec q150 18 = some (.iconst 1) := by decide +kernel
theorem d150_19 : mm_dec q150 19 = some (.goto 4) := by decide +kernel
theorem d150_22 : mm_dec q150 22 = some (.iconst 0) := by decide +kernel
theorem d150_23 : mm_dec q150 23 = some (.ireturn) := by decide +kernel
theorem d151_0 : mm_dec q151 0 = some (.aload_n 0) := by decide +kernel
theorem d151_1 : mm_dec q151 1 = some (.getfield 120) := by decide +kernel
theorem d151_4 : mm_dec q151 4 = some (.iconst (-1)) := by decide +kernel
theorem d151_5 : mm_dec q151 5 = some (.if_icmp .ne 10) := by decide +kernel
theorem d151_8 : mm_dec q151 8 = some (.aload_n 0) := by decide +kernel
theorem d151_9 : mm_dec q151 9 = some (.invokevirtual 132) := by decide +kernel
theorem d151_12 : mm_dec q151 12 = some (.goto 4) := by decide +kernel
theorem d151_15 : mm_dec q151 15 = some (.iconst (-1)) := by decide +kernel
theorem d151_16 : mm_dec q151 16 = some (.istore_n 1) := by decide +kernel
theorem d151_17 : mm_dec q151 17 = some (.iload_n 1) := by decide +kernel
theorem d151_18 : mm_dec q151 18 = some (.invokestatic 166) := by decide +kernel
theorem d151_21 : mm_dec q151 21 = some (.ifCond .ne 8) := by decide +kernel
theorem d151_24 : mm_dec q151 24 = some (.aload_n 0) := by decide +kernel
theorem d151_25 : mm_dec q151 25 = some (.invokevirtual 129) := by decide +kernel
theorem d151_28 : mm_dec q151 28 = some (.return_) := by decide +kernel
theorem d151_29 : mm_dec q151 29 = some (.aload_n 0) := by decide +kernel
theorem d151_30 : mm_dec q151 30 = some (.dup) := by decide +kernel
theorem d151_31 : mm_dec q151 31 = some (.getfield 113) := by decide +kernel
theorem d151_34 : mm_dec q151 34 = some (.iconst 1) := by decide +kernel
theorem d151_35 : mm_dec q151 35 = some (.iadd) := by decide +kernel
theorem d151_36 : mm_dec q151 36 = some (.putfield 113) := by decide +kernel
theorem d151_39 : mm_dec q151 39 = some (.aload_n 0) := by decide +kernel
theorem d151_40 : mm_dec q151 40 = some (.invokevirtual 153) := by decide +kernel
theorem d151_43 : mm_dec q151 43 = some (.aload_n 0) := by decide +kernel
theorem d151_44 : mm_dec q151 44 = some (.iload_n 1) := by decide +kernel
theorem d151_45 : mm_dec q151 45 = some (.bipush 61) := by decide +kernel
theorem d151_47 : mm_dec q151 47 = some (.if_icmp .ne 8) := by decide +kernel
theorem d151_50 : mm_dec q151 50 = some (.bipush 6) := by decide +kernel
theorem d151_52 : mm_dec q151 52 = some (.goto 16) := by decide +kernel
theorem d151_55 : mm_dec q151 55 = some (.iload_n 1) := by decide +kernel
theorem d151_56 : mm_dec q151 56 = some (.bipush 60) := by decide +kernel
theorem d151_58 : mm_dec q151 58 = some (.if_icmp .ne 8) := by decide +kernel
theorem d151_61 : mm_dec q151 61 = some (.bipush 7) := by decide +kernel
theorem d151_63 : mm_dec q151 63 = some (.goto 5) := by decide +kernel
theorem d151_66 : mm_dec q151 66 = some (.bipush 8) := by decide +kernel
theorem d151_68 : mm_dec q151 68 = some (.iconst 0) := by decide +kernel
theorem d151_69 : mm_dec q151 69 = some (.invokevirtual 142) := by decide +kernel
theorem d151_72 : mm_dec q151 72 = some (.return_) := by decide +kernel
theorem d152_0 : mm_dec q152 0 = some (.aload_n 0) := by decide +kernel
theorem d152_1 : mm_dec q152 1 = some (.invokevirtual 132) := by decide +kernel
theorem d152_4 : mm_dec q152 4 = some (.istore_n 1) := by decide +kernel
theorem d152_5 : mm_dec q152 5 = some (.iload_n 1) := by decide +kernel
theorem d152_6 : mm_dec q152 6 = some (.bipush 33) := by decide +kernel
theorem d152_8 : mm_dec q152 8 = some (.if_icmp .ne 39) := by decide +kernel
theorem d152_11 : mm_dec q152 11 = some (.aload_n 0) := by decide +kernel
theorem d152_12 : mm_dec q152 12 = some (.invokevirtual 150) := by decide +kernel
theorem d152_15 : mm_dec q152 15 = some (.aload_n 0) := by decide +kernel
theorem d152_16 : mm_dec q152 16 = some (.getfield 120) := by decide +kernel
theorem d152_19 : mm_dec q152 19 = some (.iconst (-1)) := by decide +kernel
theorem d152_20 : mm_dec q152 20 = some (.if_icmp .ne 74) := by decide +kernel
theorem d152_23 : mm_dec q152 23 = some (.aload_n 0) := by decide +kernel
theorem d152_24 : mm_dec q152 24 = some (.invokevirtual 169) := by decide +kernel
theorem d152_27 : mm_dec q152 27 = some (.aload_n 0) := by decide +kernel
theorem d152_28 : mm_dec q152 28 = some (.bipush 9) := by decide +kernel
theorem d152_30 : mm_dec q152 30 = some (.iconst 0) := by decide +kernel
theorem d152_31 : mm_dec q152 31 = some (.invokevirtual 142) := by decide +kernel
theorem d152_34 : mm_dec q152 34 = some (.aload_n 0) := by decide +kernel
theorem d152_35 : mm_dec q152 35 = some (.dup) := by decide +kernel
theorem d152_36 : mm_dec q152 36 = some (.getfield 126) := by decide +kernel
theorem d152_39 : mm_dec q152 39 = some (.iconst 1) := by decide +kernel
theorem d152_40 : mm_dec q152 40 = some (.isub) := by decide +kernel
theorem d152_41 : mm_dec q152 41 = some (.putfield 126) := by decide +kernel
theorem d152_44 : mm_dec q152 44 = some (.goto 50) := by decide +kernel
theorem d152_47 : mm_dec q152 47 = some (.iload_n 1) := by decide +kernel
theorem d152_48 : mm_dec q152 48 = some (.bipush 40) := by decide +kernel
theorem d152_50 : mm_dec q152 50 = some (.if_icmp .ne 28) := by decide +kernel
theorem d152_53 : mm_dec q152 53 = some (.aload_n 0) := by decide +kernel
theorem d152_54 : mm_dec q152 54 = some (.invokevirtual 150) := by decide +kernel
theorem d152_57 : mm_dec q152 57 = some (.aload_n 0) := by decide +kernel
theorem d152_58 : mm_dec q152 58 = some (.getfield 120) := by decide +kernel
theorem d152_61 : mm_dec q152 61 = some (.iconst (-1)) := by decide +kernel
theorem d152_62 : mm_dec q152 62 = some (.if_icmp .ne 32) := by decide +kernel
theorem d152_65 : mm_dec q152 65 = some (.aload_n 0) := by decide +kernel
theorem d152_66 : mm_dec q152 66 = some (.invokevirtual 172) := by decide +kernel
theorem d152_69 : mm_dec q152 69 = some (.aload_n 0) := by decide +kernel
theorem d152_70 : mm_dec q152 70 = some (.bipush 41) := by decide +kernel
theorem d152_72 : mm_dec q152 72 = some (.invokevirtual 156) := by decide +kernel
theorem d152_75 : mm_dec q152 75 = some (.goto 19) := by decide +kernel
theorem d152_78 : mm_dec q152 78 = some (.aload_n 0) := by decide +kernel
theorem d152_79 : mm_dec q152 79 = some (.invokevirtual 153) := by decide +kernel
theorem d152_82 : mm_dec q152 82 = some (.aload_n 0) := by decide +kernel
theorem d152_83 : mm_dec q152 83 = some (.getfield 120) := by decide +kernel
theorem d152_86 : mm_dec q152 86 = some (.iconst (-1)) := by decide +kernel
theorem d152_87 : mm_dec q152 87 = some (.if_icmp .ne 7) := by decide +kernel
theorem d152_90 : mm_dec q152 90 = some (.aload_n 0) := by decide +kernel
theorem d152_91 : mm_dec q152 91 = some (.invokevirtual 175) := by decide +kernel
theorem d152_94 : mm_dec q152 94 = some (.return_) := by decide +kernel
theorem d153_0 : mm_dec q153 0 = some (.aload_n 0) := by decide +kernel
theorem d153_1 : mm_dec q153 1 = some (.getfield 120) := by decide +kernel
theorem d153_4 : mm_dec q153 4 = some (.iconst (-1)) := by decide +kernel
theorem d153_5 : mm_dec q153 5 = some (.if_icmp .ne 36) := by decide +kernel
theorem d153_8 : mm_dec q153 8 = some (.aload_n 0) := by decide +kernel
theorem d153_9 : mm_dec q153 9 = some (.invokevirtual 132) := by decide +kernel
theorem d153_12 : mm_dec q153 12 = some (.bipush 38) := by decide +kernel
theorem d153_14 : mm_dec q153 14 = some (.if_icmp .ne 27) := by decide +kernel
theorem d153_17 : mm_dec q153 17 = some (.aload_n 0) := by decide +kernel
theorem d153_18 : mm_dec q153 18 = some (.dup) := by decide +kernel
theorem d153_19 : mm_dec q153 19 = some (.getfield 113) := by decide +kernel
theorem d153_22 : mm_dec q153 22 = some (.iconst 1) := by decide +kernel
theorem d153_23 : mm_dec q153 23 = some (.iadd) := by decide +kernel
theorem d153_24 : mm_dec q153 24 = some (.putfield 113) := by decide +kernel
theorem d153_27 : mm_dec q153 27 = some (.aload_n 0) := by decide +kernel
theorem d153_28 : mm_dec q153 28 = some (.invokevirtual 169) := by decide +kernel
theorem d153_31 : mm_dec q153 31 = some (.aload_n 0) := by decide +kernel
theorem d153_32 : mm_dec q153 32 = some (.bipush 10) := by decide +kernel
theorem d153_34 : mm_dec q153 34 = some (.iconst 0) := by decide +kernel
theorem d153_35 : mm_dec q153 35 = some (.invokevirtual 142) := by decide +kernel
theorem d153_38 : mm_dec q153 38 = some (.goto (-38)) := by decide +kernel
theorem d153_41 : mm_dec q153 41 = some (.return_) := by decide +kernel
theorem d154_0 : mm_dec q154 0 = some (.aload_n 0) := by decide +kernel
theorem d154_1 : mm_dec q154 1 = some (.getfield 120) := by decide +kernel
theorem d154_4 : mm_dec q154 4 = some (.iconst (-1)) := by decide +kernel
theorem d154_5 : mm_dec q154 5 = some (.if_icmp .ne 40) := by decide +kernel
theorem d154_8 : mm_dec q154 8 = some (.aload_n 0) := by decide +kernel
theorem d154_9 : mm_dec q154 9 = some (.invokevirtual 132) := by decide +kernel
theorem d154_12 : mm_dec q154 12 = some (.bipush 124) := by decide +kernel
theorem d154_14 : mm_dec q154 14 = some (.if_icmp .ne 31) := by decide +kernel
theorem d154_17 : mm_dec q154 17 = some (.aload_n 0) := by decide +kernel
theorem d154_18 : mm_dec q154 18 = some (.dup) := by decide +kernel
theorem d154_19 : mm_dec q154 19 = some (.getfield 113) := by decide +kernel
theorem d154_22 : mm_dec q154 22 = some (.iconst 1) := by decide +kernel
theorem d154_23 : mm_dec q154 23 = some (.iadd) := by decide +kernel
theorem d154_24 : mm_dec q154 24 = some (.putfield 113) := by decide +kernel
theorem d154_27 : mm_dec q154 27 = some (.aload_n 0) := by decide +kernel
theorem d154_28 : mm_dec q154 28 = some (.invokevirtual 169) := by decide +kernel
theorem d154_31 : mm_dec q154 31 = some (.aload_n 0) := by decide +kernel
theorem d154_32 : mm_dec q154 32 = some (.invokevirtual 178) := by decide +kernel
theorem d154_35 : mm_dec q154 35 = some (.aload_n 0) := by decide +kernel
theorem d154_36 : mm_dec q154 36 = some (.bipush 11) := by decide +kernel
theorem d154_38 : mm_dec q154 38 = some (.iconst 0) := by decide +kernel
theorem d154_39 : mm_dec q154 39 = some (.invokevirtual 142) := by decide +kernel
theorem d154_42 : mm_dec q154 42 = some (.goto (-42)) := by decide +kernel
theorem d154_45 : mm_dec q154 45 = some (.return_) := by decide +kernel
theorem d155_0 : mm_dec q155 0 = some (.aload_n 0) := by decide +kernel
theorem d155_1 : mm_dec q155 1 = some (.invokevirtual 169) := by decide +kernel
theorem d155_4 : mm_dec q155 4 = some (.aload_n 0) := by decide +kernel
theorem d155_5 : mm_dec q155 5 = some (.invokevirtual 178) := by decide +kernel
theorem d155_8 : mm_dec q155 8 = some (.aload_n 0) := by decide +kernel
theorem d155_9 : mm_dec q155 9 = some (.invokevirtual 181) := by decide +kernel
theorem d155_12 : mm_dec q155 12 = some (.return_) := by decide +kernel
theorem d156_0 : mm_dec q156 0 = some (.bipush 90) := by decide +kernel
theorem d156_2 : mm_dec q156 2 = some (.aload_n 0) := by decide +kernel
theorem d156_3 : mm_dec q156 3 = some (.getfield 123) := by decide +kernel
theorem d156_6 : mm_dec q156 6 = some (.imul) := by decide +kernel
theorem d156_7 : mm_dec q156 7 = some (.aload_n 0) := by decide +kernel
theorem d156_8 : mm_dec q156 8 = some (.getfield 22) := by decide +kernel
theorem d156_11 : mm_dec q156 11 = some (.aload_n 0) := by decide +kernel
theorem d156_12 : mm_dec q156 12 = some (.getfield 123) := by decide +kernel
theorem d156_15 : mm_dec q156 15 = some (.iaload) := by decide +kernel
theorem d156_16 : mm_dec q156 16 = some (.iadd) := by decide +kernel
theorem d156_17 : mm_dec q156 17 = some (.istore_n 1) := by decide +kernel
theorem d156_18 : mm_dec q156 18 = some (.aload_n 0) := by decide +kernel
theorem d156_19 : mm_dec q156 19 = some (.getfield 120) := by decide +kernel
theorem d156_22 : mm_dec q156 22 = some (.iconst (-1)) := by decide +kernel
theorem d156_23 : mm_dec q156 23 = some (.if_icmp .ne 16) := by decide +kernel
theorem d156_26 : mm_dec q156 26 = some (.aload_n 0) := by decide +kernel
theorem d156_27 : mm_dec q156 27 = some (.invokevirtual 132) := by decide +kernel
theorem d156_30 : mm_dec q156 30 = some (.bipush 121) := by decide +kernel
theorem d156_32 : mm_dec q156 32 = some (.if_icmp .eq 7) := by decide +kernel
theorem d156_35 : mm_dec q156 35 = some (.aload_n 0) := by decide +kernel
theorem d156_36 : mm_dec q156 36 = some (.invokevirtual 129) := by decide +kernel
theorem d156_39 : mm_dec q156 39 = some (.aload_n 0) := by decide +kernel
theorem d156_40 : mm_dec q156 40 = some (.dup) := by decide +kernel
theorem d156_41 : mm_dec q156 41 = some (.getfield 113) := by decide +kernel
theorem d156_44 : mm_dec q156 44 = some (.iconst 1) := by decide +kernel
theorem d156_45 : mm_dec q156 45 = some (.iadd) := by decide +kernel
theorem d156_46 : mm_dec q156 46 = some (.putfield 113) := by decide +kernel
theorem d156_49 : mm_dec q156 49 = some (.aload_n 0) := by decide +kernel
theorem d156_50 : mm_dec q156 50 = some (.getfield 120) := by decide +kernel
theorem d156_53 : mm_dec q156 53 = some (.iconst (-1)) := by decide +kernel
theorem d156_54 : mm_dec q156 54 = some (.if_icmp .ne 16) := by decide +kernel
theorem d156_57 : mm_dec q156 57 = some (.aload_n 0) := by decide +kernel
theorem d156_58 : mm_dec q156 58 = some (.invokevirtual 132) := by decide +kernel
theorem d156_61 : mm_dec q156 61 = some (.bipush 58) := by decide +kernel
theorem d156_63 : mm_dec q156 63 = some (.if_icmp .eq 7) := by decide +kernel
theorem d156_66 : mm_dec q156 66 = some (.aload_n 0) := by decide +kernel
theorem d156_67 : mm_dec q156 67 = some (.invokevirtual 129) := by decide +kernel
theorem d156_70 : mm_dec q156 70 = some (.aload_n 0) := by decide +kernel
theorem d156_71 : mm_dec q156 71 = some (.dup) := by decide +kernel
theorem d156_72 : mm_dec q156 72 = some (.getfield 113) := by decide +kernel
theorem d156_75 : mm_dec q156 75 = some (.iconst 1) := by decide +kernel
theorem d156_76 : mm_dec q156 76 = some (.iadd) := by decide +kernel
theorem d156_77 : mm_dec q156 77 = some (.putfield 113) := by decide +kernel
theorem d156_80 : mm_dec q156 80 = some (.aload_n 0) := by decide +kernel
theorem d156_81 : mm_dec q156 81 = some (.getfield 120) := by decide +kernel
theorem d156_84 : mm_dec q156 84 = some (.iconst (-1)) := by decide +kernel
theorem d156_85 : mm_dec q156 85 = some (.if_icmp .eq 4) := by decide +kernel
theorem d156_88 : mm_dec q156 88 = some (.return_) := by decide +kernel
theorem d156_89 : mm_dec q156 89 = some (.aload_n 0) := by decide +kernel
theorem d156_90 : mm_dec q156 90 = some (.getfield 25) := by decide +kernel
theorem d156_93 : mm_dec q156 93 = some (.iload_n 1) := by decide +kernel
theorem d156_94 : mm_dec q156 94 = some (.aload_n 0) := by decide +kernel
theorem d156_95 : mm_dec q156 95 = some (.getfield 19) := by decide +kernel
theorem d156_98 : mm_dec q156 98 = some (.aload_n 0) := by decide +kernel
theorem d156_99 : mm_dec q156 99 = some (.getfield 123) := by decide +kernel
theorem d156_102 : mm_dec q156 102 = some (.iaload) := by decide +kernel
theorem d156_103 : mm_dec q156 103 = some (.iastore) := by decide +kernel
theorem d156_104 : mm_dec q156 104 = some (.aload_n 0) := by decide +kernel
theorem d156_105 : mm_dec q156 105 = some (.invokevirtual 132) := by decide +kernel
theorem d156_108 : mm_dec q156 108 = some (.bipush 33) := by decide +kernel
theorem d156_110 : mm_dec q156 110 = some (.if_icmp .eq 12) := by decide +kernel
theorem d156_113 : mm_dec q156 113 = some (.aload_n 0) := by decide +kernel
theorem d156_114 : mm_dec q156 114 = some (.invokevirtual 132) := by decide +kernel
theorem d156_117 : mm_dec q156 117 = some (.bipush 40) := by decide +kernel
theorem d156_119 : mm_dec q156 119 = some (.if_icmp .ne 7) := by decide +kernel
theorem d156_122 : mm_dec q156 122 = some (.iconst 1) := by decide +kernel
theorem d156_123 : mm_dec q156 123 = some (.goto 4) := by decide +kernel
theorem d156_126 : mm_dec q156 126 = some (.iconst 0) := by decide +kernel
theorem d156_127 : mm_dec q156 127 = some (.istore_n 2) := by decide +kernel
theorem d156_128 : mm_dec q156 128 = some (.iload_n 2) := by decide +kernel
theorem d156_129 : mm_dec q156 129 = some (.ifCond .eq 10) := by decide +kernel
theorem d156_132 : mm_dec q156 132 = some (.aload_n 0) := by decide +kernel
theorem d156_133 : mm_dec q156 133 = some (.invokevirtual 172) := by decide +kernel
theorem d156_136 : mm_dec q156 136 = some (.goto 47) := by decide +kernel
theorem d156_139 : mm_dec q156 139 = some (.aload_n 0) := by decide +kernel
theorem d156_140 : mm_dec q156 140 = some (.invokevirtual 153) := by decide +kernel
theorem d156_143 : mm_dec q156 143 = some (.aload_n 0) := by decide +kernel
theorem d156_144 : mm_dec q156 144 = some (.getfield 120) := by decide +kernel
theorem d156_147 : mm_dec q156 147 = some (.iconst (-1)) := by decide +kernel
theorem d156_148 : mm_dec q156 148 = some (.if_icmp .ne 17) := by decide +kernel
theorem d156_151 : mm_dec q156 151 = some (.aload_n 0) := by decide +kernel
theorem d156_152 : mm_dec q156 152 = some (.invokevirtual 132) := by decide +kernel
theorem d156_155 : mm_dec q156 155 = some (.invokestatic 166) := by decide +kernel
theorem d156_158 : mm_dec q156 158 = some (.ifCond .eq 7) := by decide +kernel
theorem d156_161 : mm_dec q156 161 = some (.iconst 1) := by decide +kernel
theorem d156_162 : mm_dec q156 162 = some (.goto 4) := by decide +kernel
theorem d156_165 : mm_dec q156 165 = some (.iconst 0) := by decide +kernel
theorem d156_166 : mm_dec q156 166 = some (.istore_n 2) := by decide +kernel
theorem d156_167 : mm_dec q156 167 = some (.iload_n 2) := by decide +kernel
theorem d156_168 : mm_dec q156 168 = some (.ifCond .eq 15) := by decide +kernel
theorem d156_171 : mm_dec q156 171 = some (.aload_n 0) := by decide +kernel
theorem d156_172 : mm_dec q156 172 = some (.invokevirtual 175) := by decide +kernel
theorem d156_175 : mm_dec q156 175 = some (.aload_n 0) := by decide +kernel
theorem d156_176 : mm_dec q156 176 = some (.invokevirtual 178) := by decide +kernel
theorem d156_179 : mm_dec q156 179 = some (.aload_n 0) := by decide +kernel
theorem d156_180 : mm_dec q156 180 = some (.invokevirtual 181) := by decide +kernel
theorem d156_183 : mm_dec q156 183 = some (.aload_n 0) := by decide +kernel
theorem d156_184 : mm_dec q156 184 = some (.getfield 28) := by decide +kernel
theorem d156_187 : mm_dec q156 187 = some (.iload_n 1) := by decide +kernel
theorem d156_188 : mm_dec q156 188 = some (.aload_n 0) := by decide +kernel
theorem d156_189 : mm_dec q156 189 = some (.getfield 25) := by decide +kernel
theorem d156_192 : mm_dec q156 192 = some (.iload_n 1) := by decide +kernel
theorem d156_193 : mm_dec q156 193 = some (.iaload) := by decide +kernel
theorem d156_194 : mm_dec q156 194 = some (.iastore) := by decide +kernel
theorem d156_195 : mm_dec q156 195 = some (.iload_n 2) := by decide +kernel
theorem d156_196 : mm_dec q156 196 = some (.ifCond .eq 54) := by decide +kernel
theorem d156_199 : mm_dec q156 199 = some (.aload_n 0) := by decide +kernel
theorem d156_200 : mm_dec q156 200 = some (.getfield 120) := by decide +kernel
theorem d156_203 : mm_dec q156 203 = some (.iconst (-1)) := by decide +kernel
theorem d156_204 : mm_dec q156 204 = some (.if_icmp .ne 46) := by decide +kernel
theorem d156_207 : mm_dec q156 207 = some (.aload_n 0) := by decide +kernel
theorem d156_208 : mm_dec q156 208 = some (.invokevirtual 132) := by decide +kernel
theorem d156_211 : mm_dec q156 211 = some (.bipush 63) := by decide +kernel
theorem d156_213 : mm_dec q156 213 = some (.if_icmp .eq 8) := by decide +kernel
theorem d156_216 : mm_dec q156 216 = some (.aload_n 0) := by decide +kernel
theorem d156_217 : mm_dec q156 217 = some (.invokevirtual 129) := by decide +kernel
theorem d156_220 : mm_dec q156 220 = some (.return_) := by decide +kernel
theorem d156_221 : mm_dec q156 221 = some (.aload_n 0) := by decide +kernel
theorem d156_222 : mm_dec q156 222 = some (.dup) := by decide +kernel
theorem d156_223 : mm_dec q156 223 = some (.getfield 113) := by decide +kernel
theorem d156_226 : mm_dec q156 226 = some (.iconst 1) := by decide +kernel
theorem d156_227 : mm_dec q156 227 = some (.iadd) := by decide +kernel
theorem d156_228 : mm_dec q156 228 = some (.putfield 113) := by decide +kernel
theorem d156_231 : mm_dec q156 231 = some (.aload_n 0) := by decide +kernel
theorem d156_232 : mm_dec q156 232 = some (.getfield 28) := by decide +kernel
theorem d156_235 : mm_dec q156 235 = some (.iload_n 1) := by decide +kernel
theorem d156_236 : mm_dec q156 236 = some (.aload_n 0) := by decide +kernel
theorem d156_237 : mm_dec q156 237 = some (.getfield 19) := by decide +kernel
theorem d156_240 : mm_dec q156 240 = some (.aload_n 0) := by decide +kernel
theorem d156_241 : mm_dec q156 241 = some (.getfield 123) := by decide +kernel
theorem d156_244 : mm_dec q156 244 = some (.iaload) := by decide +kernel
theorem d156_245 : mm_dec q156 245 = some (.iastore) := by decide +kernel
theorem d156_246 : mm_dec q156 246 = some (.aload_n 0) := by decide +kernel
theorem d156_247 : mm_dec q156 247 = some (.invokevirtual 153) := by decide +kernel
theorem d156_250 : mm_dec q156 250 = some (.aload_n 0) := by decide +kernel
theorem d156_251 : mm_dec q156 251 = some (.getfield 31) := by decide +kernel
theorem d156_254 : mm_dec q156 254 = some (.iload_n 1) := by decide +kernel
theorem d156_255 : mm_dec q156 255 = some (.aload_n 0) := by decide +kernel
theorem d156_256 : mm_dec q156 256 = some (.getfield 19) := by decide +kernel
theorem d156_259 : mm_dec q156 259 = some (.aload_n 0) := by decide +kernel
theorem d156_260 : mm_dec q156 260 = some (.getfield 123) := by decide +kernel
theorem d156_263 : mm_dec q156 263 = some (.iaload) := by decide +kernel
theorem d156_264 : mm_dec q156 264 = some (.iastore) := by decide +kernel
theorem d156_265 : mm_dec q156 265 = some (.aload_n 0) := by decide +kernel
theorem d156_266 : mm_dec q156 266 = some (.getfield 22) := by decide +kernel
theorem d156_269 : mm_dec q156 269 = some (.aload_n 0) := by decide +kernel
theorem d156_270 : mm_dec q156 270 = some (.getfield 123) := by decide +kernel
theorem d156_273 : mm_dec q156 273 = some (.dup2) := by decide +kernel
theorem d156_274 : mm_dec q156 274 = some (.iaload) := by decide +kernel
theorem d156_275 : mm_dec q156 275 = some (.iconst 1) := by decide +kernel
theorem d156_276 : mm_dec q156 276 = some (.iadd) := by decide +kernel
theorem d156_277 : mm_dec q156 277 = some (.iastore) := by decide +kernel
theorem d156_278 : mm_dec q156 278 = some (.return_) := by decide +kernel
theorem d157_0 : mm_dec q157 0 = some (.aload_n 0) := by decide +kernel
theorem d157_1 : mm_dec q157 1 = some (.iload_n 1) := by decide +kernel
theorem d157_2 : mm_dec q157 2 = some (.putfield 123) := by decide +kernel
theorem d157_5 : mm_dec q157 5 = some (.aload_n 0) := by decide +kernel
theorem d157_6 : mm_dec q157 6 = some (.iconst 0) := by decide +kernel
theorem d157_7 : mm_dec q157 7 = some (.putfield 113) := by decide +kernel
theorem d157_10 : mm_dec q157 10 = some (.aload_n 0) := by decide +kernel
theorem d157_11 : mm_dec q157 11 = some (.iconst (-1)) := by decide +kernel
theorem d157_12 : mm_dec q157 12 = some (.putfield 120) := by decide +kernel
theorem d157_15 : mm_dec q157 15 = some (.aload_n 0) := by decide +kernel
theorem d157_16 : mm_dec q157 16 = some (.iconst 0) := by decide +kernel
theorem d157_17 : mm_dec q157 17 = some (.putfield 126) := by decide +kernel
theorem d157_20 : mm_dec q157 20 = some (.aload_n 0) := by decide +kernel
theorem d157_21 : mm_dec q157 21 = some (.getfield 19) := by decide +kernel
theorem d157_24 : mm_dec q157 24 = some (.iload_n 1) := by decide +kernel
theorem d157_25 : mm_dec q157 25 = some (.iconst 0) := by decide +kernel
theorem d157_26 : mm_dec q157 26 = some (.iastore) := by decide +kernel
