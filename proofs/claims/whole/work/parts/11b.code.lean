theorem d19_35 : mm_dec q19 35 = some (.invokevirtual 83) := by decide +kernel
theorem d19_38 : mm_dec q19 38 = some (.aload_n 0) := by decide +kernel
theorem d19_39 : mm_dec q19 39 = some (.iload_n 1) := by decide +kernel
theorem d19_40 : mm_dec q19 40 = some (.invokevirtual 58) := by decide +kernel
theorem d19_43 : mm_dec q19 43 = some (.ifCond .ne 5) := by decide +kernel
theorem d19_46 : mm_dec q19 46 = some (.iconst 0) := by decide +kernel
theorem d19_47 : mm_dec q19 47 = some (.ireturn) := by decide +kernel
theorem d19_48 : mm_dec q19 48 = some (.aload_n 0) := by decide +kernel
theorem d19_49 : mm_dec q19 49 = some (.getfield 15) := by decide +kernel
theorem d19_52 : mm_dec q19 52 = some (.iload_n 2) := by decide +kernel
theorem d19_53 : mm_dec q19 53 = some (.invokevirtual 37) := by decide +kernel
theorem d19_56 : mm_dec q19 56 = some (.iconst 1) := by decide +kernel
theorem d19_57 : mm_dec q19 57 = some (.ireturn) := by decide +kernel
theorem d20_0 : mm_dec q20 0 = some (.iload_n 0) := by decide +kernel
theorem d20_1 : mm_dec q20 1 = some (.bipush 61) := by decide +kernel
theorem d20_3 : mm_dec q20 3 = some (.if_icmp .ne 8) := by decide +kernel
theorem d20_6 : mm_dec q20 6 = some (.bipush (-15)) := by decide +kernel
theorem d20_8 : mm_dec q20 8 = some (.goto 26) := by decide +kernel
theorem d20_11 : mm_dec q20 11 = some (.iload_n 0) := by decide +kernel
theorem d20_12 : mm_dec q20 12 = some (.bipush 60) := by decide +kernel
theorem d20_14 : mm_dec q20 14 = some (.if_icmp .ne 8) := by decide +kernel
theorem d20_17 : mm_dec q20 17 = some (.bipush (-16)) := by decide +kernel
theorem d20_19 : mm_dec q20 19 = some (.goto 15) := by decide +kernel
theorem d20_22 : mm_dec q20 22 = some (.iload_n 0) := by decide +kernel
theorem d20_23 : mm_dec q20 23 = some (.bipush 62) := by decide +kernel
theorem d20_25 : mm_dec q20 25 = some (.if_icmp .ne 8) := by decide +kernel
theorem d20_28 : mm_dec q20 28 = some (.bipush (-17)) := by decide +kernel
theorem d20_30 : mm_dec q20 30 = some (.goto 4) := by decide +kernel
theorem d20_33 : mm_dec q20 33 = some (.iconst (-1)) := by decide +kernel
theorem d20_34 : mm_dec q20 34 = some (.ireturn) := by decide +kernel
theorem d21_0 : mm_dec q21 0 = some (.aload_n 0) := by decide +kernel
theorem d21_1 : mm_dec q21 1 = some (.iload_n 1) := by decide +kernel
theorem d21_2 : mm_dec q21 2 = some (.invokevirtual 89) := by decide +kernel
theorem d21_5 : mm_dec q21 5 = some (.ifCond .ne 5) := by decide +kernel
theorem d21_8 : mm_dec q21 8 = some (.iconst 0) := by decide +kernel
theorem d21_9 : mm_dec q21 9 = some (.ireturn) := by decide +kernel
theorem d21_10 : mm_dec q21 10 = some (.iconst 0) := by decide +kernel
theorem d21_11 : mm_dec q21 11 = some (.istore_n 2) := by decide +kernel
theorem d21_12 : mm_dec q21 12 = some (.iload_n 2) := by decide +kernel
theorem d21_13 : mm_dec q21 13 = some (.sipush 160) := by decide +kernel
theorem d21_16 : mm_dec q21 16 = some (.if_icmp .ge 68) := by decide +kernel
theorem d21_19 : mm_dec q21 19 = some (.aload_n 0) := by decide +kernel
theorem d21_20 : mm_dec q21 20 = some (.getfield 9) := by decide +kernel
theorem d21_23 : mm_dec q21 23 = some (.invokevirtual 45) := by decide +kernel
theorem d21_26 : mm_dec q21 26 = some (.istore_n 3) := by decide +kernel
theorem d21_27 : mm_dec q21 27 = some (.iload_n 3) := by decide +kernel
theorem d21_28 : mm_dec q21 28 = some (.bipush 43) := by decide +kernel
theorem d21_30 : mm_dec q21 30 = some (.if_icmp .eq 11) := by decide +kernel
theorem d21_33 : mm_dec q21 33 = some (.iload_n 3) := by decide +kernel
theorem d21_34 : mm_dec q21 34 = some (.bipush 45) := by decide +kernel
theorem d21_36 : mm_dec q21 36 = some (.if_icmp .eq 5) := by decide +kernel
theorem d21_39 : mm_dec q21 39 = some (.iconst 1) := by decide +kernel
theorem d21_40 : mm_dec q21 40 = some (.ireturn) := by decide +kernel
theorem d21_41 : mm_dec q21 41 = some (.aload_n 0) := by decide +kernel
theorem d21_42 : mm_dec q21 42 = some (.getfield 9) := by decide +kernel
theorem d21_45 : mm_dec q21 45 = some (.invokevirtual 83) := by decide +kernel
theorem d21_48 : mm_dec q21 48 = some (.aload_n 0) := by decide +kernel
theorem d21_49 : mm_dec q21 49 = some (.iload_n 1) := by decide +kernel
theorem d21_50 : mm_dec q21 50 = some (.invokevirtual 89) := by decide +kernel
theorem d21_53 : mm_dec q21 53 = some (.ifCond .ne 5) := by decide +kernel
theorem d21_56 : mm_dec q21 56 = some (.iconst 0) := by decide +kernel
theorem d21_57 : mm_dec q21 57 = some (.ireturn) := by decide +kernel
theorem d21_58 : mm_dec q21 58 = some (.aload_n 0) := by decide +kernel
theorem d21_59 : mm_dec q21 59 = some (.getfield 15) := by decide +kernel
theorem d21_62 : mm_dec q21 62 = some (.iload_n 3) := by decide +kernel
theorem d21_63 : mm_dec q21 63 = some (.bipush 43) := by decide +kernel
theorem d21_65 : mm_dec q21 65 = some (.if_icmp .ne 8) := by decide +kernel
theorem d21_68 : mm_dec q21 68 = some (.bipush (-18)) := by decide +kernel
theorem d21_70 : mm_dec q21 70 = some (.goto 5) := by decide +kernel
theorem d21_73 : mm_dec q21 73 = some (.bipush (-19)) := by decide +kernel
theorem d21_75 : mm_dec q21 75 = some (.invokevirtual 37) := by decide +kernel
theorem d21_78 : mm_dec q21 78 = some (.iinc 2 1) := by decide +kernel
theorem d21_81 : mm_dec q21 81 = some (.goto (-69)) := by decide +kernel
theorem d21_84 : mm_dec q21 84 = some (.iconst 1) := by decide +kernel
theorem d21_85 : mm_dec q21 85 = some (.ireturn) := by decide +kernel
theorem d22_0 : mm_dec q22 0 = some (.aload_n 0) := by decide +kernel
theorem d22_1 : mm_dec q22 1 = some (.iload_n 1) := by decide +kernel
theorem d22_2 : mm_dec q22 2 = some (.invokevirtual 92) := by decide +kernel
theorem d22_5 : mm_dec q22 5 = some (.ifCond .ne 5) := by decide +kernel
theorem d22_8 : mm_dec q22 8 = some (.iconst 0) := by decide +kernel
theorem d22_9 : mm_dec q22 9 = some (.ireturn) := by decide +kernel
theorem d22_10 : mm_dec q22 10 = some (.iconst 0) := by decide +kernel
theorem d22_11 : mm_dec q22 11 = some (.istore_n 2) := by decide +kernel
theorem d22_12 : mm_dec q22 12 = some (.iload_n 2) := by decide +kernel
theorem d22_13 : mm_dec q22 13 = some (.sipush 160) := by decide +kernel
theorem d22_16 : mm_dec q22 16 = some (.if_icmp .ge 68) := by decide +kernel
theorem d22_19 : mm_dec q22 19 = some (.aload_n 0) := by decide +kernel
theorem d22_20 : mm_dec q22 20 = some (.getfield 9) := by decide +kernel
theorem d22_23 : mm_dec q22 23 = some (.invokevirtual 45) := by decide +kernel
theorem d22_26 : mm_dec q22 26 = some (.istore_n 3) := by decide +kernel
theorem d22_27 : mm_dec q22 27 = some (.iload_n 3) := by decide +kernel
theorem d22_28 : mm_dec q22 28 = some (.bipush 42) := by decide +kernel
theorem d22_30 : mm_dec q22 30 = some (.if_icmp .eq 11) := by decide +kernel
theorem d22_33 : mm_dec q22 33 = some (.iload_n 3) := by decide +kernel
theorem d22_34 : mm_dec q22 34 = some (.bipush 47) := by decide +kernel
theorem d22_36 : mm_dec q22 36 = some (.if_icmp .eq 5) := by decide +kernel
theorem d22_39 : mm_dec q22 39 = some (.iconst 1) := by decide +kernel
theorem d22_40 : mm_dec q22 40 = some (.ireturn) := by decide +kernel
theorem d22_41 : mm_dec q22 41 = some (.aload_n 0) := by decide +kernel
theorem d22_42 : mm_dec q22 42 = some (.getfield 9) := by decide +kernel
theorem d22_45 : mm_dec q22 45 = some (.invokevirtual 83) := by decide +kernel
theorem d22_48 : mm_dec q22 48 = some (.aload_n 0) := by decide +kernel
theorem d22_49 : mm_dec q22 49 = some (.iload_n 1) := by decide +kernel
theorem d22_50 : mm_dec q22 50 = some (.invokevirtual 92) := by decide +kernel
theorem d22_53 : mm_dec q22 53 = some (.ifCond .ne 5) := by decide +kernel
theorem d22_56 : mm_dec q22 56 = some (.iconst 0) := by decide +kernel
theorem d22_57 : mm_dec q22 57 = some (.ireturn) := by decide +kernel
theorem d22_58 : mm_dec q22 58 = some (.aload_n 0) := by decide +kernel
theorem d22_59 : mm_dec q22 59 = some (.getfield 15) := by decide +kernel
theorem d22_62 : mm_dec q22 62 = some (.iload_n 3) := by decide +kernel
theorem d22_63 : mm_dec q22 63 = some (.bipush 42) := by decide +kernel
theorem d22_65 : mm_dec q22 65 = some (.if_icmp .ne 8) := by decide +kernel
theorem d22_68 : mm_dec q22 68 = some (.bipush (-20)) := by decide +kernel
theorem d22_70 : mm_dec q22 70 = some (.goto 5) := by decide +kernel
theorem d22_73 : mm_dec q22 73 = some (.bipush (-21)) := by decide +kernel
theorem d22_75 : mm_dec q22 75 = some (.invokevirtual 37) := by decide +kernel
theorem d22_78 : mm_dec q22 78 = some (.iinc 2 1) := by decide +kernel
theorem d22_81 : mm_dec q22 81 = some (.goto (-69)) := by decide +kernel
theorem d22_84 : mm_dec q22 84 = some (.iconst 1) := by decide +kernel
theorem d22_85 : mm_dec q22 85 = some (.ireturn) := by decide +kernel
theorem d23_0 : mm_dec q23 0 = some (.aload_n 0) := by decide +kernel
theorem d23_1 : mm_dec q23 1 = some (.getfield 9) := by decide +kernel
theorem d23_4 : mm_dec q23 4 = some (.invokevirtual 45) := by decide +kernel
theorem d23_7 : mm_dec q23 7 = some (.istore_n 2) := by decide +kernel
theorem d23_8 : mm_dec q23 8 = some (.iload_n 2) := by decide +kernel
theorem d23_9 : mm_dec q23 9 = some (.bipush 91) := by decide +kernel
theorem d23_11 : mm_dec q23 11 = some (.if_icmp .ne 59) := by decide +kernel
theorem d23_14 : mm_dec q23 14 = some (.iload_n 1) := by decide +kernel
theorem d23_15 : mm_dec q23 15 = some (.bipush 6) := by decide +kernel
theorem d23_17 : mm_dec q23 17 = some (.if_icmp .lt 18) := by decide +kernel
theorem d23_20 : mm_dec q23 20 = some (.aload_n 0) := by decide +kernel
theorem d23_21 : mm_dec q23 21 = some (.getfield 9) := by decide +kernel
theorem d23_24 : mm_dec q23 24 = some (.aload_n 0) := by decide +kernel
theorem d23_25 : mm_dec q23 25 = some (.getfield 9) := by decide +kernel
theorem d23_28 : mm_dec q23 28 = some (.getfield 49) := by decide +kernel
theorem d23_31 : mm_dec q23 31 = some (.invokevirtual 80) := by decide +kernel
theorem d23_34 : mm_dec q23 34 = some (.ireturn) := by decide +kernel
theorem d23_35 : mm_dec q23 35 = some (.aload_n 0) := by decide +kernel
theorem d23_36 : mm_dec q23 36 = some (.getfield 9) := by decide +kernel
theorem d23_39 : mm_dec q23 39 = some (.invokevirtual 83) := by decide +kernel
theorem d23_42 : mm_dec q23 42 = some (.aload_n 0) := by decide +kernel
theorem d23_43 : mm_dec q23 43 = some (.iload_n 1) := by decide +kernel
theorem d23_44 : mm_dec q23 44 = some (.iconst 1) := by decide +kernel
theorem d23_45 : mm_dec q23 45 = some (.iadd) := by decide +kernel
theorem d23_46 : mm_dec q23 46 = some (.invokevirtual 58) := by decide +kernel
theorem d23_49 : mm_dec q23 49 = some (.ifCond .eq 19) := by decide +kernel
theorem d23_52 : mm_dec q23 52 = some (.aload_n 0) := by decide +kernel
theorem d23_53 : mm_dec q23 53 = some (.getfield 9) := by decide +kernel
theorem d23_56 : mm_dec q23 56 = some (.bipush 93) := by decide +kernel
theorem d23_58 : mm_dec q23 58 = some (.invokevirtual 52) := by decide +kernel
theorem d23_61 : mm_dec q23 61 = some (.ifCond .eq 7) := by decide +kernel
theorem d23_64 : mm_dec q23 64 = some (.iconst 1) := by decide +kernel
theorem d23_65 : mm_dec q23 65 = some (.goto 4) := by decide +kernel
theorem d23_68 : mm_dec q23 68 = some (.iconst 0) := by decide +kernel
theorem d23_69 : mm_dec q23 69 = some (.ireturn) := by decide +kernel
theorem d23_70 : mm_dec q23 70 = some (.iload_n 2) := by decide +kernel
theorem d23_71 : mm_dec q23 71 = some (.invokestatic 95) := by decide +kernel
theorem d23_74 : mm_dec q23 74 = some (.istore_n 3) := by decide +kernel
theorem d23_75 : mm_dec q23 75 = some (.iload_n 3) := by decide +kernel
theorem d23_76 : mm_dec q23 76 = some (.iconst (-1)) := by decide +kernel
theorem d23_77 : mm_dec q23 77 = some (.if_icmp .eq 23) := by decide +kernel
theorem d23_80 : mm_dec q23 80 = some (.aload_n 0) := by decide +kernel
theorem d23_81 : mm_dec q23 81 = some (.getfield 9) := by decide +kernel
theorem d23_84 : mm_dec q23 84 = some (.invokevirtual 83) := by decide +kernel
theorem d23_87 : mm_dec q23 87 = some (.aload_n 0) := by decide +kernel
theorem d23_88 : mm_dec q23 88 = some (.getfield 15) := by decide +kernel
theorem d23_91 : mm_dec q23 91 = some (.bipush (-2)) := by decide +kernel
theorem d23_93 : mm_dec q23 93 = some (.iload_n 3) := by decide +kernel
theorem d23_94 : mm_dec q23 94 = some (.isub) := by decide +kernel
theorem d23_95 : mm_dec q23 95 = some (.invokevirtual 37) := by decide +kernel
theorem d23_98 : mm_dec q23 98 = some (.iconst 1) := by decide +kernel
theorem d23_99 : mm_dec q23 99 = some (.ireturn) := by decide +kernel
theorem d23_100 : mm_dec q23 100 = some (.aload_n 0) := by decide +kernel
theorem d23_101 : mm_dec q23 101 = some (.getfield 9) := by decide +kernel
theorem d23_104 : mm_dec q23 104 = some (.iconst 4) := by decide +kernel
theorem d23_105 : mm_dec q23 105 = some (.invokevirtual 98) := by decide +kernel
theorem d23_108 : mm_dec q23 108 = some (.istore 4) := by decide +kernel
theorem d23_110 : mm_dec q23 110 = some (.iload 4) := by decide +kernel
theorem d23_112 : mm_dec q23 112 = some (.iconst (-1)) := by decide +kernel
theorem d23_113 : mm_dec q23 113 = some (.if_icmp .ne 5) := by decide +kernel
theorem d23_116 : mm_dec q23 116 = some (.iconst 0) := by decide +kernel
theorem d23_117 : mm_dec q23 117 = some (.ireturn) := by decide +kernel
theorem d23_118 : mm_dec q23 118 = some (.aload_n 0) := by decide +kernel
theorem d23_119 : mm_dec q23 119 = some (.getfield 15) := by decide +kernel
theorem d23_122 : mm_dec q23 122 = some (.iload 4) := by decide +kernel
theorem d23_124 : mm_dec q23 124 = some (.invokevirtual 37) := by decide +kernel
theorem d23_127 : mm_dec q23 127 = some (.iconst 1) := by decide +kernel
theorem d23_128 : mm_dec q23 128 = some (.ireturn) := by decide +kernel
theorem d24_0 : mm_dec q24 0 = some (.aload_n 0) := by decide +kernel
theorem d24_1 : mm_dec q24 1 = some (.invokespecial 3) := by decide +kernel
theorem d24_4 : mm_dec q24 4 = some (.aload_n 0) := by decide +kernel
theorem d24_5 : mm_dec q24 5 = some (.bipush 20) := by decide +kernel
theorem d24_7 : mm_dec q24 7 = some (.newarray .int) := by decide +kernel
theorem d24_9 : mm_dec q24 9 = some (.putfield 9) := by decide +kernel
theorem d24_12 : mm_dec q24 12 = some (.aload_n 0) := by decide +kernel
theorem d24_13 : mm_dec q24 13 = some (.bipush 20) := by decide +kernel
theorem d24_15 : mm_dec q24 15 = some (.newarray .boolean) := by decide +kernel
theorem d24_17 : mm_dec q24 17 = some (.putfield 15) := by decide +kernel
theorem d24_20 : mm_dec q24 20 = some (.return_) := by decide +kernel
theorem d25_0 : mm_dec q25 0 = some (.aload_n 0) := by decide +kernel
theorem d25_1 : mm_dec q25 1 = some (.iconst 0) := by decide +kernel
theorem d25_2 : mm_dec q25 2 = some (.putfield 19) := by decide +kernel
theorem d25_5 : mm_dec q25 5 = some (.return_) := by decide +kernel
theorem d26_0 : mm_dec q26 0 = some (.aload_n 0) := by decide +kernel
theorem d26_1 : mm_dec q26 1 = some (.getfield 19) := by decide +kernel
theorem d26_4 : mm_dec q26 4 = some (.ifCond .lt 42) := by decide +kernel
theorem d26_7 : mm_dec q26 7 = some (.aload_n 0) := by decide +kernel
theorem d26_8 : mm_dec q26 8 = some (.getfield 19) := by decide +kernel
theorem d26_11 : mm_dec q26 11 = some (.bipush 20) := by decide +kernel
theorem d26_13 : mm_dec q26 13 = some (.if_icmp .ge 33) := by decide +kernel
theorem d26_16 : mm_dec q26 16 = some (.aload_n 0) := by decide +kernel
theorem d26_17 : mm_dec q26 17 = some (.getfield 9) := by decide +kernel
theorem d26_20 : mm_dec q26 20 = some (.aload_n 0) := by decide +kernel
theorem d26_21 : mm_dec q26 21 = some (.getfield 19) := by decide +kernel
theorem d26_24 : mm_dec q26 24 = some (.iload_n 1) := by decide +kernel
theorem d26_25 : mm_dec q26 25 = some (.iastore) := by decide +kernel
theorem d26_26 : mm_dec q26 26 = some (.aload_n 0) := by decide +kernel
theorem d26_27 : mm_dec q26 27 = some (.getfield 15) := by decide +kernel
theorem d26_30 : mm_dec q26 30 = some (.aload_n 0) := by decide +kernel
theorem d26_31 : mm_dec q26 31 = some (.getfield 19) := by decide +kernel
theorem d26_34 : mm_dec q26 34 = some (.iload_n 2) := by decide +kernel
theorem d26_35 : mm_dec q26 35 = some (.bastore) := by decide +kernel
theorem d26_36 : mm_dec q26 36 = some (.aload_n 0) := by decide +kernel
theorem d26_37 : mm_dec q26 37 = some (.dup) := by decide +kernel
theorem d26_38 : mm_dec q26 38 = some (.getfield 19) := by decide +kernel
theorem d26_41 : mm_dec q26 41 = some (.iconst 1) := by decide +kernel
theorem d26_42 : mm_dec q26 42 = some (.iadd) := by decide +kernel
theorem d26_43 : mm_dec q26 43 = some (.putfield 19) := by decide +kernel
theorem d26_46 : mm_dec q26 46 = some (.return_) := by decide +kernel
theorem d27_0 : mm_dec q27 0 = some (.iconst (-1)) := by decide +kernel
theorem d27_1 : mm_dec q27 1 = some (.istore_n 1) := by decide +kernel
theorem d27_2 : mm_dec q27 2 = some (.iconst 0) := by decide +kernel
theorem d27_3 : mm_dec q27 3 = some (.istore_n 2) := by decide +kernel
theorem d27_4 : mm_dec q27 4 = some (.iload_n 2) := by decide +kernel
theorem d27_5 : mm_dec q27 5 = some (.aload_n 0) := by decide +kernel
theorem d27_6 : mm_dec q27 6 = some (.getfield 19) := by decide +kernel
theorem d27_9 : mm_dec q27 9 = some (.if_icmp .ge 26) := by decide +kernel
theorem d27_12 : mm_dec q27 12 = some (.iload_n 2) := by decide +kernel
theorem d27_13 : mm_dec q27 13 = some (.bipush 20) := by decide +kernel
theorem d27_15 : mm_dec q27 15 = some (.if_icmp .ge 20) := by decide +kernel
theorem d27_18 : mm_dec q27 18 = some (.iload_n 1) := by decide +kernel
theorem d27_19 : mm_dec q27 19 = some (.aload_n 0) := by decide +kernel
theorem d27_20 : mm_dec q27 20 = some (.getfield 9) := by decide +kernel
theorem d27_23 : mm_dec q27 23 = some (.iload_n 2) := by decide +kernel
theorem d27_24 : mm_dec q27 24 = some (.iaload) := by decide +kernel
theorem d27_25 : mm_dec q27 25 = some (.invokestatic 23) := by decide +kernel
theorem d27_28 : mm_dec q27 28 = some (.istore_n 1) := by decide +kernel
theorem d27_29 : mm_dec q27 29 = some (.iinc 2 1) := by decide +kernel
theorem d27_32 : mm_dec q27 32 = some (.goto (-28)) := by decide +kernel
theorem d27_35 : mm_dec q27 35 = some (.iload_n 1) := by decide +kernel
theorem d27_36 : mm_dec q27 36 = some (.ireturn) := by decide +kernel
theorem d28_0 : mm_dec q28 0 = some (.iconst 0) := by decide +kernel
theorem d28_1 : mm_dec q28 1 = some (.istore_n 3) := by decide +kernel
theorem d28_2 : mm_dec q28 2 = some (.iload_n 3) := by decide +kernel
theorem d28_3 : mm_dec q28 3 = some (.aload_n 0) := by decide +kernel
theorem d28_4 : mm_dec q28 4 = some (.getfield 19) := by decide +kernel
theorem d28_7 : mm_dec q28 7 = some (.if_icmp .ge 52) := by decide +kernel
theorem d28_10 : mm_dec q28 10 = some (.iload_n 3) := by decide +kernel
theorem d28_11 : mm_dec q28 11 = some (.bipush 20) := by decide +kernel
theorem d28_13 : mm_dec q28 13 = some (.if_icmp .ge 46) := by decide +kernel
theorem d28_16 : mm_dec q28 16 = some (.iload_n 2) := by decide +kernel
theorem d28_17 : mm_dec q28 17 = some (.aload_n 0) := by decide +kernel
theorem d28_18 : mm_dec q28 18 = some (.getfield 9) := by decide +kernel
theorem d28_21 : mm_dec q28 21 = some (.iload_n 3) := by decide +kernel
theorem d28_22 : mm_dec q28 22 = some (.iaload) := by decide +kernel
theorem d28_23 : mm_dec q28 23 = some (.iadd) := by decide +kernel
theorem d28_24 : mm_dec q28 24 = some (.istore 4) := by decide +kernel
theorem d28_26 : mm_dec q28 26 = some (.iload 4) := by decide +kernel
theorem d28_28 : mm_dec q28 28 = some (.ifCond .lt 23) := by decide +kernel
theorem d28_31 : mm_dec q28 31 = some (.iload 4) := by decide +kernel
theorem d28_33 : mm_dec q28 33 = some (.aload_n 1) := by decide +kernel
theorem d28_34 : mm_dec q28 34 = some (.arraylength) := by decide +kernel
theorem d28_35 : mm_dec q28 35 = some (.if_icmp .ge 16) := by decide +kernel
theorem d28_38 : mm_dec q28 38 = some (.aload_n 1) := by decide +kernel
theorem d28_39 : mm_dec q28 39 = some (.iload 4) := by decide +kernel
theorem d28_41 : mm_dec q28 41 = some (.baload) := by decide +kernel
theorem d28_42 : mm_dec q28 42 = some (.aload_n 0) := by decide +kernel
theorem d28_43 : mm_dec q28 43 = some (.getfield 15) := by decide +kernel
theorem d28_46 : mm_dec q28 46 = some (.iload_n 3) := by decide +kernel
theorem d28_47 : mm_dec q28 47 = some (.baload) := by decide +kernel
theorem d28_48 : mm_dec q28 48 = some (.if_icmp .eq 5) := by decide +kernel
theorem d28_51 : mm_dec q28 51 = some (.iconst 0) := by decide +kernel
theorem d28_52 : mm_dec q28 52 = some (.ireturn) := by decide +kernel
theorem d28_53 : mm_dec q28 53 = some (.iinc 3 1) := by decide +kernel
theorem d28_56 : mm_dec q28 56 = some (.goto (-54)) := by decide +kernel
theorem d28_59 : mm_dec q28 59 = some (.iconst 1) := by decide +kernel
theorem d28_60 : mm_dec q28 60 = some (.ireturn) := by decide +kernel
theorem d29_0 : mm_dec q29 0 = some (.aload_n 0) := by decide +kernel
theorem d29_1 : mm_dec q29 1 = some (.invokespecial 3) := by decide +kernel
theorem d29_4 : mm_dec q29 4 = some (.aload_n 0) := by decide +kernel
theorem d29_5 : mm_dec q29 5 = some (.bipush 60) := by decide +kernel
theorem d29_7 : mm_dec q29 7 = some (.anewarray 9) := by decide +kernel
theorem d29_10 : mm_dec q29 10 = some (.putfield 11) := by decide +kernel
theorem d29_13 : mm_dec q29 13 = some (.iconst 0) := by decide +kernel
theorem d29_14 : mm_dec q29 14 = some (.istore_n 1) := by decide +kernel
theorem d29_15 : mm_dec q29 15 = some (.iload_n 1) := by decide +kernel
theorem d29_16 : mm_dec q29 16 = some (.aload_n 0) := by decide +kernel
theorem d29_17 : mm_dec q29 17 = some (.getfield 11) := by decide +kernel
theorem d29_20 : mm_dec q29 20 = some (.arraylength) := by decide +kernel
theorem d29_21 : mm_dec q29 21 = some (.if_icmp .ge 22) := by decide +kernel
theorem d29_24 : mm_dec q29 24 = some (.aload_n 0) := by decide +kernel
theorem d29_25 : mm_dec q29 25 = some (.getfield 11) := by decide +kernel
theorem d29_28 : mm_dec q29 28 = some (.iload_n 1) := by decide +kernel
theorem d29_29 : mm_dec q29 29 = some (.new 9) := by decide +kernel
theorem d29_32 : mm_dec q29 32 = some (.dup) := by decide +kernel
theorem d29_33 : mm_dec q29 33 = some (.invokespecial 17) := by decide +kernel
theorem d29_36 : mm_dec q29 36 = some (.aastore) := by decide +kernel
theorem d29_37 : mm_dec q29 37 = some (.iinc 1 1) := by decide +kernel
theorem d29_40 : mm_dec q29 40 = some (.goto (-25)) := by decide +kernel
theorem d29_43 : mm_dec q29 43 = some (.return_) := by decide +kernel
theorem d30_0 : mm_dec q30 0 = some (.aload_n 0) := by decide +kernel
theorem d30_1 : mm_dec q30 1 = some (.iconst 0) := by decide +kernel
theorem d30_2 : mm_dec q30 2 = some (.putfield 18) := by decide +kernel
theorem d30_5 : mm_dec q30 5 = some (.return_) := by decide +kernel
theorem d31_0 : mm_dec q31 0 = some (.aload_n 0) := by decide +kernel
theorem d31_1 : mm_dec q31 1 = some (.getfield 22) := by decide +kernel
theorem d31_4 : mm_dec q31 4 = some (.ifCond .lt 15) := by decide +kernel
theorem d31_7 : mm_dec q31 7 = some (.aload_n 0) := by decide +kernel
theorem d31_8 : mm_dec q31 8 = some (.getfield 22) := by decide +kernel
theorem d31_11 : mm_dec q31 11 = some (.aload_n 0) := by decide +kernel
theorem d31_12 : mm_dec q31 12 = some (.getfield 11) := by decide +kernel
theorem d31_15 : mm_dec q31 15 = some (.arraylength) := by decide +kernel
theorem d31_16 : mm_dec q31 16 = some (.if_icmp .lt 8) := by decide +kernel
theorem d31_19 : mm_dec q31 19 = some (.aload_n 0) := by decide +kernel
theorem d31_20 : mm_dec q31 20 = some (.iconst 0) := by decide +kernel
theorem d31_21 : mm_dec q31 21 = some (.putfield 22) := by decide +kernel
theorem d31_24 : mm_dec q31 24 = some (.aload_n 0) := by decide +kernel
theorem d31_25 : mm_dec q31 25 = some (.getfield 11) := by decide +kernel
theorem d31_28 : mm_dec q31 28 = some (.aload_n 0) := by decide +kernel
theorem d31_29 : mm_dec q31 29 = some (.getfield 22) := by decide +kernel
theorem d31_32 : mm_dec q31 32 = some (.aaload) := by decide +kernel
theorem d31_33 : mm_dec q31 33 = some (.ifnull 62) := by decide +kernel
theorem d31_36 : mm_dec q31 36 = some (.aload_n 0) := by decide +kernel
theorem d31_37 : mm_dec q31 37 = some (.getfield 11) := by decide +kernel
theorem d31_40 : mm_dec q31 40 = some (.aload_n 0) := by decide +kernel
theorem d31_41 : mm_dec q31 41 = some (.getfield 22) := by decide +kernel
theorem d31_44 : mm_dec q31 44 = some (.aaload) := by decide +kernel
theorem d31_45 : mm_dec q31 45 = some (.aload_n 1) := by decide +kernel
theorem d31_46 : mm_dec q31 46 = some (.invokevirtual 25) := by decide +kernel
theorem d31_49 : mm_dec q31 49 = some (.aload_n 0) := by decide +kernel
theorem d31_50 : mm_dec q31 50 = some (.aload_n 0) := by decide +kernel
theorem d31_51 : mm_dec q31 51 = some (.getfield 22) := by decide +kernel
theorem d31_54 : mm_dec q31 54 = some (.iconst 1) := by decide +kernel
theorem d31_55 : mm_dec q31 55 = some (.iadd) := by decide +kernel
theorem d31_56 : mm_dec q31 56 = some (.aload_n 0) := by decide +kernel
theorem d31_57 : mm_dec q31 57 = some (.getfield 11) := by decide +kernel
theorem d31_60 : mm_dec q31 60 = some (.arraylength) := by decide +kernel
theorem d31_61 : mm_dec q31 61 = some (.if_icmp .ge 12) := by decide +kernel
theorem d31_64 : mm_dec q31 64 = some (.aload_n 0) := by decide +kernel
theorem d31_65 : mm_dec q31 65 = some (.getfield 22) := by decide +kernel
theorem d31_68 : mm_dec q31 68 = some (.iconst 1) := by decide +kernel
theorem d31_69 : mm_dec q31 69 = some (.iadd) := by decide +kernel
theorem d31_70 : mm_dec q31 70 = some (.goto 4) := by decide +kernel
theorem d31_73 : mm_dec q31 73 = some (.iconst 0) := by decide +kernel
theorem d31_74 : mm_dec q31 74 = some (.putfield 22) := by decide +kernel
theorem d31_77 : mm_dec q31 77 = some (.aload_n 0) := by decide +kernel
theorem d31_78 : mm_dec q31 78 = some (.aload_n 0) := by decide +kernel
theorem d31_79 : mm_dec q31 79 = some (.getfield 18) := by decide +kernel
theorem d31_82 : mm_dec q31 82 = some (.iconst 1) := by decide +kernel
theorem d31_83 : mm_dec q31 83 = some (.iadd) := by decide +kernel
theorem d31_84 : mm_dec q31 84 = some (.aload_n 0) := by decide +kernel
theorem d31_85 : mm_dec q31 85 = some (.getfield 11) := by decide +kernel
theorem d31_88 : mm_dec q31 88 = some (.arraylength) := by decide +kernel
theorem d31_89 : mm_dec q31 89 = some (.invokestatic 29) := by decide +kernel
theorem d31_92 : mm_dec q31 92 = some (.putfield 18) := by decide +kernel
theorem d31_95 : mm_dec q31 95 = some (.return_) := by decide +kernel
theorem d32_0 : mm_dec q32 0 = some (.aload_n 0) := by decide +kernel
theorem d32_1 : mm_dec q32 1 = some (.getfield 22) := by decide +kernel
theorem d32_4 : mm_dec q32 4 = some (.ifCond .le 24) := by decide +kernel
theorem d32_7 : mm_dec q32 7 = some (.aload_n 0) := by decide +kernel
theorem d32_8 : mm_dec q32 8 = some (.getfield 22) := by decide +kernel
theorem d32_11 : mm_dec q32 11 = some (.aload_n 0) := by decide +kernel
theorem d32_12 : mm_dec q32 12 = some (.getfield 11) := by decide +kernel
theorem d32_15 : mm_dec q32 15 = some (.arraylength) := by decide +kernel
theorem d32_16 : mm_dec q32 16 = some (.if_icmp .gt 12) := by decide +kernel
theorem d32_19 : mm_dec q32 19 = some (.aload_n 0) := by decide +kernel
theorem d32_20 : mm_dec q32 20 = some (.getfield 22) := by decide +kernel
theorem d32_23 : mm_dec q32 23 = some (.iconst 1) := by decide +kernel
theorem d32_24 : mm_dec q32 24 = some (.isub) := by decide +kernel
theorem d32_25 : mm_dec q32 25 = some (.goto 10) := by decide +kernel
theorem d32_28 : mm_dec q32 28 = some (.aload_n 0) := by decide +kernel
theorem d32_29 : mm_dec q32 29 = some (.getfield 11) := by decide +kernel
theorem d32_32 : mm_dec q32 32 = some (.arraylength) := by decide +kernel
theorem d32_33 : mm_dec q32 33 = some (.iconst 1) := by decide +kernel
theorem d32_34 : mm_dec q32 34 = some (.isub) := by decide +kernel
theorem d32_35 : mm_dec q32 35 = some (.istore_n 2) := by decide +kernel
theorem d32_36 : mm_dec q32 36 = some (.aload_n 0) := by decide +kernel
theorem d32_37 : mm_dec q32 37 = some (.getfield 18) := by decide +kernel
theorem d32_40 : mm_dec q32 40 = some (.iconst 1) := by decide +kernel
theorem d32_41 : mm_dec q32 41 = some (.if_icmp .lt 16) := by decide +kernel
theorem d32_44 : mm_dec q32 44 = some (.iload_n 2) := by decide +kernel
theorem d32_45 : mm_dec q32 45 = some (.ifCond .lt 12) := by decide +kernel
theorem d32_48 : mm_dec q32 48 = some (.aload_n 0) := by decide +kernel
theorem d32_49 : mm_dec q32 49 = some (.getfield 11) := by decide +kernel
theorem d32_52 : mm_dec q32 52 = some (.iload_n 2) := by decide +kernel
theorem d32_53 : mm_dec q32 53 = some (.aaload) := by decide +kernel
theorem d32_54 : mm_dec q32 54 = some (.ifnonnull 5) := by decide +kernel
theorem d32_57 : mm_dec q32 57 = some (.iconst 0) := by decide +kernel
theorem d32_58 : mm_dec q32 58 = some (.ireturn) := by decide +kernel
theorem d32_59 : mm_dec q32 59 = some (.aload_n 0) := by decide +kernel
theorem d32_60 : mm_dec q32 60 = some (.dup) := by decide +kernel
theorem d32_61 : mm_dec q32 61 = some (.getfield 18) := by decide +kernel
theorem d32_64 : mm_dec q32 64 = some (.iconst 1) := by decide +kernel
theorem d32_65 : mm_dec q32 65 = some (.isub) := by decide +kernel
theorem d32_66 : mm_dec q32 66 = some (.putfield 18) := by decide +kernel
theorem d32_69 : mm_dec q32 69 = some (.aload_n 0) := by decide +kernel
theorem d32_70 : mm_dec q32 70 = some (.iload_n 2) := by decide +kernel
theorem d32_71 : mm_dec q32 71 = some (.putfield 22) := by decide +kernel
theorem d32_74 : mm_dec q32 74 = some (.aload_n 1) := by decide +kernel
theorem d32_75 : mm_dec q32 75 = some (.aload_n 0) := by decide +kernel
theorem d32_76 : mm_dec q32 76 = some (.getfield 11) := by decide +kernel
theorem d32_79 : mm_dec q32 79 = some (.iload_n 2) := by decide +kernel
theorem d32_80 : mm_dec q32 80 = some (.aaload) := by decide +kernel
theorem d32_81 : mm_dec q32 81 = some (.invokevirtual 25) := by decide +kernel
theorem d32_84 : mm_dec q32 84 = some (.iconst 1) := by decide +kernel
theorem d32_85 : mm_dec q32 85 = some (.ireturn) := by decide +kernel
theorem d33_0 : mm_dec q33 0 = some (.aload_n 0) := by decide +kernel
theorem d33_1 : mm_dec q33 1 = some (.invokespecial 3) := by decide +kernel
theorem d33_4 : mm_dec q33 4 = some (.aload_n 0) := by decide +kernel
theorem d33_5 : mm_dec q33 5 = some (.aload_n 1) := by decide +kernel
theorem d33_6 : mm_dec q33 6 = some (.putfield 9) := by decide +kernel
theorem d33_9 : mm_dec q33 9 = some (.return_) := by decide +kernel
theorem d34_0 : mm_dec q34 0 = some (.aload_n 0) := by decide +kernel
theorem d34_1 : mm_dec q34 1 = some (.iconst 0) := by decide +kernel
theorem d34_2 : mm_dec q34 2 = some (.putfield 15) := by decide +kernel
theorem d34_5 : mm_dec q34 5 = some (.aload_n 0) := by decide +kernel
theorem d34_6 : mm_dec q34 6 = some (.iconst (-1)) := by decide +kernel
theorem d34_7 : mm_dec q34 7 = some (.putfield 19) := by decide +kernel
theorem d34_10 : mm_dec q34 10 = some (.return_) := by decide +kernel
theorem d35_0 : mm_dec q35 0 = some (.aload_n 0) := by decide +kernel
theorem d35_1 : mm_dec q35 1 = some (.getfield 15) := by decide +kernel
theorem d35_4 : mm_dec q35 4 = some (.istore_n 1) := by decide +kernel
theorem d35_5 : mm_dec q35 5 = some (.iload_n 1) := by decide +kernel
theorem d35_6 : mm_dec q35 6 = some (.ifCond .lt 61) := by decide +kernel
theorem d35_9 : mm_dec q35 9 = some (.iload_n 1) := by decide +kernel
theorem d35_10 : mm_dec q35 10 = some (.aload_n 0) := by decide +kernel
theorem d35_11 : mm_dec q35 11 = some (.getfield 9) := by decide +kernel
theorem d35_14 : mm_dec q35 14 = some (.getfield 22) := by decide +kernel
theorem d35_17 : mm_dec q35 17 = some (.if_icmp .ge 50) := by decide +kernel
theorem d35_20 : mm_dec q35 20 = some (.iload_n 1) := by decide +kernel
theorem d35_21 : mm_dec q35 21 = some (.aload_n 0) := by decide +kernel
theorem d35_22 : mm_dec q35 22 = some (.getfield 9) := by decide +kernel
theorem d35_25 : mm_dec q35 25 = some (.getfield 27) := by decide +kernel
theorem d35_28 : mm_dec q35 28 = some (.arraylength) := by decide +kernel
theorem d35_29 : mm_dec q35 29 = some (.if_icmp .ge 38) := by decide +kernel
theorem d35_32 : mm_dec q35 32 = some (.aload_n 0) := by decide +kernel
theorem d35_33 : mm_dec q35 33 = some (.iload_n 1) := by decide +kernel
theorem d35_34 : mm_dec q35 34 = some (.putfield 15) := by decide +kernel
theorem d35_37 : mm_dec q35 37 = some (.aload_n 0) := by decide +kernel
theorem d35_38 : mm_dec q35 38 = some (.getfield 9) := by decide +kernel
theorem d35_41 : mm_dec q35 41 = some (.getfield 27) := by decide +kernel
theorem d35_44 : mm_dec q35 44 = some (.iload_n 1) := by decide +kernel
theorem d35_45 : mm_dec q35 45 = some (.iaload) := by decide +kernel
theorem d35_46 : mm_dec q35 46 = some (.bipush 32) := by decide +kernel
theorem d35_48 : mm_dec q35 48 = some (.if_icmp .eq 13) := by decide +kernel
theorem d35_51 : mm_dec q35 51 = some (.aload_n 0) := by decide +kernel
theorem d35_52 : mm_dec q35 52 = some (.getfield 9) := by decide +kernel
theorem d35_55 : mm_dec q35 55 = some (.getfield 27) := by decide +kernel
theorem d35_58 : mm_dec q35 58 = some (.iload_n 1) := by decide +kernel
theorem d35_59 : mm_dec q35 59 = some (.iaload) := by decide +kernel
theorem d35_60 : mm_dec q35 60 = some (.ireturn) := by decide +kernel
theorem d35_61 : mm_dec q35 61 = some (.iinc 1 1) := by decide +kernel
theorem d35_64 : mm_dec q35 64 = some (.goto (-59)) := by decide +kernel
theorem d35_67 : mm_dec q35 67 = some (.aload_n 0) := by decide +kernel
theorem d35_68 : mm_dec q35 68 = some (.aload_n 0) := by decide +kernel
theorem d35_69 : mm_dec q35 69 = some (.getfield 9) := by decide +kernel
theorem d35_72 : mm_dec q35 72 = some (.getfield 22) := by decide +kernel
theorem d35_75 : mm_dec q35 75 = some (.putfield 15) := by decide +kernel
theorem d35_78 : mm_dec q35 78 = some (.iconst (-1)) := by decide +kernel
theorem d35_79 : mm_dec q35 79 = some (.ireturn) := by decide +kernel
theorem d36_0 : mm_dec q36 0 = some (.aload_n 0) := by decide +kernel
theorem d36_1 : mm_dec q36 1 = some (.dup) := by decide +kernel
theorem d36_2 : mm_dec q36 2 = some (.getfield 15) := by decide +kernel
theorem d36_5 : mm_dec q36 5 = some (.iconst 1) := by decide +kernel
theorem d36_6 : mm_dec q36 6 = some (.iadd) := by decide +kernel
theorem d36_7 : mm_dec q36 7 = some (.putfield 15) := by decide +kernel
theorem d36_10 : mm_dec q36 10 = some (.return_) := by decide +kernel
theorem d37_0 : mm_dec q37 0 = some (.aload_n 0) := by decide +kernel
theorem d37_1 : mm_dec q37 1 = some (.invokevirtual 31) := by decide +kernel
theorem d37_4 : mm_dec q37 4 = some (.iload_n 1) := by decide +kernel
theorem d37_5 : mm_dec q37 5 = some (.if_icmp .eq 5) := by decide +kernel
theorem d37_8 : mm_dec q37 8 = some (.iconst 0) := by decide +kernel
theorem d37_9 : mm_dec q37 9 = some (.ireturn) := by decide +kernel
theorem d37_10 : mm_dec q37 10 = some (.aload_n 0) := by decide +kernel
theorem d37_11 : mm_dec q37 11 = some (.dup) := by decide +kernel
theorem d37_12 : mm_dec q37 12 = some (.getfield 15) := by decide +kernel
theorem d37_15 : mm_dec q37 15 = some (.iconst 1) := by decide +kernel
theorem d37_16 : mm_dec q37 16 = some (.iadd) := by decide +kernel
theorem d37_17 : mm_dec q37 17 = some (.putfield 15) := by decide +kernel
theorem d37_20 : mm_dec q37 20 = some (.iconst 1) := by decide +kernel
theorem d37_21 : mm_dec q37 21 = some (.ireturn) := by decide +kernel
theorem d38_0 : mm_dec q38 0 = some (.aload_n 0) := by decide +kernel
theorem d38_1 : mm_dec q38 1 = some (.invokevirtual 31) := by decide +kernel
theorem d38_4 : mm_dec q38 4 = some (.iload_n 1) := by decide +kernel
theorem d38_5 : mm_dec q38 5 = some (.if_icmp .eq 12) := by decide +kernel
theorem d38_8 : mm_dec q38 8 = some (.aload_n 0) := by decide +kernel
theorem d38_9 : mm_dec q38 9 = some (.aload_n 0) := by decide +kernel
theorem d38_10 : mm_dec q38 10 = some (.getfield 15) := by decide +kernel
theorem d38_13 : mm_dec q38 13 = some (.invokevirtual 35) := by decide +kernel
theorem d38_16 : mm_dec q38 16 = some (.ireturn) := by decide +kernel
theorem d38_17 : mm_dec q38 17 = some (.aload_n 0) := by decide +kernel
theorem d38_18 : mm_dec q38 18 = some (.dup) := by decide +kernel
theorem d38_19 : mm_dec q38 19 = some (.getfield 15) := by decide +kernel
theorem d38_22 : mm_dec q38 22 = some (.iconst 1) := by decide +kernel
theorem d38_23 : mm_dec q38 23 = some (.iadd) := by decide +kernel
theorem d38_24 : mm_dec q38 24 = some (.putfield 15) := by decide +kernel
theorem d38_27 : mm_dec q38 27 = some (.iconst 1) := by decide +kernel
theorem d38_28 : mm_dec q38 28 = some (.ireturn) := by decide +kernel
theorem d39_0 : mm_dec q39 0 = some (.aload_n 0) := by decide +kernel
theorem d39_1 : mm_dec q39 1 = some (.iload_n 1) := by decide +kernel
theorem d39_2 : mm_dec q39 2 = some (.putfield 19) := by decide +kernel
theorem d39_5 : mm_dec q39 5 = some (.iconst 0) := by decide +kernel
theorem d39_6 : mm_dec q39 6 = some (.ireturn) := by decide +kernel
theorem d40_0 : mm_dec q40 0 = some (.aload_n 0) := by decide +kernel
theorem d40_1 : mm_dec q40 1 = some (.getfield 15) := by decide +kernel
theorem d40_4 : mm_dec q40 4 = some (.ifCond .lt 32) := by decide +kernel
theorem d40_7 : mm_dec q40 7 = some (.aload_n 0) := by decide +kernel
theorem d40_8 : mm_dec q40 8 = some (.getfield 15) := by decide +kernel
theorem d40_11 : mm_dec q40 11 = some (.aload_n 0) := by decide +kernel
theorem d40_12 : mm_dec q40 12 = some (.getfield 9) := by decide +kernel
theorem d40_15 : mm_dec q40 15 = some (.getfield 22) := by decide +kernel
theorem d40_18 : mm_dec q40 18 = some (.if_icmp .ge 18) := by decide +kernel
theorem d40_21 : mm_dec q40 21 = some (.aload_n 0) := by decide +kernel
theorem d40_22 : mm_dec q40 22 = some (.getfield 15) := by decide +kernel
theorem d40_25 : mm_dec q40 25 = some (.aload_n 0) := by decide +kernel
theorem d40_26 : mm_dec q40 26 = some (.getfield 9) := by decide +kernel
theorem d40_29 : mm_dec q40 29 = some (.getfield 27) := by decide +kernel
theorem d40_32 : mm_dec q40 32 = some (.arraylength) := by decide +kernel
theorem d40_33 : mm_dec q40 33 = some (.if_icmp .lt 5) := by decide +kernel
theorem d40_36 : mm_dec q40 36 = some (.iconst (-1)) := by decide +kernel
theorem d40_37 : mm_dec q40 37 = some (.ireturn) := by decide +kernel
theorem d40_38 : mm_dec q40 38 = some (.aload_n 0) := by decide +kernel
theorem d40_39 : mm_dec q40 39 = some (.getfield 9) := by decide +kernel
theorem d40_42 : mm_dec q40 42 = some (.getfield 27) := by decide +kernel
theorem d40_45 : mm_dec q40 45 = some (.aload_n 0) := by decide +kernel
theorem d40_46 : mm_dec q40 46 = some (.getfield 15) := by decide +kernel
theorem d40_49 : mm_dec q40 49 = some (.iaload) := by decide +kernel
theorem d40_50 : mm_dec q40 50 = some (.bipush 48) := by decide +kernel
theorem d40_52 : mm_dec q40 52 = some (.isub) := by decide +kernel
theorem d40_53 : mm_dec q40 53 = some (.istore_n 1) := by decide +kernel
theorem d40_54 : mm_dec q40 54 = some (.iload_n 1) := by decide +kernel
theorem d40_55 : mm_dec q40 55 = some (.ifCond .lt 13) := by decide +kernel
theorem d40_58 : mm_dec q40 58 = some (.iload_n 1) := by decide +kernel
theorem d40_59 : mm_dec q40 59 = some (.bipush 9) := by decide +kernel
theorem d40_61 : mm_dec q40 61 = some (.if_icmp .gt 7) := by decide +kernel
theorem d40_64 : mm_dec q40 64 = some (.iload_n 1) := by decide +kernel
theorem d40_65 : mm_dec q40 65 = some (.goto 4) := by decide +kernel
theorem d40_68 : mm_dec q40 68 = some (.iconst (-1)) := by decide +kernel
theorem d40_69 : mm_dec q40 69 = some (.ireturn) := by decide +kernel
theorem d41_0 : mm_dec q41 0 = some (.aload_n 0) := by decide +kernel
theorem d41_1 : mm_dec q41 1 = some (.invokevirtual 31) := by decide +kernel
theorem d41_4 : mm_dec q41 4 = some (.pop) := by decide +kernel
theorem d41_5 : mm_dec q41 5 = some (.aload_n 0) := by decide +kernel
theorem d41_6 : mm_dec q41 6 = some (.invokevirtual 39) := by decide +kernel
theorem d41_9 : mm_dec q41 9 = some (.istore_n 2) := by decide +kernel
theorem d41_10 : mm_dec q41 10 = some (.iload_n 2) := by decide +kernel
theorem d41_11 : mm_dec q41 11 = some (.iconst (-1)) := by decide +kernel
theorem d41_12 : mm_dec q41 12 = some (.if_icmp .ne 14) := by decide +kernel
theorem d41_15 : mm_dec q41 15 = some (.aload_n 0) := by decide +kernel
theorem d41_16 : mm_dec q41 16 = some (.aload_n 0) := by decide +kernel
theorem d41_17 : mm_dec q41 17 = some (.getfield 15) := by decide +kernel
theorem d41_20 : mm_dec q41 20 = some (.invokevirtual 35) := by decide +kernel
theorem d41_23 : mm_dec q41 23 = some (.pop) := by decide +kernel
theorem d41_24 : mm_dec q41 24 = some (.iconst (-1)) := by decide +kernel
theorem d41_25 : mm_dec q41 25 = some (.ireturn) := by decide +kernel
theorem d41_26 : mm_dec q41 26 = some (.aload_n 0) := by decide +kernel
theorem d41_27 : mm_dec q41 27 = some (.dup) := by decide +kernel
theorem d41_28 : mm_dec q41 28 = some (.getfield 15) := by decide +kernel
theorem d41_31 : mm_dec q41 31 = some (.iconst 1) := by decide +kernel
theorem d41_32 : mm_dec q41 32 = some (.iadd) := by decide +kernel
theorem d41_33 : mm_dec q41 33 = some (.putfield 15) := by decide +kernel
theorem d41_36 : mm_dec q41 36 = some (.iconst 1) := by decide +kernel
theorem d41_37 : mm_dec q41 37 = some (.istore_n 3) := by decide +kernel
theorem d41_38 : mm_dec q41 38 = some (.iload_n 3) := by decide +kernel
theorem d41_39 : mm_dec q41 39 = some (.iload_n 1) := by decide +kernel
theorem d41_40 : mm_dec q41 40 = some (.if_icmp .ge 37) := by decide +kernel
theorem d41_43 : mm_dec q41 43 = some (.aload_n 0) := by decide +kernel
theorem d41_44 : mm_dec q41 44 = some (.invokevirtual 39) := by decide +kernel
theorem d41_47 : mm_dec q41 47 = some (.iconst (-1)) := by decide +kernel
theorem d41_48 : mm_dec q41 48 = some (.if_icmp .eq 29) := by decide +kernel
theorem d41_51 : mm_dec q41 51 = some (.iload_n 2) := by decide +kernel
theorem d41_52 : mm_dec q41 52 = some (.bipush 10) := by decide +kernel
theorem d41_54 : mm_dec q41 54 = some (.imul) := by decide +kernel
theorem d41_55 : mm_dec q41 55 = some (.aload_n 0) := by decide +kernel
theorem d41_56 : mm_dec q41 56 = some (.invokevirtual 39) := by decide +kernel
theorem d41_59 : mm_dec q41 59 = some (.iadd) := by decide +kernel
theorem d41_60 : mm_dec q41 60 = some (.istore_n 2) := by decide +kernel
theorem d41_61 : mm_dec q41 61 = some (.aload_n 0) := by decide +kernel
theorem d41_62 : mm_dec q41 62 = some (.dup) := by decide +kernel
theorem d41_63 : mm_dec q41 63 = some (.getfield 15) := by decide +kernel
theorem d41_66 : mm_dec q41 66 = some (.iconst 1) := by decide +kernel
theorem d41_67 : mm_dec q41 67 = some (.iadd) := by decide +kernel
theorem d41_68 : mm_dec q41 68 = some (.putfield 15) := by decide +kernel
theorem d41_71 : mm_dec q41 71 = some (.iinc 3 1) := by decide +kernel
theorem d41_74 : mm_dec q41 74 = some (.goto (-36)) := by decide +kernel
theorem d41_77 : mm_dec q41 77 = some (.aload_n 0) := by decide +kernel
theorem d41_78 : mm_dec q41 78 = some (.invokevirtual 39) := by decide +kernel
theorem d41_81 : mm_dec q41 81 = some (.iconst (-1)) := by decide +kernel
theorem d41_82 : mm_dec q41 82 = some (.if_icmp .eq 14) := by decide +kernel
theorem d41_85 : mm_dec q41 85 = some (.aload_n 0) := by decide +kernel
theorem d41_86 : mm_dec q41 86 = some (.aload_n 0) := by decide +kernel
theorem d41_87 : mm_dec q41 87 = some (.getfield 15) := by decide +kernel
theorem d41_90 : mm_dec q41 90 = some (.invokevirtual 35) := by decide +kernel
theorem d41_93 : mm_dec q41 93 = some (.pop) := by decide +kernel
theorem d41_94 : mm_dec q41 94 = some (.iconst (-1)) := by decide +kernel
theorem d41_95 : mm_dec q41 95 = some (.ireturn) := by decide +kernel
theorem d41_96 : mm_dec q41 96 = some (.iload_n 2) := by decide +kernel
theorem d41_97 : mm_dec q41 97 = some (.ireturn) := by decide +kernel
theorem d42_0 : mm_dec q42 0 = some (.aload_n 0) := by decide +kernel
theorem d42_1 : mm_dec q42 1 = some (.invokespecial 3) := by decide +kernel
theorem d42_4 : mm_dec q42 4 = some (.aload_n 0) := by decide +kernel
theorem d42_5 : mm_dec q42 5 = some (.sipush 160) := by decide +kernel
theorem d42_8 : mm_dec q42 8 = some (.newarray .int) := by decide +kernel
theorem d42_10 : mm_dec q42 10 = some (.putfield 9) := by decide +kernel
theorem d42_13 : mm_dec q42 13 = some (.return_) := by decide +kernel
theorem d43_0 : mm_dec q43 0 = some (.iconst 0) := by decide +kernel
theorem d43_1 : mm_dec q43 1 = some (.istore_n 1) := by decide +kernel
theorem d43_2 : mm_dec q43 2 = some (.bipush 24) := by decide +kernel
theorem d43_4 : mm_dec q43 4 = some (.istore_n 2) := by decide +kernel
theorem d43_5 : mm_dec q43 5 = some (.iload_n 2) := by decide +kernel
theorem d43_6 : mm_dec q43 6 = some (.ifCond .lt 27) := by decide +kernel
theorem d43_9 : mm_dec q43 9 = some (.iload_n 1) := by decide +kernel
theorem d43_10 : mm_dec q43 10 = some (.iload_n 0) := by decide +kernel
theorem d43_11 : mm_dec q43 11 = some (.iload_n 2) := by decide +kernel
theorem d43_12 : mm_dec q43 12 = some (.iushr) := by decide +kernel
theorem d43_13 : mm_dec q43 13 = some (.sipush 255) := by decide +kernel
theorem d43_16 : mm_dec q43 16 = some (.iand) := by decide +kernel
theorem d43_17 : mm_dec q43 17 = some (.ifCond .eq 7) := by decide +kernel
theorem d43_20 : mm_dec q43 20 = some (.iconst 1) := by decide +kernel
theorem d43_21 : mm_dec q43 21 = some (.goto 4) := by decide +kernel
theorem d43_24 : mm_dec q43 24 = some (.iconst 0) := by decide +kernel
theorem d43_25 : mm_dec q43 25 = some (.iadd) := by decide +kernel
theorem d43_26 : mm_dec q43 26 = some (.istore_n 1) := by decide +kernel
theorem d43_27 : mm_dec q43 27 = some (.iinc 2 (-8)) := by decide +kernel
theorem d43_30 : mm_dec q43 30 = some (.goto (-25)) := by decide +kernel
theorem d43_33 : mm_dec q43 33 = some (.iload_n 1) := by decide +kernel
theorem d43_34 : mm_dec q43 34 = some (.ireturn) := by decide +kernel
theorem d44_0 : mm_dec q44 0 = some (.bipush 24) := by decide +kernel
theorem d44_2 : mm_dec q44 2 = some (.istore_n 2) := by decide +kernel
theorem d44_3 : mm_dec q44 3 = some (.iload_n 2) := by decide +kernel
theorem d44_4 : mm_dec q44 4 = some (.ifCond .lt 60) := by decide +kernel
theorem d44_7 : mm_dec q44 7 = some (.iload_n 1) := by decide +kernel
theorem d44_8 : mm_dec q44 8 = some (.iload_n 2) := by decide +kernel
theorem d44_9 : mm_dec q44 9 = some (.iushr) := by decide +kernel
theorem d44_10 : mm_dec q44 10 = some (.sipush 255) := by decide +kernel
theorem d44_13 : mm_dec q44 13 = some (.iand) := by decide +kernel
theorem d44_14 : mm_dec q44 14 = some (.istore_n 3) := by decide +kernel
theorem d44_15 : mm_dec q44 15 = some (.iload_n 3) := by decide +kernel
theorem d44_16 : mm_dec q44 16 = some (.ifCond .eq 42) := by decide +kernel
theorem d44_19 : mm_dec q44 19 = some (.aload_n 0) := by decide +kernel
theorem d44_20 : mm_dec q44 20 = some (.getfield 15) := by decide +kernel
theorem d44_23 : mm_dec q44 23 = some (.ifCond .lt 35) := by decide +kernel
theorem d44_26 : mm_dec q44 26 = some (.aload_n 0) := by decide +kernel
theorem d44_27 : mm_dec q44 27 = some (.getfield 15) := by decide +kernel
theorem d44_30 : mm_dec q44 30 = some (.aload_n 0) := by decide +kernel
theorem d44_31 : mm_dec q44 31 = some (.getfield 9) := by decide +kernel
theorem d44_34 : mm_dec q44 34 = some (.arraylength) := by decide +kernel
theorem d44_35 : mm_dec q44 35 = some (.if_icmp .ge 23) := by decide +kernel
theorem d44_38 : mm_dec q44 38 = some (.aload_n 0) := by decide +kernel
theorem d44_39 : mm_dec q44 39 = some (.getfield 9) := by decide +kernel
theorem d44_42 : mm_dec q44 42 = some (.aload_n 0) := by decide +kernel
theorem d44_43 : mm_dec q44 43 = some (.getfield 15) := by decide +kernel
theorem d44_46 : mm_dec q44 46 = some (.iload_n 3) := by decide +kernel
theorem d44_47 : mm_dec q44 47 = some (.iastore) := by decide +kernel
theorem d44_48 : mm_dec q44 48 = some (.aload_n 0) := by decide +kernel
theorem d44_49 : mm_dec q44 49 = some (.dup) := by decide +kernel
theorem d44_50 : mm_dec q44 50 = some (.getfield 15) := by decide +kernel
theorem d44_53 : mm_dec q44 53 = some (.iconst 1) := by decide +kernel
theorem d44_54 : mm_dec q44 54 = some (.iadd) := by decide +kernel
theorem d44_55 : mm_dec q44 55 = some (.putfield 15) := by decide +kernel
theorem d44_58 : mm_dec q44 58 = some (.iinc 2 (-8)) := by decide +kernel
theorem d44_61 : mm_dec q44 61 = some (.goto (-58)) := by decide +kernel
theorem d44_64 : mm_dec q44 64 = some (.return_) := by decide +kernel
theorem d45_0 : mm_dec q45 0 = some (.aload_n 0) := by decide +kernel
theorem d45_1 : mm_dec q45 1 = some (.invokespecial 3) := by decide +kernel
theorem d45_4 : mm_dec q45 4 = some (.aload_n 0) := by decide +kernel
theorem d45_5 : mm_dec q45 5 = some (.iconst 2) := by decide +kernel
theorem d45_6 : mm_dec q45 6 = some (.newarray .int) := by decide +kernel
theorem d45_8 : mm_dec q45 8 = some (.putfield 9) := by decide +kernel
theorem d45_11 : mm_dec q45 11 = some (.aload_n 0) := by decide +kernel
theorem d45_12 : mm_dec q45 12 = some (.iconst 2) := by decide +kernel
theorem d45_13 : mm_dec q45 13 = some (.newarray .int) := by decide +kernel
theorem d45_15 : mm_dec q45 15 = some (.putfield 15) := by decide +kernel
theorem d45_18 : mm_dec q45 18 = some (.return_) := by decide +kernel
theorem d46_0 : mm_dec q46 0 = some (.aload_n 0) := by decide +kernel
theorem d46_1 : mm_dec q46 1 = some (.iconst 0) := by decide +kernel
theorem d46_2 : mm_dec q46 2 = some (.putfield 18) := by decide +kernel
theorem d46_5 : mm_dec q46 5 = some (.iconst 0) := by decide +kernel
theorem d46_6 : mm_dec q46 6 = some (.istore_n 1) := by decide +kernel
theorem d46_7 : mm_dec q46 7 = some (.iload_n 1) := by decide +kernel
theorem d46_8 : mm_dec q46 8 = some (.iconst 2) := by decide +kernel
theorem d46_9 : mm_dec q46 9 = some (.if_icmp .ge 23) := by decide +kernel
theorem d46_12 : mm_dec q46 12 = some (.aload_n 0) := by decide +kernel
theorem d46_13 : mm_dec q46 13 = some (.getfield 9) := by decide +kernel
theorem d46_16 : mm_dec q46 16 = some (.iload_n 1) := by decide +kernel
theorem d46_17 : mm_dec q46 17 = some (.iconst 0) := by decide +kernel
theorem d46_18 : mm_dec q46 18 = some (.iastore) := by decide +kernel
theorem d46_19 : mm_dec q46 19 = some (.aload_n 0) := by decide +kernel
theorem d46_20 : mm_dec q46 20 = some (.getfield 15) := by decide +kernel
theorem d46_23 : mm_dec q46 23 = some (.iload_n 1) := by decide +kernel
theorem d46_24 : mm_dec q46 24 = some (.iconst 0) := by decide +kernel
theorem d46_25 : mm_dec q46 25 = some (.iastore) := by decide +kernel
theorem d46_26 : mm_dec q46 26 = some (.iinc 1 1) := by decide +kernel
theorem d46_29 : mm_dec q46 29 = some (.goto (-22)) := by decide +kernel
theorem d46_32 : mm_dec q46 32 = some (.return_) := by decide +kernel
theorem d47_0 : mm_dec q47 0 = some (.aload_n 0) := by decide +kernel
theorem d47_1 : mm_dec q47 1 = some (.aload_n 1) := by decide +kernel
theorem d47_2 : mm_dec q47 2 = some (.getfield 18) := by decide +kernel
theorem d47_5 : mm_dec q47 5 = some (.putfield 18) := by decide +kernel
theorem d47_8 : mm_dec q47 8 = some (.iconst 0) := by decide +kernel
theorem d47_9 : mm_dec q47 9 = some (.istore_n 2) := by decide +kernel
theorem d47_10 : mm_dec q47 10 = some (.iload_n 2) := by decide +kernel
theorem d47_11 : mm_dec q47 11 = some (.iconst 2) := by decide +kernel
theorem d47_12 : mm_dec q47 12 = some (.if_icmp .ge 33) := by decide +kernel
theorem d47_15 : mm_dec q47 15 = some (.aload_n 0) := by decide +kernel
theorem d47_16 : mm_dec q47 16 = some (.getfield 9) := by decide +kernel
theorem d47_19 : mm_dec q47 19 = some (.iload_n 2) := by decide +kernel
theorem d47_20 : mm_dec q47 20 = some (.aload_n 1) := by decide +kernel
theorem d47_21 : mm_dec q47 21 = some (.getfield 9) := by decide +kernel
theorem d47_24 : mm_dec q47 24 = some (.iload_n 2) := by decide +kernel
theorem d47_25 : mm_dec q47 25 = some (.iaload) := by decide +kernel
theorem d47_26 : mm_dec q47 26 = some (.iastore) := by decide +kernel
theorem d47_27 : mm_dec q47 27 = some (.aload_n 0) := by decide +kernel
theorem d47_28 : mm_dec q47 28 = some (.getfield 15) := by decide +kernel
theorem d47_31 : mm_dec q47 31 = some (.iload_n 2) := by decide +kernel
theorem d47_32 : mm_dec q47 32 = some (.aload_n 1) := by decide +kernel
theorem d47_33 : mm_dec q47 33 = some (.getfield 15) := by decide +kernel
theorem d47_36 : mm_dec q47 36 = some (.iload_n 2) := by decide +kernel
theorem d47_37 : mm_dec q47 37 = some (.iaload) := by decide +kernel
theorem d47_38 : mm_dec q47 38 = some (.iastore) := by decide +kernel
theorem d47_39 : mm_dec q47 39 = some (.iinc 2 1) := by decide +kernel
theorem d47_42 : mm_dec q47 42 = some (.goto (-32)) := by decide +kernel
theorem d47_45 : mm_dec q47 45 = some (.aload_n 0) := by decide +kernel
theorem d47_46 : mm_dec q47 46 = some (.aload_n 1) := by decide +kernel
theorem d47_47 : mm_dec q47 47 = some (.getfield 22) := by decide +kernel
theorem d47_50 : mm_dec q47 50 = some (.putfield 22) := by decide +kernel
theorem d47_53 : mm_dec q47 53 = some (.return_) := by decide +kernel
theorem d48_0 : mm_dec q48 0 = some (.aload_n 0) := by decide +kernel
theorem d48_1 : mm_dec q48 1 = some (.aload_n 0) := by decide +kernel
theorem d48_2 : mm_dec q48 2 = some (.getfield 22) := by decide +kernel
theorem d48_5 : mm_dec q48 5 = some (.ldc2_w 26) := by decide +kernel
theorem d48_8 : mm_dec q48 8 = some (.lmul) := by decide +kernel
theorem d48_9 : mm_dec q48 9 = some (.ldc2_w 28) := by decide +kernel
theorem d48_12 : mm_dec q48 12 = some (.ladd) := by decide +kernel
theorem d48_13 : mm_dec q48 13 = some (.putfield 22) := by decide +kernel
theorem d48_16 : mm_dec q48 16 = some (.aload_n 0) := by decide +kernel
theorem d48_17 : mm_dec q48 17 = some (.getfield 22) := by decide +kernel
theorem d48_20 : mm_dec q48 20 = some (.bipush 33) := by decide +kernel
theorem d48_22 : mm_dec q48 22 = some (.lushr) := by decide +kernel
theorem d48_23 : mm_dec q48 23 = some (.ldc2_w 30) := by decide +kernel
theorem d48_26 : mm_dec q48 26 = some (.lrem) := by decide +kernel
theorem d48_27 : mm_dec q48 27 = some (.l2i) := by decide +kernel
theorem d48_28 : mm_dec q48 28 = some (.ireturn) := by decide +kernel
theorem d49_0 : mm_dec q49 0 = some (.iconst 0) := by decide +kernel
theorem d49_1 : mm_dec q49 1 = some (.istore_n 3) := by decide +kernel
theorem d49_2 : mm_dec q49 2 = some (.iconst 0) := by decide +kernel
theorem d49_3 : mm_dec q49 3 = some (.istore 4) := by decide +kernel
theorem d49_5 : mm_dec q49 5 = some (.iload 4) := by decide +kernel
theorem d49_7 : mm_dec q49 7 = some (.aload_n 1) := by decide +kernel
theorem d49_8 : mm_dec q49 8 = some (.getfield 32) := by decide +kernel
theorem d49_11 : mm_dec q49 11 = some (.if_icmp .ge 81) := by decide +kernel
theorem d49_14 : mm_dec q49 14 = some (.iload 4) := by decide +kernel
theorem d49_16 : mm_dec q49 16 = some (.iconst 2) := by decide +kernel
theorem d49_17 : mm_dec q49 17 = some (.if_icmp .ge 75) := by decide +kernel
theorem d49_20 : mm_dec q49 20 = some (.aload_n 0) := by decide +kernel
theorem d49_21 : mm_dec q49 21 = some (.getfield 9) := by decide +kernel
theorem d49_24 : mm_dec q49 24 = some (.iload 4) := by decide +kernel
theorem d49_26 : mm_dec q49 26 = some (.iaload) := by decide +kernel
theorem d49_27 : mm_dec q49 27 = some (.aload_n 1) := by decide +kernel
theorem d49_28 : mm_dec q49 28 = some (.iload 4) := by decide +kernel
theorem d49_30 : mm_dec q49 30 = some (.aload_n 0) := by decide +kernel
theorem d49_31 : mm_dec q49 31 = some (.getfield 18) := by decide +kernel
theorem d49_34 : mm_dec q49 34 = some (.invokevirtual 37) := by decide +kernel
theorem d49_37 : mm_dec q49 37 = some (.iadd) := by decide +kernel
theorem d49_38 : mm_dec q49 38 = some (.istore 5) := by decide +kernel
theorem d49_40 : mm_dec q49 40 = some (.aload_n 0) := by decide +kernel
theorem d49_41 : mm_dec q49 41 = some (.getfield 9) := by decide +kernel
theorem d49_44 : mm_dec q49 44 = some (.iload 4) := by decide +kernel
theorem d49_46 : mm_dec q49 46 = some (.aload_n 1) := by decide +kernel
theorem d49_47 : mm_dec q49 47 = some (.iload 4) := by decide +kernel
theorem d49_49 : mm_dec q49 49 = some (.iload 5) := by decide +kernel
theorem d49_51 : mm_dec q49 51 = some (.iload_n 2) := by decide +kernel
theorem d49_52 : mm_dec q49 52 = some (.invokevirtual 41) := by decide +kernel
theorem d49_55 : mm_dec q49 55 = some (.iastore) := by decide +kernel
theorem d49_56 : mm_dec q49 56 = some (.aload_n 0) := by decide +kernel
theorem d49_57 : mm_dec q49 57 = some (.getfield 9) := by decide +kernel
theorem d49_60 : mm_dec q49 60 = some (.iload 4) := by decide +kernel
theorem d49_62 : mm_dec q49 62 = some (.iaload) := by decide +kernel
theorem d49_63 : mm_dec q49 63 = some (.iload 5) := by decide +kernel
theorem d49_65 : mm_dec q49 65 = some (.if_icmp .ge 21) := by decide +kernel
theorem d49_68 : mm_dec q49 68 = some (.aload_n 0) := by decide +kernel
theorem d49_69 : mm_dec q49 69 = some (.getfield 15) := by decide +kernel
theorem d49_72 : mm_dec q49 72 = some (.iload 4) := by decide +kernel
theorem d49_74 : mm_dec q49 74 = some (.dup2) := by decide +kernel
theorem d49_75 : mm_dec q49 75 = some (.iaload) := by decide +kernel
theorem d49_76 : mm_dec q49 76 = some (.iconst 1) := by decide +kernel
theorem d49_77 : mm_dec q49 77 = some (.iadd) := by decide +kernel
theorem d49_78 : mm_dec q49 78 = some (.iastore) := by decide +kernel
theorem d49_79 : mm_dec q49 79 = some (.iload_n 3) := by decide +kernel
theorem d49_80 : mm_dec q49 80 = some (.iconst 1) := by decide +kernel
theorem d49_81 : mm_dec q49 81 = some (.iload 4) := by decide +kernel
theorem d49_83 : mm_dec q49 83 = some (.ishl) := by decide +kernel
theorem d49_84 : mm_dec q49 84 = some (.ior) := by decide +kernel
theorem d49_85 : mm_dec q49 85 = some (.istore_n 3) := by decide +kernel
theorem d49_86 : mm_dec q49 86 = some (.iinc 4 1) := by decide +kernel
theorem d49_89 : mm_dec q49 89 = some (.goto (-84)) := by decide +kernel
theorem d49_92 : mm_dec q49 92 = some (.aload_n 0) := by decide +kernel
theorem d49_93 : mm_dec q49 93 = some (.dup) := by decide +kernel
theorem d49_94 : mm_dec q49 94 = some (.getfield 18) := by decide +kernel
theorem d49_97 : mm_dec q49 97 = some (.iconst 1) := by decide +kernel
theorem d49_98 : mm_dec q49 98 = some (.iadd) := by decide +kernel
theorem d49_99 : mm_dec q49 99 = some (.putfield 18) := by decide +kernel
theorem d49_102 : mm_dec q49 102 = some (.iload_n 3) := by decide +kernel
theorem d49_103 : mm_dec q49 103 = some (.ireturn) := by decide +kernel
theorem d50_0 : mm_dec q50 0 = some (.aload_n 0) := by decide +kernel
theorem d50_1 : mm_dec q50 1 = some (.invokespecial 3) := by decide +kernel
theorem d50_4 : mm_dec q50 4 = some (.aload_n 0) := by decide +kernel
theorem d50_5 : mm_dec q50 5 = some (.bipush 6) := by decide +kernel
theorem d50_7 : mm_dec q50 7 = some (.iconst 4) := by decide +kernel
theorem d50_8 : mm_dec q50 8 = some (.multianewarray 9 2) := by decide +kernel
theorem d50_12 : mm_dec q50 12 = some (.putfield 11) := by decide +kernel
theorem d50_15 : mm_dec q50 15 = some (.aload_n 0) := by decide +kernel
theorem d50_16 : mm_dec q50 16 = some (.bipush 6) := by decide +kernel
theorem d50_18 : mm_dec q50 18 = some (.anewarray 16) := by decide +kernel
theorem d50_21 : mm_dec q50 21 = some (.putfield 18) := by decide +kernel
theorem d50_24 : mm_dec q50 24 = some (.aload_n 0) := by decide +kernel
theorem d50_25 : mm_dec q50 25 = some (.iconst 2) := by decide +kernel
theorem d50_26 : mm_dec q50 26 = some (.iconst 3) := by decide +kernel
theorem d50_27 : mm_dec q50 27 = some (.multianewarray 9 2) := by decide +kernel
theorem d50_31 : mm_dec q50 31 = some (.putfield 22) := by decide +kernel
theorem d50_34 : mm_dec q50 34 = some (.aload_n 0) := by decide +kernel
theorem d50_35 : mm_dec q50 35 = some (.iconst 4) := by decide +kernel
theorem d50_36 : mm_dec q50 36 = some (.newarray .int) := by decide +kernel
theorem d50_38 : mm_dec q50 38 = some (.putfield 25) := by decide +kernel
theorem d50_41 : mm_dec q50 41 = some (.aload_n 0) := by decide +kernel
theorem d50_42 : mm_dec q50 42 = some (.bipush 6) := by decide +kernel
theorem d50_44 : mm_dec q50 44 = some (.newarray .int) := by decide +kernel
theorem d50_46 : mm_dec q50 46 = some (.putfield 29) := by decide +kernel
theorem d50_49 : mm_dec q50 49 = some (.return_) := by decide +kernel
theorem d51_0 : mm_dec q51 0 = some (.iconst 0) := by decide +kernel
theorem d51_1 : mm_dec q51 1 = some (.istore_n 1) := by decide +kernel
theorem d51_2 : mm_dec q51 2 = some (.iload_n 1) := by decide +kernel
theorem d51_3 : mm_dec q51 3 = some (.aload_n 0) := by decide +kernel
theorem d51_4 : mm_dec q51 4 = some (.getfield 18) := by decide +kernel
theorem d51_7 : mm_dec q51 7 = some (.arraylength) := by decide +kernel
theorem d51_8 : mm_dec q51 8 = some (.if_icmp .ge 16) := by decide +kernel
theorem d51_11 : mm_dec q51 11 = some (.aload_n 0) := by decide +kernel
theorem d51_12 : mm_dec q51 12 = some (.getfield 18) := by decide +kernel
theorem d51_15 : mm_dec q51 15 = some (.iload_n 1) := by decide +kernel
theorem d51_16 : mm_dec q51 16 = some (.aconst_null) := by decide +kernel
theorem d51_17 : mm_dec q51 17 = some (.aastore) := by decide +kernel
theorem d51_18 : mm_dec q51 18 = some (.iinc 1 1) := by decide +kernel
theorem d51_21 : mm_dec q51 21 = some (.goto (-19)) := by decide +kernel
theorem d51_24 : mm_dec q51 24 = some (.aload_n 0) := by decide +kernel
theorem d51_25 : mm_dec q51 25 = some (.iconst 0) := by decide +kernel
theorem d51_26 : mm_dec q51 26 = some (.putfield 32) := by decide +kernel
theorem d51_29 : mm_dec q51 29 = some (.aload_n 0) := by decide +kernel
theorem d51_30 : mm_dec q51 30 = some (.iconst 0) := by decide +kernel
theorem d51_31 : mm_dec q51 31 = some (.putfield 36) := by decide +kernel
theorem d51_34 : mm_dec q51 34 = some (.aload_n 0) := by decide +kernel
theorem d51_35 : mm_dec q51 35 = some (.iconst 0) := by decide +kernel
theorem d51_36 : mm_dec q51 36 = some (.putfield 39) := by decide +kernel
theorem d51_39 : mm_dec q51 39 = some (.return_) := by decide +kernel
theorem d52_0 : mm_dec q52 0 = some (.aload_n 0) := by decide +kernel
theorem d52_1 : mm_dec q52 1 = some (.invokevirtual 43) := by decide +kernel
theorem d52_4 : mm_dec q52 4 = some (.iconst 0) := by decide +kernel
theorem d52_5 : mm_dec q52 5 = some (.istore_n 2) := by decide +kernel
theorem d52_6 : mm_dec q52 6 = some (.iload_n 2) := by decide +kernel
theorem d52_7 : mm_dec q52 7 = some (.aload_n 1) := by decide +kernel
theorem d52_8 : mm_dec q52 8 = some (.getfield 32) := by decide +kernel
theorem d52_11 : mm_dec q52 11 = some (.if_icmp .ge 28) := by decide +kernel
theorem d52_14 : mm_dec q52 14 = some (.iload_n 2) := by decide +kernel
theorem d52_15 : mm_dec q52 15 = some (.bipush 6) := by decide +kernel
theorem d52_17 : mm_dec q52 17 = some (.if_icmp .ge 22) := by decide +kernel
theorem d52_20 : mm_dec q52 20 = some (.aload_n 1) := by decide +kernel
theorem d52_21 : mm_dec q52 21 = some (.getfield 11) := by decide +kernel
theorem d52_24 : mm_dec q52 24 = some (.iload_n 2) := by decide +kernel
theorem d52_25 : mm_dec q52 25 = some (.aaload) := by decide +kernel
theorem d52_26 : mm_dec q52 26 = some (.aload_n 0) := by decide +kernel
theorem d52_27 : mm_dec q52 27 = some (.invokevirtual 46) := by decide +kernel
theorem d52_30 : mm_dec q52 30 = some (.invokestatic 50) := by decide +kernel
theorem d52_33 : mm_dec q52 33 = some (.iinc 2 1) := by decide +kernel
theorem d52_36 : mm_dec q52 36 = some (.goto (-30)) := by decide +kernel
theorem d52_39 : mm_dec q52 39 = some (.iconst 0) := by decide +kernel
theorem d52_40 : mm_dec q52 40 = some (.istore_n 2) := by decide +kernel
theorem d52_41 : mm_dec q52 41 = some (.iload_n 2) := by decide +kernel
theorem d52_42 : mm_dec q52 42 = some (.aload_n 1) := by decide +kernel
theorem d52_43 : mm_dec q52 43 = some (.getfield 36) := by decide +kernel
theorem d52_46 : mm_dec q52 46 = some (.if_icmp .ge 27) := by decide +kernel
theorem d52_49 : mm_dec q52 49 = some (.iload_n 2) := by decide +kernel
theorem d52_50 : mm_dec q52 50 = some (.iconst 2) := by decide +kernel
theorem d52_51 : mm_dec q52 51 = some (.if_icmp .ge 22) := by decide +kernel
theorem d52_54 : mm_dec q52 54 = some (.aload_n 1) := by decide +kernel
theorem d52_55 : mm_dec q52 55 = some (.getfield 22) := by decide +kernel
theorem d52_58 : mm_dec q52 58 = some (.iload_n 2) := by decide +kernel
theorem d52_59 : mm_dec q52 59 = some (.aaload) := by decide +kernel
theorem d52_60 : mm_dec q52 60 = some (.aload_n 0) := by decide +kernel
theorem d52_61 : mm_dec q52 61 = some (.invokevirtual 54) := by decide +kernel
theorem d52_64 : mm_dec q52 64 = some (.invokestatic 50) := by decide +kernel
theorem d52_67 : mm_dec q52 67 = some (.iinc 2 1) := by decide +kernel
theorem d52_70 : mm_dec q52 70 = some (.goto (-29)) := by decide +kernel
theorem d52_73 : mm_dec q52 73 = some (.aload_n 1) := by decide +kernel
theorem d52_74 : mm_dec q52 74 = some (.getfield 39) := by decide +kernel
theorem d52_77 : mm_dec q52 77 = some (.ifCond .eq 14) := by decide +kernel
theorem d52_80 : mm_dec q52 80 = some (.aload_n 1) := by decide +kernel
theorem d52_81 : mm_dec q52 81 = some (.getfield 25) := by decide +kernel
theorem d52_84 : mm_dec q52 84 = some (.aload_n 0) := by decide +kernel
theorem d52_85 : mm_dec q52 85 = some (.invokevirtual 57) := by decide +kernel
theorem d52_88 : mm_dec q52 88 = some (.invokestatic 50) := by decide +kernel
theorem d52_91 : mm_dec q52 91 = some (.return_) := by decide +kernel
theorem d53_0 : mm_dec q53 0 = some (.iconst 0) := by decide +kernel
theorem d53_1 : mm_dec q53 1 = some (.istore_n 2) := by decide +kernel
theorem d53_2 : mm_dec q53 2 = some (.aload_n 1) := by decide +kernel
theorem d53_3 : mm_dec q53 3 = some (.ifnull 27) := by decide +kernel
theorem d53_6 : mm_dec q53 6 = some (.iload_n 2) := by decide +kernel
theorem d53_7 : mm_dec q53 7 = some (.aload_n 0) := by decide +kernel
theorem d53_8 : mm_dec q53 8 = some (.arraylength) := by decide +kernel
theorem d53_9 : mm_dec q53 9 = some (.if_icmp .ge 21) := by decide +kernel
theorem d53_12 : mm_dec q53 12 = some (.iload_n 2) := by decide +kernel
theorem d53_13 : mm_dec q53 13 = some (.aload_n 1) := by decide +kernel
theorem d53_14 : mm_dec q53 14 = some (.arraylength) := by decide +kernel
theorem d53_15 : mm_dec q53 15 = some (.if_icmp .ge 15) := by decide +kernel
theorem d53_18 : mm_dec q53 18 = some (.aload_n 1) := by decide +kernel
theorem d53_19 : mm_dec q53 19 = some (.iload_n 2) := by decide +kernel
theorem d53_20 : mm_dec q53 20 = some (.aload_n 0) := by decide +kernel
theorem d53_21 : mm_dec q53 21 = some (.iload_n 2) := by decide +kernel
theorem d53_22 : mm_dec q53 22 = some (.iaload) := by decide +kernel
theorem d53_23 : mm_dec q53 23 = some (.iastore) := by decide +kernel
theorem d53_24 : mm_dec q53 24 = some (.iinc 2 1) := by decide +kernel
theorem d53_27 : mm_dec q53 27 = some (.goto (-25)) := by decide +kernel
theorem d53_30 : mm_dec q53 30 = some (.return_) := by decide +kernel
theorem d54_0 : mm_dec q54 0 = some (.aload_n 0) := by decide +kernel
theorem d54_1 : mm_dec q54 1 = some (.getfield 32) := by decide +kernel
theorem d54_4 : mm_dec q54 4 = some (.ifCond .lt 15) := by decide +kernel
theorem d54_7 : mm_dec q54 7 = some (.aload_n 0) := by decide +kernel
theorem d54_8 : mm_dec q54 8 = some (.getfield 32) := by decide +kernel
theorem d54_11 : mm_dec q54 11 = some (.aload_n 0) := by decide +kernel
theorem d54_12 : mm_dec q54 12 = some (.getfield 11) := by decide +kernel
theorem d54_15 : mm_dec q54 15 = some (.arraylength) := by decide +kernel
theorem d54_16 : mm_dec q54 16 = some (.if_icmp .lt 5) := by decide +kernel
theorem d54_19 : mm_dec q54 19 = some (.aconst_null) := by decide +kernel
theorem d54_20 : mm_dec q54 20 = some (.areturn) := by decide +kernel
theorem d54_21 : mm_dec q54 21 = some (.aload_n 0) := by decide +kernel
theorem d54_22 : mm_dec q54 22 = some (.dup) := by decide +kernel
theorem d54_23 : mm_dec q54 23 = some (.getfield 32) := by decide +kernel
theorem d54_26 : mm_dec q54 26 = some (.iconst 1) := by decide +kernel
theorem d54_27 : mm_dec q54 27 = some (.iadd) := by decide +kernel
theorem d54_28 : mm_dec q54 28 = some (.putfield 32) := by decide +kernel
theorem d54_31 : mm_dec q54 31 = some (.aload_n 0) := by decide +kernel
theorem d54_32 : mm_dec q54 32 = some (.getfield 11) := by decide +kernel
theorem d54_35 : mm_dec q54 35 = some (.aload_n 0) := by decide +kernel
theorem d54_36 : mm_dec q54 36 = some (.getfield 32) := by decide +kernel
theorem d54_39 : mm_dec q54 39 = some (.iconst 1) := by decide +kernel
theorem d54_40 : mm_dec q54 40 = some (.isub) := by decide +kernel
theorem d54_41 : mm_dec q54 41 = some (.aaload) := by decide +kernel
theorem d54_42 : mm_dec q54 42 = some (.getstatic 60) := by decide +kernel
theorem d54_45 : mm_dec q54 45 = some (.invokestatic 63) := by decide +kernel
theorem d54_48 : mm_dec q54 48 = some (.areturn) := by decide +kernel
theorem d55_0 : mm_dec q55 0 = some (.aload_n 0) := by decide +kernel
theorem d55_1 : mm_dec q55 1 = some (.getfield 36) := by decide +kernel
theorem d55_4 : mm_dec q55 4 = some (.ifCond .lt 15) := by decide +kernel
theorem d55_7 : mm_dec q55 7 = some (.aload_n 0) := by decide +kernel
theorem d55_8 : mm_dec q55 8 = some (.getfield 36) := by decide +kernel
theorem d55_11 : mm_dec q55 11 = some (.aload_n 0) := by decide +kernel
theorem d55_12 : mm_dec q55 12 = some (.getfield 22) := by decide +kernel
theorem d55_15 : mm_dec q55 15 = some (.arraylength) := by decide +kernel
theorem d55_16 : mm_dec q55 16 = some (.if_icmp .lt 5) := by decide +kernel
theorem d55_19 : mm_dec q55 19 = some (.aconst_null) := by decide +kernel
theorem d55_20 : mm_dec q55 20 = some (.areturn) := by decide +kernel
theorem d55_21 : mm_dec q55 21 = some (.aload_n 0) := by decide +kernel
theorem d55_22 : mm_dec q55 22 = some (.dup) := by decide +kernel
theorem d55_23 : mm_dec q55 23 = some (.getfield 36) := by decide +kernel
theorem d55_26 : mm_dec q55 26 = some (.iconst 1) := by decide +kernel
theorem d55_27 : mm_dec q55 27 = some (.iadd) := by decide +kernel
theorem d55_28 : mm_dec q55 28 = some (.putfield 36) := by decide +kernel
theorem d55_31 : mm_dec q55 31 = some (.aload_n 0) := by decide +kernel
theorem d55_32 : mm_dec q55 32 = some (.getfield 22) := by decide +kernel
theorem d55_35 : mm_dec q55 35 = some (.aload_n 0) := by decide +kernel
theorem d55_36 : mm_dec q55 36 = some (.getfield 36) := by decide +kernel
theorem d55_39 : mm_dec q55 39 = some (.iconst 1) := by decide +kernel
theorem d55_40 : mm_dec q55 40 = some (.isub) := by decide +kernel
theorem d55_41 : mm_dec q55 41 = some (.aaload) := by decide +kernel
theorem d55_42 : mm_dec q55 42 = some (.getstatic 67) := by decide +kernel
theorem d55_45 : mm_dec q55 45 = some (.invokestatic 63) := by decide +kernel
theorem d55_48 : mm_dec q55 48 = some (.areturn) := by decide +kernel
theorem d56_0 : mm_dec q56 0 = some (.aload_n 0) := by decide +kernel
theorem d56_1 : mm_dec q56 1 = some (.getfield 39) := by decide +kernel
theorem d56_4 : mm_dec q56 4 = some (.ifCond .eq 5) := by decide +kernel
theorem d56_7 : mm_dec q56 7 = some (.aconst_null) := by decide +kernel
theorem d56_8 : mm_dec q56 8 = some (.areturn) := by decide +kernel
theorem d56_9 : mm_dec q56 9 = some (.aload_n 0) := by decide +kernel
theorem d56_10 : mm_dec q56 10 = some (.iconst 1) := by decide +kernel
theorem d56_11 : mm_dec q56 11 = some (.putfield 39) := by decide +kernel
theorem d56_14 : mm_dec q56 14 = some (.aload_n 0) := by decide +kernel
theorem d56_15 : mm_dec q56 15 = some (.getfield 25) := by decide +kernel
theorem d56_18 : mm_dec q56 18 = some (.getstatic 70) := by decide +kernel
theorem d56_21 : mm_dec q56 21 = some (.invokestatic 63) := by decide +kernel
theorem d56_24 : mm_dec q56 24 = some (.areturn) := by decide +kernel
theorem d57_0 : mm_dec q57 0 = some (.iconst 0) := by decide +kernel
theorem d57_1 : mm_dec q57 1 = some (.istore_n 2) := by decide +kernel
theorem d57_2 : mm_dec q57 2 = some (.iload_n 2) := by decide +kernel
theorem d57_3 : mm_dec q57 3 = some (.aload_n 0) := by decide +kernel
theorem d57_4 : mm_dec q57 4 = some (.arraylength) := by decide +kernel
theorem d57_5 : mm_dec q57 5 = some (.if_icmp .ge 29) := by decide +kernel
theorem d57_8 : mm_dec q57 8 = some (.iconst 4) := by decide +kernel
theorem d57_9 : mm_dec q57 9 = some (.iload_n 2) := by decide +kernel
theorem d57_10 : mm_dec q57 10 = some (.imul) := by decide +kernel
theorem d57_11 : mm_dec q57 11 = some (.iconst 3) := by decide +kernel
theorem d57_12 : mm_dec q57 12 = some (.iadd) := by decide +kernel
theorem d57_13 : mm_dec q57 13 = some (.aload_n 1) := by decide +kernel
theorem d57_14 : mm_dec q57 14 = some (.arraylength) := by decide +kernel
theorem d57_15 : mm_dec q57 15 = some (.if_icmp .ge 19) := by decide +kernel
theorem d57_18 : mm_dec q57 18 = some (.aload_n 0) := by decide +kernel
theorem d57_19 : mm_dec q57 19 = some (.iload_n 2) := by decide +kernel
theorem d57_20 : mm_dec q57 20 = some (.aload_n 1) := by decide +kernel
theorem d57_21 : mm_dec q57 21 = some (.iconst 4) := by decide +kernel
theorem d57_22 : mm_dec q57 22 = some (.iload_n 2) := by decide +kernel
theorem d57_23 : mm_dec q57 23 = some (.imul) := by decide +kernel
theorem d57_24 : mm_dec q57 24 = some (.iconst 3) := by decide +kernel
theorem d57_25 : mm_dec q57 25 = some (.iadd) := by decide +kernel
theorem d57_26 : mm_dec q57 26 = some (.iaload) := by decide +kernel
theorem d57_27 : mm_dec q57 27 = some (.iastore) := by decide +kernel
theorem d57_28 : mm_dec q57 28 = some (.iinc 2 1) := by decide +kernel
theorem d57_31 : mm_dec q57 31 = some (.goto (-29)) := by decide +kernel
theorem d57_34 : mm_dec q57 34 = some (.aload_n 0) := by decide +kernel
theorem d57_35 : mm_dec q57 35 = some (.areturn) := by decide +kernel
theorem d58_0 : mm_dec q58 0 = some (.aload_n 0) := by decide +kernel
theorem d58_1 : mm_dec q58 1 = some (.getfield 39) := by decide +kernel
theorem d58_4 : mm_dec q58 4 = some (.ifCond .eq 12) := by decide +kernel
theorem d58_7 : mm_dec q58 7 = some (.aload_n 0) := by decide +kernel
theorem d58_8 : mm_dec q58 8 = some (.getfield 25) := by decide +kernel
theorem d58_11 : mm_dec q58 11 = some (.iconst 3) := by decide +kernel
theorem d58_12 : mm_dec q58 12 = some (.iaload) := by decide +kernel
theorem d58_13 : mm_dec q58 13 = some (.goto 4) := by decide +kernel
theorem d58_16 : mm_dec q58 16 = some (.iconst (-1)) := by decide +kernel
theorem d58_17 : mm_dec q58 17 = some (.ireturn) := by decide +kernel
theorem d59_0 : mm_dec q59 0 = some (.aload_n 0) := by decide +kernel
theorem d59_1 : mm_dec q59 1 = some (.getfield 39) := by decide +kernel
theorem d59_4 : mm_dec q59 4 = some (.ifCond .eq 32) := by decide +kernel
theorem d59_7 : mm_dec q59 7 = some (.iload_n 1) := by decide +kernel
theorem d59_8 : mm_dec q59 8 = some (.aload_n 0) := by decide +kernel
theorem d59_9 : mm_dec q59 9 = some (.getfield 25) := by decide +kernel
theorem d59_12 : mm_dec q59 12 = some (.iconst 0) := by decide +kernel
theorem d59_13 : mm_dec q59 13 = some (.iaload) := by decide +kernel
theorem d59_14 : mm_dec q59 14 = some (.aload_n 0) := by decide +kernel
theorem d59_15 : mm_dec q59 15 = some (.getfield 25) := by decide +kernel
theorem d59_18 : mm_dec q59 18 = some (.iconst 1) := by decide +kernel
theorem d59_19 : mm_dec q59 19 = some (.iaload) := by decide +kernel
theorem d59_20 : mm_dec q59 20 = some (.aload_n 0) := by decide +kernel
theorem d59_21 : mm_dec q59 21 = some (.getfield 25) := by decide +kernel
theorem d59_24 : mm_dec q59 24 = some (.iconst 2) := by decide +kernel
theorem d59_25 : mm_dec q59 25 = some (.iaload) := by decide +kernel
theorem d59_26 : mm_dec q59 26 = some (.invokestatic 73) := by decide +kernel
theorem d59_29 : mm_dec q59 29 = some (.ifCond .eq 7) := by decide +kernel
theorem d59_32 : mm_dec q59 32 = some (.iconst 1) := by decide +kernel
theorem d59_33 : mm_dec q59 33 = some (.goto 4) := by decide +kernel
theorem d59_36 : mm_dec q59 36 = some (.iconst 0) := by decide +kernel
theorem d59_37 : mm_dec q59 37 = some (.ireturn) := by decide +kernel
theorem d60_0 : mm_dec q60 0 = some (.iload_n 3) := by decide +kernel
theorem d60_1 : mm_dec q60 1 = some (.ifCond .le 18) := by decide +kernel
theorem d60_4 : mm_dec q60 4 = some (.iload_n 0) := by decide +kernel
theorem d60_5 : mm_dec q60 5 = some (.iload_n 1) := by decide +kernel
theorem d60_6 : mm_dec q60 6 = some (.isub) := by decide +kernel
theorem d60_7 : mm_dec q60 7 = some (.iload_n 3) := by decide +kernel
theorem d60_8 : mm_dec q60 8 = some (.invokestatic 77) := by decide +kernel
theorem d60_11 : mm_dec q60 11 = some (.iload_n 2) := by decide +kernel
theorem d60_12 : mm_dec q60 12 = some (.if_icmp .ge 7) := by decide +kernel
theorem d60_15 : mm_dec q60 15 = some (.iconst 1) := by decide +kernel
theorem d60_16 : mm_dec q60 16 = some (.goto 4) := by decide +kernel
theorem d60_19 : mm_dec q60 19 = some (.iconst 0) := by decide +kernel
theorem d60_20 : mm_dec q60 20 = some (.ireturn) := by decide +kernel
theorem d61_0 : mm_dec q61 0 = some (.iload_n 1) := by decide +kernel
theorem d61_1 : mm_dec q61 1 = some (.ifCond .lt 21) := by decide +kernel
theorem d61_4 : mm_dec q61 4 = some (.iload_n 1) := by decide +kernel
theorem d61_5 : mm_dec q61 5 = some (.aload_n 0) := by decide +kernel
theorem d61_6 : mm_dec q61 6 = some (.getfield 32) := by decide +kernel
theorem d61_9 : mm_dec q61 9 = some (.if_icmp .ge 13) := by decide +kernel
theorem d61_12 : mm_dec q61 12 = some (.iload_n 1) := by decide +kernel
theorem d61_13 : mm_dec q61 13 = some (.bipush 6) := by decide +kernel
theorem d61_15 : mm_dec q61 15 = some (.if_icmp .ge 7) := by decide +kernel
theorem d61_18 : mm_dec q61 18 = some (.iconst 1) := by decide +kernel
theorem d61_19 : mm_dec q61 19 = some (.goto 4) := by decide +kernel
theorem d61_22 : mm_dec q61 22 = some (.iconst 0) := by decide +kernel
theorem d61_23 : mm_dec q61 23 = some (.ireturn) := by decide +kernel
theorem d62_0 : mm_dec q62 0 = some (.iload_n 1) := by decide +kernel
theorem d62_1 : mm_dec q62 1 = some (.ifCond .lt 20) := by decide +kernel
theorem d62_4 : mm_dec q62 4 = some (.iload_n 1) := by decide +kernel
theorem d62_5 : mm_dec q62 5 = some (.aload_n 0) := by decide +kernel
theorem d62_6 : mm_dec q62 6 = some (.getfield 36) := by decide +kernel
theorem d62_9 : mm_dec q62 9 = some (.if_icmp .ge 12) := by decide +kernel
theorem d62_12 : mm_dec q62 12 = some (.iload_n 1) := by decide +kernel
theorem d62_13 : mm_dec q62 13 = some (.iconst 2) := by decide +kernel
theorem d62_14 : mm_dec q62 14 = some (.if_icmp .ge 7) := by decide +kernel
theorem d62_17 : mm_dec q62 17 = some (.iconst 1) := by decide +kernel
theorem d62_18 : mm_dec q62 18 = some (.goto 4) := by decide +kernel
theorem d62_21 : mm_dec q62 21 = some (.iconst 0) := by decide +kernel
theorem d62_22 : mm_dec q62 22 = some (.ireturn) := by decide +kernel
theorem d63_0 : mm_dec q63 0 = some (.aload_n 0) := by decide +kernel
theorem d63_1 : mm_dec q63 1 = some (.iload_n 1) := by decide +kernel
theorem d63_2 : mm_dec q63 2 = some (.invokevirtual 83) := by decide +kernel
theorem d63_5 : mm_dec q63 5 = some (.ifCond .ne 5) := by decide +kernel
theorem d63_8 : mm_dec q63 8 = some (.iconst 0) := by decide +kernel
theorem d63_9 : mm_dec q63 9 = some (.ireturn) := by decide +kernel
theorem d63_10 : mm_dec q63 10 = some (.iload_n 3) := by decide +kernel
theorem d63_11 : mm_dec q63 11 = some (.iload_n 2) := by decide +kernel
theorem d63_12 : mm_dec q63 12 = some (.aload_n 0) := by decide +kernel
theorem d63_13 : mm_dec q63 13 = some (.getfield 11) := by decide +kernel
theorem d63_16 : mm_dec q63 16 = some (.iload_n 1) := by decide +kernel
theorem d63_17 : mm_dec q63 17 = some (.aaload) := by decide +kernel
theorem d63_18 : mm_dec q63 18 = some (.iconst 1) := by decide +kernel
theorem d63_19 : mm_dec q63 19 = some (.iaload) := by decide +kernel
theorem d63_20 : mm_dec q63 20 = some (.aload_n 0) := by decide +kernel
theorem d63_21 : mm_dec q63 21 = some (.getfield 11) := by decide +kernel
theorem d63_24 : mm_dec q63 24 = some (.iload_n 1) := by decide +kernel
theorem d63_25 : mm_dec q63 25 = some (.aaload) := by decide +kernel
theorem d63_26 : mm_dec q63 26 = some (.iconst 2) := by decide +kernel
theorem d63_27 : mm_dec q63 27 = some (.iaload) := by decide +kernel
theorem d63_28 : mm_dec q63 28 = some (.invokestatic 73) := by decide +kernel
theorem d63_31 : mm_dec q63 31 = some (.ireturn) := by decide +kernel
theorem d64_0 : mm_dec q64 0 = some (.aload_n 0) := by decide +kernel
theorem d64_1 : mm_dec q64 1 = some (.iload_n 1) := by decide +kernel
theorem d64_2 : mm_dec q64 2 = some (.invokevirtual 83) := by decide +kernel
theorem d64_5 : mm_dec q64 5 = some (.ifCond .ne 5) := by decide +kernel
theorem d64_8 : mm_dec q64 8 = some (.iconst 0) := by decide +kernel
theorem d64_9 : mm_dec q64 9 = some (.ireturn) := by decide +kernel
theorem d64_10 : mm_dec q64 10 = some (.aload_n 0) := by decide +kernel
theorem d64_11 : mm_dec q64 11 = some (.getfield 18) := by decide +kernel
theorem d64_14 : mm_dec q64 14 = some (.iload_n 1) := by decide +kernel
theorem d64_15 : mm_dec q64 15 = some (.aaload) := by decide +kernel
theorem d64_16 : mm_dec q64 16 = some (.astore 4) := by decide +kernel
theorem d64_18 : mm_dec q64 18 = some (.aload 4) := by decide +kernel
theorem d64_20 : mm_dec q64 20 = some (.ifnonnull 18) := by decide +kernel
theorem d64_23 : mm_dec q64 23 = some (.aload_n 0) := by decide +kernel
theorem d64_24 : mm_dec q64 24 = some (.iload_n 1) := by decide +kernel
theorem d64_25 : mm_dec q64 25 = some (.aload_n 0) := by decide +kernel
theorem d64_26 : mm_dec q64 26 = some (.getfield 11) := by decide +kernel
theorem d64_29 : mm_dec q64 29 = some (.iload_n 1) := by decide +kernel
theorem d64_30 : mm_dec q64 30 = some (.aaload) := by decide +kernel
theorem d64_31 : mm_dec q64 31 = some (.iconst 0) := by decide +kernel
theorem d64_32 : mm_dec q64 32 = some (.iaload) := by decide +kernel
theorem d64_33 : mm_dec q64 33 = some (.iload_n 2) := by decide +kernel
theorem d64_34 : mm_dec q64 34 = some (.invokevirtual 87) := by decide +kernel
theorem d64_37 : mm_dec q64 37 = some (.ireturn) := by decide +kernel
theorem d64_38 : mm_dec q64 38 = some (.aload_n 0) := by decide +kernel
theorem d64_39 : mm_dec q64 39 = some (.getfield 22) := by decide +kernel
theorem d64_42 : mm_dec q64 42 = some (.iconst 0) := by decide +kernel
theorem d64_43 : mm_dec q64 43 = some (.aaload) := by decide +kernel
theorem d64_44 : mm_dec q64 44 = some (.iconst 0) := by decide +kernel
theorem d64_45 : mm_dec q64 45 = some (.iaload) := by decide +kernel
theorem d64_46 : mm_dec q64 46 = some (.istore 5) := by decide +kernel
theorem d64_48 : mm_dec q64 48 = some (.aload_n 0) := by decide +kernel
theorem d64_49 : mm_dec q64 49 = some (.getfield 29) := by decide +kernel
theorem d64_52 : mm_dec q64 52 = some (.iconst 0) := by decide +kernel
theorem d64_53 : mm_dec q64 53 = some (.iload_n 2) := by decide +kernel
theorem d64_54 : mm_dec q64 54 = some (.iastore) := by decide +kernel
theorem d64_55 : mm_dec q64 55 = some (.aload_n 0) := by decide +kernel
theorem d64_56 : mm_dec q64 56 = some (.getfield 29) := by decide +kernel
theorem d64_59 : mm_dec q64 59 = some (.iconst 1) := by decide +kernel
theorem d64_60 : mm_dec q64 60 = some (.iload 5) := by decide +kernel
theorem d64_62 : mm_dec q64 62 = some (.ifCond .le 10) := by decide +kernel
theorem d64_65 : mm_dec q64 65 = some (.iload_n 2) := by decide +kernel
theorem d64_66 : mm_dec q64 66 = some (.iload 5) := by decide +kernel
theorem d64_68 : mm_dec q64 68 = some (.idiv) := by decide +kernel
theorem d64_69 : mm_dec q64 69 = some (.goto 4) := by decide +kernel
theorem d64_72 : mm_dec q64 72 = some (.iconst 0) := by decide +kernel
theorem d64_73 : mm_dec q64 73 = some (.iastore) := by decide +kernel
theorem d64_74 : mm_dec q64 74 = some (.aload_n 0) := by decide +kernel
theorem d64_75 : mm_dec q64 75 = some (.getfield 29) := by decide +kernel
theorem d64_78 : mm_dec q64 78 = some (.iconst 2) := by decide +kernel
theorem d64_79 : mm_dec q64 79 = some (.iload 5) := by decide +kernel
theorem d64_81 : mm_dec q64 81 = some (.ifCond .le 10) := by decide +kernel
theorem d64_84 : mm_dec q64 84 = some (.iload_n 2) := by decide +kernel
theorem d64_85 : mm_dec q64 85 = some (.iload 5) := by decide +kernel
theorem d64_87 : mm_dec q64 87 = some (.irem) := by decide +kernel
theorem d64_88 : mm_dec q64 88 = some (.goto 4) := by decide +kernel
theorem d64_91 : mm_dec q64 91 = some (.iconst 0) := by decide +kernel
theorem d64_92 : mm_dec q64 92 = some (.iastore) := by decide +kernel
theorem d64_93 : mm_dec q64 93 = some (.aload_n 0) := by decide +kernel
theorem d64_94 : mm_dec q64 94 = some (.getfield 29) := by decide +kernel
theorem d64_97 : mm_dec q64 97 = some (.iconst 3) := by decide +kernel
theorem d64_98 : mm_dec q64 98 = some (.iload_n 3) := by decide +kernel
theorem d64_99 : mm_dec q64 99 = some (.iastore) := by decide +kernel
theorem d64_100 : mm_dec q64 100 = some (.aload_n 0) := by decide +kernel
theorem d64_101 : mm_dec q64 101 = some (.getfield 29) := by decide +kernel
theorem d64_104 : mm_dec q64 104 = some (.iconst 4) := by decide +kernel
theorem d64_105 : mm_dec q64 105 = some (.aload_n 0) := by decide +kernel
theorem d64_106 : mm_dec q64 106 = some (.getfield 11) := by decide +kernel
theorem d64_109 : mm_dec q64 109 = some (.iload_n 1) := by decide +kernel
theorem d64_110 : mm_dec q64 110 = some (.aaload) := by decide +kernel
theorem d64_111 : mm_dec q64 111 = some (.iconst 3) := by decide +kernel
theorem d64_112 : mm_dec q64 112 = some (.iaload) := by decide +kernel
theorem d64_113 : mm_dec q64 113 = some (.iastore) := by decide +kernel
theorem d64_114 : mm_dec q64 114 = some (.aload_n 0) := by decide +kernel
theorem d64_115 : mm_dec q64 115 = some (.getfield 29) := by decide +kernel
theorem d64_118 : mm_dec q64 118 = some (.iconst 5) := by decide +kernel
theorem d64_119 : mm_dec q64 119 = some (.iload_n 1) := by decide +kernel
theorem d64_120 : mm_dec q64 120 = some (.iastore) := by decide +kernel
theorem d64_121 : mm_dec q64 121 = some (.aload 4) := by decide +kernel
theorem d64_123 : mm_dec q64 123 = some (.aload_n 0) := by decide +kernel
theorem d64_124 : mm_dec q64 124 = some (.getfield 29) := by decide +kernel
theorem d64_127 : mm_dec q64 127 = some (.invokevirtual 91) := by decide +kernel
theorem d64_130 : mm_dec q64 130 = some (.ifCond .le 7) := by decide +kernel
theorem d64_133 : mm_dec q64 133 = some (.iconst 1) := by decide +kernel
theorem d64_134 : mm_dec q64 134 = some (.goto 4) := by decide +kernel
theorem d64_137 : mm_dec q64 137 = some (.iconst 0) := by decide +kernel
theorem d64_138 : mm_dec q64 138 = some (.ireturn) := by decide +kernel
theorem d65_0 : mm_dec q65 0 = some (.iconst 0) := by decide +kernel
theorem d65_1 : mm_dec q65 1 = some (.istore 4) := by decide +kernel
theorem d65_3 : mm_dec q65 3 = some (.iconst 0) := by decide +kernel
theorem d65_4 : mm_dec q65 4 = some (.istore 5) := by decide +kernel
theorem d65_6 : mm_dec q65 6 = some (.iload 5) := by decide +kernel
theorem d65_8 : mm_dec q65 8 = some (.aload_n 0) := by decide +kernel
theorem d65_9 : mm_dec q65 9 = some (.getfield 32) := by decide +kernel
theorem d65_12 : mm_dec q65 12 = some (.if_icmp .ge 45) := by decide +kernel
theorem d65_15 : mm_dec q65 15 = some (.iload 5) := by decide +kernel
theorem d65_17 : mm_dec q65 17 = some (.bipush 6) := by decide +kernel
theorem d65_19 : mm_dec q65 19 = some (.if_icmp .ge 38) := by decide +kernel
theorem d65_22 : mm_dec q65 22 = some (.iload_n 3) := by decide +kernel
theorem d65_23 : mm_dec q65 23 = some (.iload 5) := by decide +kernel
theorem d65_25 : mm_dec q65 25 = some (.ishr) := by decide +kernel
theorem d65_26 : mm_dec q65 26 = some (.iconst 1) := by decide +kernel
theorem d65_27 : mm_dec q65 27 = some (.iand) := by decide +kernel
theorem d65_28 : mm_dec q65 28 = some (.ifCond .eq 23) := by decide +kernel
theorem d65_31 : mm_dec q65 31 = some (.aload_n 0) := by decide +kernel
theorem d65_32 : mm_dec q65 32 = some (.iload 5) := by decide +kernel
theorem d65_34 : mm_dec q65 34 = some (.iload_n 1) := by decide +kernel
theorem d65_35 : mm_dec q65 35 = some (.iload_n 2) := by decide +kernel
theorem d65_36 : mm_dec q65 36 = some (.invokevirtual 95) := by decide +kernel
theorem d65_39 : mm_dec q65 39 = some (.ifCond .eq 12) := by decide +kernel
theorem d65_42 : mm_dec q65 42 = some (.iload 4) := by decide +kernel
theorem d65_44 : mm_dec q65 44 = some (.iconst 1) := by decide +kernel
theorem d65_45 : mm_dec q65 45 = some (.iload 5) := by decide +kernel
theorem d65_47 : mm_dec q65 47 = some (.ishl) := by decide +kernel
theorem d65_48 : mm_dec q65 48 = some (.ior) := by decide +kernel
theorem d65_49 : mm_dec q65 49 = some (.istore 4) := by decide +kernel
theorem d65_51 : mm_dec q65 51 = some (.iinc 5 1) := by decide +kernel
theorem d65_54 : mm_dec q65 54 = some (.goto (-48)) := by decide +kernel
theorem d65_57 : mm_dec q65 57 = some (.iload 4) := by decide +kernel
theorem d65_59 : mm_dec q65 59 = some (.ireturn) := by decide +kernel
theorem d66_0 : mm_dec q66 0 = some (.aload_n 0) := by decide +kernel
theorem d66_1 : mm_dec q66 1 = some (.iload_n 2) := by decide +kernel
theorem d66_2 : mm_dec q66 2 = some (.invokevirtual 98) := by decide +kernel
theorem d66_5 : mm_dec q66 5 = some (.ifCond .eq 9) := by decide +kernel
theorem d66_8 : mm_dec q66 8 = some (.iload_n 1) := by decide +kernel
theorem d66_9 : mm_dec q66 9 = some (.iload_n 3) := by decide +kernel
theorem d66_10 : mm_dec q66 10 = some (.iand) := by decide +kernel
theorem d66_11 : mm_dec q66 11 = some (.goto 4) := by decide +kernel
theorem d66_14 : mm_dec q66 14 = some (.iload_n 1) := by decide +kernel
theorem d66_15 : mm_dec q66 15 = some (.ireturn) := by decide +kernel
theorem d67_0 : mm_dec q67 0 = some (.iconst 0) := by decide +kernel
theorem d67_1 : mm_dec q67 1 = some (.istore_n 2) := by decide +kernel
theorem d67_2 : mm_dec q67 2 = some (.iconst 0) := by decide +kernel
theorem d67_3 : mm_dec q67 3 = some (.istore_n 3) := by decide +kernel
theorem d67_4 : mm_dec q67 4 = some (.iload_n 3) := by decide +kernel
theorem d67_5 : mm_dec q67 5 = some (.aload_n 0) := by decide +kernel
theorem d67_6 : mm_dec q67 6 = some (.getfield 32) := by decide +kernel
theorem d67_9 : mm_dec q67 9 = some (.if_icmp .ge 33) := by decide +kernel
theorem d67_12 : mm_dec q67 12 = some (.iload_n 3) := by decide +kernel
theorem d67_13 : mm_dec q67 13 = some (.bipush 6) := by decide +kernel
theorem d67_15 : mm_dec q67 15 = some (.if_icmp .ge 27) := by decide +kernel
theorem d67_18 : mm_dec q67 18 = some (.aload_n 0) := by decide +kernel
theorem d67_19 : mm_dec q67 19 = some (.getfield 11) := by decide +kernel
theorem d67_22 : mm_dec q67 22 = some (.iload_n 3) := by decide +kernel
theorem d67_23 : mm_dec q67 23 = some (.aaload) := by decide +kernel
theorem d67_24 : mm_dec q67 24 = some (.iconst 3) := by decide +kernel
theorem d67_25 : mm_dec q67 25 = some (.iaload) := by decide +kernel
theorem d67_26 : mm_dec q67 26 = some (.iload_n 1) := by decide +kernel
theorem d67_27 : mm_dec q67 27 = some (.if_icmp .gt 9) := by decide +kernel
theorem d67_30 : mm_dec q67 30 = some (.iload_n 2) := by decide +kernel
theorem d67_31 : mm_dec q67 31 = some (.iconst 1) := by decide +kernel
theorem d67_32 : mm_dec q67 32 = some (.iload_n 3) := by decide +kernel
theorem d67_33 : mm_dec q67 33 = some (.ishl) := by decide +kernel
theorem d67_34 : mm_dec q67 34 = some (.ior) := by decide +kernel
theorem d67_35 : mm_dec q67 35 = some (.istore_n 2) := by decide +kernel
theorem d67_36 : mm_dec q67 36 = some (.iinc 3 1) := by decide +kernel
theorem d67_39 : mm_dec q67 39 = some (.goto (-35)) := by decide +kernel
theorem d67_42 : mm_dec q67 42 = some (.iload_n 2) := by decide +kernel
theorem d67_43 : mm_dec q67 43 = some (.ireturn) := by decide +kernel
theorem d68_0 : mm_dec q68 0 = some (.iconst 0) := by decide +kernel
theorem d68_1 : mm_dec q68 1 = some (.istore_n 1) := by decide +kernel
theorem d68_2 : mm_dec q68 2 = some (.iconst 0) := by decide +kernel
theorem d68_3 : mm_dec q68 3 = some (.istore_n 2) := by decide +kernel
theorem d68_4 : mm_dec q68 4 = some (.iload_n 2) := by decide +kernel
theorem d68_5 : mm_dec q68 5 = some (.aload_n 0) := by decide +kernel
theorem d68_6 : mm_dec q68 6 = some (.getfield 32) := by decide +kernel
theorem d68_9 : mm_dec q68 9 = some (.if_icmp .ge 39) := by decide +kernel
theorem d68_12 : mm_dec q68 12 = some (.iload_n 2) := by decide +kernel
theorem d68_13 : mm_dec q68 13 = some (.bipush 6) := by decide +kernel
theorem d68_15 : mm_dec q68 15 = some (.if_icmp .ge 33) := by decide +kernel
theorem d68_18 : mm_dec q68 18 = some (.aload_n 0) := by decide +kernel
theorem d68_19 : mm_dec q68 19 = some (.getfield 18) := by decide +kernel
theorem d68_22 : mm_dec q68 22 = some (.iload_n 2) := by decide +kernel
theorem d68_23 : mm_dec q68 23 = some (.aaload) := by decide +kernel
theorem d68_24 : mm_dec q68 24 = some (.astore_n 3) := by decide +kernel
theorem d68_25 : mm_dec q68 25 = some (.aload_n 3) := by decide +kernel
theorem d68_26 : mm_dec q68 26 = some (.ifnull 16) := by decide +kernel
theorem d68_29 : mm_dec q68 29 = some (.aload_n 3) := by decide +kernel
theorem d68_30 : mm_dec q68 30 = some (.invokevirtual 101) := by decide +kernel
theorem d68_33 : mm_dec q68 33 = some (.ifCond .eq 9) := by decide +kernel
theorem d68_36 : mm_dec q68 36 = some (.iload_n 1) := by decide +kernel
theorem d68_37 : mm_dec q68 37 = some (.iconst 1) := by decide +kernel
theorem d68_38 : mm_dec q68 38 = some (.iload_n 2) := by decide +kernel
theorem d68_39 : mm_dec q68 39 = some (.ishl) := by decide +kernel
theorem d68_40 : mm_dec q68 40 = some (.ior) := by decide +kernel
theorem d68_41 : mm_dec q68 41 = some (.istore_n 1) := by decide +kernel
theorem d68_42 : mm_dec q68 42 = some (.iinc 2 1) := by decide +kernel
theorem d68_45 : mm_dec q68 45 = some (.goto (-41)) := by decide +kernel
theorem d68_48 : mm_dec q68 48 = some (.iload_n 1) := by decide +kernel
theorem d68_49 : mm_dec q68 49 = some (.ireturn) := by decide +kernel
theorem d69_0 : mm_dec q69 0 = some (.iconst 0) := by decide +kernel
theorem d69_1 : mm_dec q69 1 = some (.istore_n 2) := by decide +kernel
theorem d69_2 : mm_dec q69 2 = some (.iconst 0) := by decide +kernel
theorem d69_3 : mm_dec q69 3 = some (.istore_n 3) := by decide +kernel
theorem d69_4 : mm_dec q69 4 = some (.iload_n 3) := by decide +kernel
theorem d69_5 : mm_dec q69 5 = some (.aload_n 0) := by decide +kernel
theorem d69_6 : mm_dec q69 6 = some (.getfield 36) := by decide +kernel
theorem d69_9 : mm_dec q69 9 = some (.if_icmp .ge 47) := by decide +kernel
theorem d69_12 : mm_dec q69 12 = some (.iload_n 3) := by decide +kernel
theorem d69_13 : mm_dec q69 13 = some (.iconst 2) := by decide +kernel
theorem d69_14 : mm_dec q69 14 = some (.if_icmp .ge 42) := by decide +kernel
theorem d69_17 : mm_dec q69 17 = some (.aload_n 0) := by decide +kernel
theorem d69_18 : mm_dec q69 18 = some (.iload_n 1) := by decide +kernel
theorem d69_19 : mm_dec q69 19 = some (.invokevirtual 83) := by decide +kernel
theorem d69_22 : mm_dec q69 22 = some (.ifCond .eq 34) := by decide +kernel
theorem d69_25 : mm_dec q69 25 = some (.aload_n 0) := by decide +kernel
theorem d69_26 : mm_dec q69 26 = some (.getfield 11) := by decide +kernel
theorem d69_29 : mm_dec q69 29 = some (.iload_n 1) := by decide +kernel
theorem d69_30 : mm_dec q69 30 = some (.aaload) := by decide +kernel
theorem d69_31 : mm_dec q69 31 = some (.iconst 3) := by decide +kernel
theorem d69_32 : mm_dec q69 32 = some (.iaload) := by decide +kernel
theorem d69_33 : mm_dec q69 33 = some (.aload_n 0) := by decide +kernel
theorem d69_34 : mm_dec q69 34 = some (.getfield 22) := by decide +kernel
theorem d69_37 : mm_dec q69 37 = some (.iload_n 3) := by decide +kernel
theorem d69_38 : mm_dec q69 38 = some (.aaload) := by decide +kernel
theorem d69_39 : mm_dec q69 39 = some (.iconst 2) := by decide +kernel
theorem d69_40 : mm_dec q69 40 = some (.iaload) := by decide +kernel
theorem d69_41 : mm_dec q69 41 = some (.if_icmp .gt 9) := by decide +kernel
theorem d69_44 : mm_dec q69 44 = some (.iload_n 2) := by decide +kernel
theorem d69_45 : mm_dec q69 45 = some (.iconst 1) := by decide +kernel
theorem d69_46 : mm_dec q69 46 = some (.iload_n 3) := by decide +kernel
theorem d69_47 : mm_dec q69 47 = some (.ishl) := by decide +kernel
theorem d69_48 : mm_dec q69 48 = some (.ior) := by decide +kernel
theorem d69_49 : mm_dec q69 49 = some (.istore_n 2) := by decide +kernel
theorem d69_50 : mm_dec q69 50 = some (.iinc 3 1) := by decide +kernel
theorem d69_53 : mm_dec q69 53 = some (.goto (-49)) := by decide +kernel
theorem d69_56 : mm_dec q69 56 = some (.iload_n 2) := by decide +kernel
theorem d69_57 : mm_dec q69 57 = some (.ireturn) := by decide +kernel
theorem d70_0 : mm_dec q70 0 = some (.aload_n 0) := by decide +kernel
theorem d70_1 : mm_dec q70 1 = some (.iload_n 1) := by decide +kernel
theorem d70_2 : mm_dec q70 2 = some (.invokevirtual 105) := by decide +kernel
theorem d70_5 : mm_dec q70 5 = some (.ifCond .ne 5) := by decide +kernel
theorem d70_8 : mm_dec q70 8 = some (.iconst 0) := by decide +kernel
theorem d70_9 : mm_dec q70 9 = some (.ireturn) := by decide +kernel
theorem d70_10 : mm_dec q70 10 = some (.aload_n 0) := by decide +kernel
theorem d70_11 : mm_dec q70 11 = some (.getfield 22) := by decide +kernel
theorem d70_14 : mm_dec q70 14 = some (.iload_n 1) := by decide +kernel
theorem d70_15 : mm_dec q70 15 = some (.aaload) := by decide +kernel
theorem d70_16 : mm_dec q70 16 = some (.iconst 0) := by decide +kernel
theorem d70_17 : mm_dec q70 17 = some (.iaload) := by decide +kernel
theorem d70_18 : mm_dec q70 18 = some (.istore_n 3) := by decide +kernel
theorem d70_19 : mm_dec q70 19 = some (.iload_n 3) := by decide +kernel
theorem d70_20 : mm_dec q70 20 = some (.iconst 1) := by decide +kernel
theorem d70_21 : mm_dec q70 21 = some (.if_icmp .lt 9) := by decide +kernel
theorem d70_24 : mm_dec q70 24 = some (.iload_n 2) := by decide +kernel
theorem d70_25 : mm_dec q70 25 = some (.iload_n 3) := by decide +kernel
theorem d70_26 : mm_dec q70 26 = some (.irem) := by decide +kernel
theorem d70_27 : mm_dec q70 27 = some (.ifCond .eq 5) := by decide +kernel
theorem d70_30 : mm_dec q70 30 = some (.iconst 0) := by decide +kernel
theorem d70_31 : mm_dec q70 31 = some (.ireturn) := by decide +kernel
theorem d70_32 : mm_dec q70 32 = some (.iload_n 2) := by decide +kernel
theorem d70_33 : mm_dec q70 33 = some (.iload_n 3) := by decide +kernel
theorem d70_34 : mm_dec q70 34 = some (.idiv) := by decide +kernel
theorem d70_35 : mm_dec q70 35 = some (.bipush 12) := by decide +kernel
theorem d70_37 : mm_dec q70 37 = some (.irem) := by decide +kernel
theorem d70_38 : mm_dec q70 38 = some (.istore 4) := by decide +kernel
theorem d70_40 : mm_dec q70 40 = some (.iload 4) := by decide +kernel
theorem d70_42 : mm_dec q70 42 = some (.ifCond .ne 8) := by decide +kernel
theorem d70_45 : mm_dec q70 45 = some (.bipush 12) := by decide +kernel
theorem d70_47 : mm_dec q70 47 = some (.goto 5) := by decide +kernel
theorem d70_50 : mm_dec q70 50 = some (.iload 4) := by decide +kernel
theorem d70_52 : mm_dec q70 52 = some (.ireturn) := by decide +kernel
theorem d71_0 : mm_dec q71 0 = some (.aload_n 0) := by decide +kernel
theorem d71_1 : mm_dec q71 1 = some (.iload_n 1) := by decide +kernel
theorem d71_2 : mm_dec q71 2 = some (.invokevirtual 105) := by decide +kernel
theorem d71_5 : mm_dec q71 5 = some (.ifCond .eq 8) := by decide +kernel
theorem d71_8 : mm_dec q71 8 = some (.iload_n 2) := by decide +kernel
theorem d71_9 : mm_dec q71 9 = some (.iconst 1) := by decide +kernel
theorem d71_10 : mm_dec q71 10 = some (.if_icmp .ge 5) := by decide +kernel
theorem d71_13 : mm_dec q71 13 = some (.iload_n 2) := by decide +kernel
theorem d71_14 : mm_dec q71 14 = some (.ireturn) := by decide +kernel
theorem d71_15 : mm_dec q71 15 = some (.aload_n 0) := by decide +kernel
theorem d71_16 : mm_dec q71 16 = some (.getfield 22) := by decide +kernel
theorem d71_19 : mm_dec q71 19 = some (.iload_n 1) := by decide +kernel
theorem d71_20 : mm_dec q71 20 = some (.aaload) := by decide +kernel
theorem d71_21 : mm_dec q71 21 = some (.iconst 1) := by decide +kernel
theorem d71_22 : mm_dec q71 22 = some (.iaload) := by decide +kernel
theorem d71_23 : mm_dec q71 23 = some (.iconst 1) := by decide +kernel
theorem d71_24 : mm_dec q71 24 = some (.if_icmp .ne 7) := by decide +kernel
theorem d71_27 : mm_dec q71 27 = some (.iconst 1) := by decide +kernel
theorem d71_28 : mm_dec q71 28 = some (.goto 4) := by decide +kernel
theorem d71_31 : mm_dec q71 31 = some (.iconst 0) := by decide +kernel
theorem d71_32 : mm_dec q71 32 = some (.istore 4) := by decide +kernel
theorem d71_34 : mm_dec q71 34 = some (.iload 4) := by decide +kernel
theorem d71_36 : mm_dec q71 36 = some (.iload_n 3) := by decide +kernel
theorem d71_37 : mm_dec q71 37 = some (.if_icmp .ne 9) := by decide +kernel
theorem d71_40 : mm_dec q71 40 = some (.iload_n 2) := by decide +kernel
theorem d71_41 : mm_dec q71 41 = some (.iconst 1) := by decide +kernel
theorem d71_42 : mm_dec q71 42 = some (.isub) := by decide +kernel
theorem d71_43 : mm_dec q71 43 = some (.goto 4) := by decide +kernel
theorem d71_46 : mm_dec q71 46 = some (.iload_n 2) := by decide +kernel
theorem d71_47 : mm_dec q71 47 = some (.ireturn) := by decide +kernel
theorem d72_0 : mm_dec q72 0 = some (.aload_n 0) := by decide +kernel
theorem d72_1 : mm_dec q72 1 = some (.invokespecial 3) := by decide +kernel
theorem d72_4 : mm_dec q72 4 = some (.aload_n 0) := by decide +kernel
theorem d72_5 : mm_dec q72 5 = some (.aload_n 1) := by decide +kernel
theorem d72_6 : mm_dec q72 6 = some (.putfield 9) := by decide +kernel
theorem d72_9 : mm_dec q72 9 = some (.aload_n 0) := by decide +kernel
theorem d72_10 : mm_dec q72 10 = some (.aload_n 2) := by decide +kernel
theorem d72_11 : mm_dec q72 11 = some (.putfield 15) := by decide +kernel
theorem d72_14 : mm_dec q72 14 = some (.return_) := by decide +kernel
theorem d73_0 : mm_dec q73 0 = some (.aload_n 0) := by decide +kernel
theorem d73_1 : mm_dec q73 1 = some (.getfield 9) := by decide +kernel
theorem d73_4 : mm_dec q73 4 = some (.invokevirtual 19) := by decide +kernel
theorem d73_7 : mm_dec q73 7 = some (.aload_n 0) := by decide +kernel
theorem d73_8 : mm_dec q73 8 = some (.getfield 15) := by decide +kernel
theorem d73_11 : mm_dec q73 11 = some (.invokevirtual 24) := by decide +kernel
theorem d73_14 : mm_dec q73 14 = some (.iconst 1) := by decide +kernel
theorem d73_15 : mm_dec q73 15 = some (.istore_n 1) := by decide +kernel
theorem d73_16 : mm_dec q73 16 = some (.iconst 0) := by decide +kernel
theorem d73_17 : mm_dec q73 17 = some (.istore_n 2) := by decide +kernel
theorem d73_18 : mm_dec q73 18 = some (.iload_n 1) := by decide +kernel
theorem d73_19 : mm_dec q73 19 = some (.ifCond .eq 41) := by decide +kernel
theorem d73_22 : mm_dec q73 22 = some (.iload_n 2) := by decide +kernel
theorem d73_23 : mm_dec q73 23 = some (.sipush 160) := by decide +kernel
theorem d73_26 : mm_dec q73 26 = some (.if_icmp .ge 34) := by decide +kernel
theorem d73_29 : mm_dec q73 29 = some (.aload_n 0) := by decide +kernel
theorem d73_30 : mm_dec q73 30 = some (.invokevirtual 29) := by decide +kernel
theorem d73_33 : mm_dec q73 33 = some (.ifCond .ne 11) := by decide +kernel
theorem d73_36 : mm_dec q73 36 = some (.aload_n 0) := by decide +kernel
theorem d73_37 : mm_dec q73 37 = some (.getfield 9) := by decide +kernel
theorem d73_40 : mm_dec q73 40 = some (.getfield 33) := by decide +kernel
theorem d73_43 : mm_dec q73 43 = some (.ireturn) := by decide +kernel
theorem d73_44 : mm_dec q73 44 = some (.aload_n 0) := by decide +kernel
theorem d73_45 : mm_dec q73 45 = some (.getfield 9) := by decide +kernel
theorem d73_48 : mm_dec q73 48 = some (.bipush 59) := by decide +kernel
theorem d73_50 : mm_dec q73 50 = some (.invokevirtual 37) := by decide +kernel
theorem d73_53 : mm_dec q73 53 = some (.istore_n 1) := by decide +kernel
theorem d73_54 : mm_dec q73 54 = some (.iinc 2 1) := by decide +kernel
theorem d73_57 : mm_dec q73 57 = some (.goto (-39)) := by decide +kernel
theorem d73_60 : mm_dec q73 60 = some (.aload_n 0) := by decide +kernel
theorem d73_61 : mm_dec q73 61 = some (.getfield 9) := by decide +kernel
theorem d73_64 : mm_dec q73 64 = some (.invokevirtual 41) := by decide +kernel
theorem d73_67 : mm_dec q73 67 = some (.iconst (-1)) := by decide +kernel
theorem d73_68 : mm_dec q73 68 = some (.if_icmp .ne 27) := by decide +kernel
theorem d73_71 : mm_dec q73 71 = some (.aload_n 0) := by decide +kernel
theorem d73_72 : mm_dec q73 72 = some (.getfield 15) := by decide +kernel
theorem d73_75 : mm_dec q73 75 = some (.getfield 45) := by decide +kernel
theorem d73_78 : mm_dec q73 78 = some (.ifCond .le 17) := by decide +kernel
theorem d73_81 : mm_dec q73 81 = some (.aload_n 0) := by decide +kernel
theorem d73_82 : mm_dec q73 82 = some (.getfield 15) := by decide +kernel
theorem d73_85 : mm_dec q73 85 = some (.getfield 48) := by decide +kernel
theorem d73_88 : mm_dec q73 88 = some (.ifCond .le 7) := by decide +kernel
theorem d73_91 : mm_dec q73 91 = some (.iconst 1) := by decide +kernel
theorem d73_92 : mm_dec q73 92 = some (.goto 4) := by decide +kernel
theorem d73_95 : mm_dec q73 95 = some (.iconst 0) := by decide +kernel
theorem d73_96 : mm_dec q73 96 = some (.istore_n 2) := by decide +kernel
theorem d73_97 : mm_dec q73 97 = some (.iload_n 2) := by decide +kernel
theorem d73_98 : mm_dec q73 98 = some (.ifCond .eq 7) := by decide +kernel
theorem d73_101 : mm_dec q73 101 = some (.iconst (-1)) := by decide +kernel
theorem d73_102 : mm_dec q73 102 = some (.goto 10) := by decide +kernel
theorem d73_105 : mm_dec q73 105 = some (.aload_n 0) := by decide +kernel
theorem d73_106 : mm_dec q73 106 = some (.getfield 9) := by decide +kernel
theorem d73_109 : mm_dec q73 109 = some (.getfield 51) := by decide +kernel
theorem d73_112 : mm_dec q73 112 = some (.ireturn) := by decide +kernel
theorem d74_0 : mm_dec q74 0 = some (.aload_n 0) := by decide +kernel
theorem d74_1 : mm_dec q74 1 = some (.getfield 9) := by decide +kernel
theorem d74_4 : mm_dec q74 4 = some (.invokevirtual 41) := by decide +kernel
theorem d74_7 : mm_dec q74 7 = some (.istore_n 1) := by decide +kernel
theorem d74_8 : mm_dec q74 8 = some (.iload_n 1) := by decide +kernel
theorem d74_9 : mm_dec q74 9 = some (.bipush 112) := by decide +kernel
theorem d74_11 : mm_dec q74 11 = some (.if_icmp .ne 13) := by decide +kernel
theorem d74_14 : mm_dec q74 14 = some (.aload_n 0) := by decide +kernel
theorem d74_15 : mm_dec q74 15 = some (.getfield 15) := by decide +kernel
theorem d74_18 : mm_dec q74 18 = some (.invokevirtual 54) := by decide +kernel
theorem d74_21 : mm_dec q74 21 = some (.goto 36) := by decide +kernel
theorem d74_24 : mm_dec q74 24 = some (.iload_n 1) := by decide +kernel
theorem d74_25 : mm_dec q74 25 = some (.bipush 103) := by decide +kernel
theorem d74_27 : mm_dec q74 27 = some (.if_icmp .ne 13) := by decide +kernel
theorem d74_30 : mm_dec q74 30 = some (.aload_n 0) := by decide +kernel
theorem d74_31 : mm_dec q74 31 = some (.getfield 15) := by decide +kernel
theorem d74_34 : mm_dec q74 34 = some (.invokevirtual 58) := by decide +kernel
theorem d74_37 : mm_dec q74 37 = some (.goto 20) := by decide +kernel
theorem d74_40 : mm_dec q74 40 = some (.iload_n 1) := by decide +kernel
theorem d74_41 : mm_dec q74 41 = some (.bipush 98) := by decide +kernel
theorem d74_43 : mm_dec q74 43 = some (.if_icmp .ne 13) := by decide +kernel
theorem d74_46 : mm_dec q74 46 = some (.aload_n 0) := by decide +kernel
theorem d74_47 : mm_dec q74 47 = some (.getfield 15) := by decide +kernel
theorem d74_50 : mm_dec q74 50 = some (.invokevirtual 61) := by decide +kernel
theorem d74_53 : mm_dec q74 53 = some (.goto 4) := by decide +kernel
theorem d74_56 : mm_dec q74 56 = some (.aconst_null) := by decide +kernel
theorem d74_57 : mm_dec q74 57 = some (.astore_n 2) := by decide +kernel
theorem d74_58 : mm_dec q74 58 = some (.aload_n 2) := by decide +kernel
theorem d74_59 : mm_dec q74 59 = some (.ifnonnull 18) := by decide +kernel
theorem d74_62 : mm_dec q74 62 = some (.aload_n 0) := by decide +kernel
theorem d74_63 : mm_dec q74 63 = some (.getfield 9) := by decide +kernel
theorem d74_66 : mm_dec q74 66 = some (.aload_n 0) := by decide +kernel
theorem d74_67 : mm_dec q74 67 = some (.getfield 9) := by decide +kernel
theorem d74_70 : mm_dec q74 70 = some (.getfield 51) := by decide +kernel
theorem d74_73 : mm_dec q74 73 = some (.invokevirtual 64) := by decide +kernel
theorem d74_76 : mm_dec q74 76 = some (.ireturn) := by decide +kernel
theorem d74_77 : mm_dec q74 77 = some (.aload_n 0) := by decide +kernel
theorem d74_78 : mm_dec q74 78 = some (.getfield 9) := by decide +kernel
theorem d74_81 : mm_dec q74 81 = some (.invokevirtual 67) := by decide +kernel
theorem d74_84 : mm_dec q74 84 = some (.aload_n 0) := by decide +kernel
theorem d74_85 : mm_dec q74 85 = some (.aload_n 2) := by decide +kernel
theorem d74_86 : mm_dec q74 86 = some (.iload_n 1) := by decide +kernel
theorem d74_87 : mm_dec q74 87 = some (.bipush 112) := by decide +kernel
theorem d74_89 : mm_dec q74 89 = some (.if_icmp .ne 9) := by decide +kernel
theorem d74_92 : mm_dec q74 92 = some (.getstatic 70) := by decide +kernel
theorem d74_95 : mm_dec q74 95 = some (.goto 18) := by decide +kernel
theorem d74_98 : mm_dec q74 98 = some (.iload_n 1) := by decide +kernel
theorem d74_99 : mm_dec q74 99 = some (.bipush 103) := by decide +kernel
theorem d74_101 : mm_dec q74 101 = some (.if_icmp .ne 9) := by decide +kernel
theorem d74_104 : mm_dec q74 104 = some (.getstatic 74) := by decide +kernel
theorem d74_107 : mm_dec q74 107 = some (.goto 6) := by decide +kernel
theorem d74_110 : mm_dec q74 110 = some (.getstatic 77) := by decide +kernel
theorem d74_113 : mm_dec q74 113 = some (.invokevirtual 80) := by decide +kernel
theorem d74_116 : mm_dec q74 116 = some (.ireturn) := by decide +kernel
theorem d75_0 : mm_dec q75 0 = some (.iconst 0) := by decide +kernel
theorem d75_1 : mm_dec q75 1 = some (.istore_n 3) := by decide +kernel
theorem d75_2 : mm_dec q75 2 = some (.iconst 0) := by decide +kernel
theorem d75_3 : mm_dec q75 3 = some (.istore 4) := by decide +kernel
theorem d75_5 : mm_dec q75 5 = some (.iload 4) := by decide +kernel
theorem d75_7 : mm_dec q75 7 = some (.sipush 160) := by decide +kernel
theorem d75_10 : mm_dec q75 10 = some (.if_icmp .ge 152) := by decide +kernel
theorem d75_13 : mm_dec q75 13 = some (.aload_n 0) := by decide +kernel
theorem d75_14 : mm_dec q75 14 = some (.getfield 9) := by decide +kernel
theorem d75_17 : mm_dec q75 17 = some (.invokevirtual 41) := by decide +kernel
theorem d75_20 : mm_dec q75 20 = some (.aload_n 2) := by decide +kernel
theorem d75_21 : mm_dec q75 21 = some (.invokestatic 84) := by decide +kernel
theorem d75_24 : mm_dec q75 24 = some (.istore 5) := by decide +kernel
theorem d75_26 : mm_dec q75 26 = some (.iload 5) := by decide +kernel
theorem d75_28 : mm_dec q75 28 = some (.ifCond .lt 21) := by decide +kernel
theorem d75_31 : mm_dec q75 31 = some (.iload 5) := by decide +kernel
theorem d75_33 : mm_dec q75 33 = some (.aload_n 1) := by decide +kernel
theorem d75_34 : mm_dec q75 34 = some (.arraylength) := by decide +kernel
theorem d75_35 : mm_dec q75 35 = some (.if_icmp .ge 14) := by decide +kernel
theorem d75_38 : mm_dec q75 38 = some (.iconst 4) := by decide +kernel
theorem d75_39 : mm_dec q75 39 = some (.iload 5) := by decide +kernel
theorem d75_41 : mm_dec q75 41 = some (.imul) := by decide +kernel
theorem d75_42 : mm_dec q75 42 = some (.iconst 3) := by decide +kernel
theorem d75_43 : mm_dec q75 43 = some (.iadd) := by decide +kernel
theorem d75_44 : mm_dec q75 44 = some (.aload_n 2) := by decide +kernel
theorem d75_45 : mm_dec q75 45 = some (.arraylength) := by decide +kernel
theorem d75_46 : mm_dec q75 46 = some (.if_icmp .lt 5) := by decide +kernel
theorem d75_49 : mm_dec q75 49 = some (.iconst 1) := by decide +kernel
theorem d75_50 : mm_dec q75 50 = some (.ireturn) := by decide +kernel
