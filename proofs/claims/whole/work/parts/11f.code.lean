theorem d192_75 : mm_dec q192 75 = some (.aload_n 0) := by decide +kernel
theorem d192_76 : mm_dec q192 76 = some (.getfield 277) := by decide +kernel
theorem d192_79 : mm_dec q192 79 = some (.laload) := by decide +kernel
theorem d192_80 : mm_dec q192 80 = some (.putfield 333) := by decide +kernel
theorem d192_83 : mm_dec q192 83 = some (.aload_n 0) := by decide +kernel
theorem d192_84 : mm_dec q192 84 = some (.dup) := by decide +kernel
theorem d192_85 : mm_dec q192 85 = some (.getfield 274) := by decide +kernel
theorem d192_88 : mm_dec q192 88 = some (.iconst 1) := by decide +kernel
theorem d192_89 : mm_dec q192 89 = some (.isub) := by decide +kernel
theorem d192_90 : mm_dec q192 90 = some (.putfield 274) := by decide +kernel
theorem d192_93 : mm_dec q192 93 = some (.aload_n 0) := by decide +kernel
theorem d192_94 : mm_dec q192 94 = some (.getfield 274) := by decide +kernel
theorem d192_97 : mm_dec q192 97 = some (.ireturn) := by decide +kernel
theorem d193_0 : mm_dec q193 0 = some (.iconst 0) := by decide +kernel
theorem d193_1 : mm_dec q193 1 = some (.istore_n 1) := by decide +kernel
theorem d193_2 : mm_dec q193 2 = some (.iload_n 1) := by decide +kernel
theorem d193_3 : mm_dec q193 3 = some (.iconst 2) := by decide +kernel
theorem d193_4 : mm_dec q193 4 = some (.if_icmp .ge 33) := by decide +kernel
theorem d193_7 : mm_dec q193 7 = some (.aload_n 0) := by decide +kernel
theorem d193_8 : mm_dec q193 8 = some (.getfield 81) := by decide +kernel
theorem d193_11 : mm_dec q193 11 = some (.iload_n 1) := by decide +kernel
theorem d193_12 : mm_dec q193 12 = some (.aload_n 0) := by decide +kernel
theorem d193_13 : mm_dec q193 13 = some (.getfield 61) := by decide +kernel
theorem d193_16 : mm_dec q193 16 = some (.iload_n 1) := by decide +kernel
theorem d193_17 : mm_dec q193 17 = some (.iaload) := by decide +kernel
theorem d193_18 : mm_dec q193 18 = some (.iastore) := by decide +kernel
theorem d193_19 : mm_dec q193 19 = some (.aload_n 0) := by decide +kernel
theorem d193_20 : mm_dec q193 20 = some (.getfield 84) := by decide +kernel
theorem d193_23 : mm_dec q193 23 = some (.iload_n 1) := by decide +kernel
theorem d193_24 : mm_dec q193 24 = some (.aload_n 0) := by decide +kernel
theorem d193_25 : mm_dec q193 25 = some (.getfield 64) := by decide +kernel
theorem d193_28 : mm_dec q193 28 = some (.iload_n 1) := by decide +kernel
theorem d193_29 : mm_dec q193 29 = some (.iaload) := by decide +kernel
theorem d193_30 : mm_dec q193 30 = some (.iastore) := by decide +kernel
theorem d193_31 : mm_dec q193 31 = some (.iinc 1 1) := by decide +kernel
theorem d193_34 : mm_dec q193 34 = some (.goto (-32)) := by decide +kernel
theorem d193_37 : mm_dec q193 37 = some (.aload_n 0) := by decide +kernel
theorem d193_38 : mm_dec q193 38 = some (.aload_n 0) := by decide +kernel
theorem d193_39 : mm_dec q193 39 = some (.getfield 274) := by decide +kernel
theorem d193_42 : mm_dec q193 42 = some (.putfield 353) := by decide +kernel
theorem d193_45 : mm_dec q193 45 = some (.return_) := by decide +kernel
theorem d194_0 : mm_dec q194 0 = some (.iconst 0) := by decide +kernel
theorem d194_1 : mm_dec q194 1 = some (.istore_n 1) := by decide +kernel
theorem d194_2 : mm_dec q194 2 = some (.iload_n 1) := by decide +kernel
theorem d194_3 : mm_dec q194 3 = some (.iconst 2) := by decide +kernel
theorem d194_4 : mm_dec q194 4 = some (.if_icmp .ge 33) := by decide +kernel
theorem d194_7 : mm_dec q194 7 = some (.aload_n 0) := by decide +kernel
theorem d194_8 : mm_dec q194 8 = some (.getfield 61) := by decide +kernel
theorem d194_11 : mm_dec q194 11 = some (.iload_n 1) := by decide +kernel
theorem d194_12 : mm_dec q194 12 = some (.aload_n 0) := by decide +kernel
theorem d194_13 : mm_dec q194 13 = some (.getfield 81) := by decide +kernel
theorem d194_16 : mm_dec q194 16 = some (.iload_n 1) := by decide +kernel
theorem d194_17 : mm_dec q194 17 = some (.iaload) := by decide +kernel
theorem d194_18 : mm_dec q194 18 = some (.iastore) := by decide +kernel
theorem d194_19 : mm_dec q194 19 = some (.aload_n 0) := by decide +kernel
theorem d194_20 : mm_dec q194 20 = some (.getfield 64) := by decide +kernel
theorem d194_23 : mm_dec q194 23 = some (.iload_n 1) := by decide +kernel
theorem d194_24 : mm_dec q194 24 = some (.aload_n 0) := by decide +kernel
theorem d194_25 : mm_dec q194 25 = some (.getfield 84) := by decide +kernel
theorem d194_28 : mm_dec q194 28 = some (.iload_n 1) := by decide +kernel
theorem d194_29 : mm_dec q194 29 = some (.iaload) := by decide +kernel
theorem d194_30 : mm_dec q194 30 = some (.iastore) := by decide +kernel
theorem d194_31 : mm_dec q194 31 = some (.iinc 1 1) := by decide +kernel
theorem d194_34 : mm_dec q194 34 = some (.goto (-32)) := by decide +kernel
theorem d194_37 : mm_dec q194 37 = some (.aload_n 0) := by decide +kernel
theorem d194_38 : mm_dec q194 38 = some (.aload_n 0) := by decide +kernel
theorem d194_39 : mm_dec q194 39 = some (.getfield 353) := by decide +kernel
theorem d194_42 : mm_dec q194 42 = some (.putfield 274) := by decide +kernel
theorem d194_45 : mm_dec q194 45 = some (.return_) := by decide +kernel
theorem d195_0 : mm_dec q195 0 = some (.iconst 0) := by decide +kernel
theorem d195_1 : mm_dec q195 1 = some (.istore_n 2) := by decide +kernel
theorem d195_2 : mm_dec q195 2 = some (.iload_n 2) := by decide +kernel
theorem d195_3 : mm_dec q195 3 = some (.iload_n 1) := by decide +kernel
theorem d195_4 : mm_dec q195 4 = some (.if_icmp .ge 14) := by decide +kernel
theorem d195_7 : mm_dec q195 7 = some (.aload_n 0) := by decide +kernel
theorem d195_8 : mm_dec q195 8 = some (.iconst 0) := by decide +kernel
theorem d195_9 : mm_dec q195 9 = some (.invokevirtual 349) := by decide +kernel
theorem d195_12 : mm_dec q195 12 = some (.iinc 2 1) := by decide +kernel
theorem d195_15 : mm_dec q195 15 = some (.goto (-13)) := by decide +kernel
theorem d195_18 : mm_dec q195 18 = some (.return_) := by decide +kernel
theorem d196_0 : mm_dec q196 0 = some (.aload_n 0) := by decide +kernel
theorem d196_1 : mm_dec q196 1 = some (.iload_n 1) := by decide +kernel
theorem d196_2 : mm_dec q196 2 = some (.invokevirtual 327) := by decide +kernel
theorem d196_5 : mm_dec q196 5 = some (.ifCond .eq 20) := by decide +kernel
theorem d196_8 : mm_dec q196 8 = some (.aload_n 0) := by decide +kernel
theorem d196_9 : mm_dec q196 9 = some (.iload_n 2) := by decide +kernel
theorem d196_10 : mm_dec q196 10 = some (.invokevirtual 337) := by decide +kernel
theorem d196_13 : mm_dec q196 13 = some (.ifCond .eq 12) := by decide +kernel
theorem d196_16 : mm_dec q196 16 = some (.iload_n 3) := by decide +kernel
theorem d196_17 : mm_dec q196 17 = some (.iconst 0) := by decide +kernel
theorem d196_18 : mm_dec q196 18 = some (.iconst 1) := by decide +kernel
theorem d196_19 : mm_dec q196 19 = some (.invokestatic 218) := by decide +kernel
theorem d196_22 : mm_dec q196 22 = some (.ifCond .ne 5) := by decide +kernel
theorem d196_25 : mm_dec q196 25 = some (.iconst (-1)) := by decide +kernel
theorem d196_26 : mm_dec q196 26 = some (.ireturn) := by decide +kernel
theorem d196_27 : mm_dec q196 27 = some (.aload_n 0) := by decide +kernel
theorem d196_28 : mm_dec q196 28 = some (.invokevirtual 356) := by decide +kernel
theorem d196_31 : mm_dec q196 31 = some (.aload_n 0) := by decide +kernel
theorem d196_32 : mm_dec q196 32 = some (.iload_n 2) := by decide +kernel
theorem d196_33 : mm_dec q196 33 = some (.invokevirtual 359) := by decide +kernel
theorem d196_36 : mm_dec q196 36 = some (.iload_n 3) := by decide +kernel
theorem d196_37 : mm_dec q196 37 = some (.ifCond .ne 12) := by decide +kernel
theorem d196_40 : mm_dec q196 40 = some (.aload_n 0) := by decide +kernel
theorem d196_41 : mm_dec q196 41 = some (.getfield 61) := by decide +kernel
theorem d196_44 : mm_dec q196 44 = some (.iload_n 1) := by decide +kernel
theorem d196_45 : mm_dec q196 45 = some (.iaload) := by decide +kernel
theorem d196_46 : mm_dec q196 46 = some (.goto 16) := by decide +kernel
theorem d196_49 : mm_dec q196 49 = some (.aload_n 0) := by decide +kernel
theorem d196_50 : mm_dec q196 50 = some (.getfield 64) := by decide +kernel
theorem d196_53 : mm_dec q196 53 = some (.iload_n 1) := by decide +kernel
theorem d196_54 : mm_dec q196 54 = some (.iaload) := by decide +kernel
theorem d196_55 : mm_dec q196 55 = some (.aload_n 0) := by decide +kernel
theorem d196_56 : mm_dec q196 56 = some (.getfield 84) := by decide +kernel
theorem d196_59 : mm_dec q196 59 = some (.iload_n 1) := by decide +kernel
theorem d196_60 : mm_dec q196 60 = some (.iaload) := by decide +kernel
theorem d196_61 : mm_dec q196 61 = some (.isub) := by decide +kernel
theorem d196_62 : mm_dec q196 62 = some (.istore 4) := by decide +kernel
theorem d196_64 : mm_dec q196 64 = some (.aload_n 0) := by decide +kernel
theorem d196_65 : mm_dec q196 65 = some (.invokevirtual 362) := by decide +kernel
theorem d196_68 : mm_dec q196 68 = some (.iload 4) := by decide +kernel
theorem d196_70 : mm_dec q196 70 = some (.ireturn) := by decide +kernel
theorem d197_0 : mm_dec q197 0 = some (.aload_n 0) := by decide +kernel
theorem d197_1 : mm_dec q197 1 = some (.iload_n 1) := by decide +kernel
theorem d197_2 : mm_dec q197 2 = some (.invokevirtual 327) := by decide +kernel
theorem d197_5 : mm_dec q197 5 = some (.ifCond .eq 7) := by decide +kernel
theorem d197_8 : mm_dec q197 8 = some (.iload_n 2) := by decide +kernel
theorem d197_9 : mm_dec q197 9 = some (.ifCond .ge 5) := by decide +kernel
theorem d197_12 : mm_dec q197 12 = some (.iconst (-1)) := by decide +kernel
theorem d197_13 : mm_dec q197 13 = some (.ireturn) := by decide +kernel
theorem d197_14 : mm_dec q197 14 = some (.aload_n 0) := by decide +kernel
theorem d197_15 : mm_dec q197 15 = some (.invokevirtual 356) := by decide +kernel
theorem d197_18 : mm_dec q197 18 = some (.iconst 0) := by decide +kernel
theorem d197_19 : mm_dec q197 19 = some (.istore_n 3) := by decide +kernel
theorem d197_20 : mm_dec q197 20 = some (.iconst (-1)) := by decide +kernel
theorem d197_21 : mm_dec q197 21 = some (.istore 4) := by decide +kernel
theorem d197_23 : mm_dec q197 23 = some (.iconst 0) := by decide +kernel
theorem d197_24 : mm_dec q197 24 = some (.istore 5) := by decide +kernel
theorem d197_26 : mm_dec q197 26 = some (.iload 5) := by decide +kernel
theorem d197_28 : mm_dec q197 28 = some (.sipush 240) := by decide +kernel
theorem d197_31 : mm_dec q197 31 = some (.if_icmp .ge 45) := by decide +kernel
theorem d197_34 : mm_dec q197 34 = some (.iload 4) := by decide +kernel
theorem d197_36 : mm_dec q197 36 = some (.iconst (-1)) := by decide +kernel
theorem d197_37 : mm_dec q197 37 = some (.if_icmp .ne 39) := by decide +kernel
theorem d197_40 : mm_dec q197 40 = some (.aload_n 0) := by decide +kernel
theorem d197_41 : mm_dec q197 41 = some (.iconst 0) := by decide +kernel
theorem d197_42 : mm_dec q197 42 = some (.invokevirtual 349) := by decide +kernel
theorem d197_45 : mm_dec q197 45 = some (.aload_n 0) := by decide +kernel
theorem d197_46 : mm_dec q197 46 = some (.getfield 67) := by decide +kernel
theorem d197_49 : mm_dec q197 49 = some (.iload_n 1) := by decide +kernel
theorem d197_50 : mm_dec q197 50 = some (.baload) := by decide +kernel
theorem d197_51 : mm_dec q197 51 = some (.ifCond .eq 19) := by decide +kernel
theorem d197_54 : mm_dec q197 54 = some (.iload_n 3) := by decide +kernel
theorem d197_55 : mm_dec q197 55 = some (.iload_n 2) := by decide +kernel
theorem d197_56 : mm_dec q197 56 = some (.if_icmp .ne 8) := by decide +kernel
theorem d197_59 : mm_dec q197 59 = some (.iload 5) := by decide +kernel
theorem d197_61 : mm_dec q197 61 = some (.goto 4) := by decide +kernel
theorem d197_64 : mm_dec q197 64 = some (.iconst (-1)) := by decide +kernel
theorem d197_65 : mm_dec q197 65 = some (.istore 4) := by decide +kernel
theorem d197_67 : mm_dec q197 67 = some (.iinc 3 1) := by decide +kernel
theorem d197_70 : mm_dec q197 70 = some (.iinc 5 1) := by decide +kernel
theorem d197_73 : mm_dec q197 73 = some (.goto (-47)) := by decide +kernel
theorem d197_76 : mm_dec q197 76 = some (.aload_n 0) := by decide +kernel
theorem d197_77 : mm_dec q197 77 = some (.invokevirtual 362) := by decide +kernel
theorem d197_80 : mm_dec q197 80 = some (.iload 4) := by decide +kernel
theorem d197_82 : mm_dec q197 82 = some (.ireturn) := by decide +kernel
theorem d198_0 : mm_dec q198 0 = some (.aload_n 0) := by decide +kernel
theorem d198_1 : mm_dec q198 1 = some (.invokevirtual 356) := by decide +kernel
theorem d198_4 : mm_dec q198 4 = some (.iconst 0) := by decide +kernel
theorem d198_5 : mm_dec q198 5 = some (.istore_n 3) := by decide +kernel
theorem d198_6 : mm_dec q198 6 = some (.iconst 0) := by decide +kernel
theorem d198_7 : mm_dec q198 7 = some (.istore 4) := by decide +kernel
theorem d198_9 : mm_dec q198 9 = some (.iload 4) := by decide +kernel
theorem d198_11 : mm_dec q198 11 = some (.iload_n 2) := by decide +kernel
theorem d198_12 : mm_dec q198 12 = some (.if_icmp .ge 23) := by decide +kernel
theorem d198_15 : mm_dec q198 15 = some (.aload_n 0) := by decide +kernel
theorem d198_16 : mm_dec q198 16 = some (.iconst 0) := by decide +kernel
theorem d198_17 : mm_dec q198 17 = some (.invokevirtual 349) := by decide +kernel
theorem d198_20 : mm_dec q198 20 = some (.iload_n 3) := by decide +kernel
theorem d198_21 : mm_dec q198 21 = some (.aload_n 0) := by decide +kernel
theorem d198_22 : mm_dec q198 22 = some (.getfield 61) := by decide +kernel
theorem d198_25 : mm_dec q198 25 = some (.iload_n 1) := by decide +kernel
theorem d198_26 : mm_dec q198 26 = some (.iaload) := by decide +kernel
theorem d198_27 : mm_dec q198 27 = some (.iadd) := by decide +kernel
theorem d198_28 : mm_dec q198 28 = some (.istore_n 3) := by decide +kernel
theorem d198_29 : mm_dec q198 29 = some (.iinc 4 1) := by decide +kernel
theorem d198_32 : mm_dec q198 32 = some (.goto (-23)) := by decide +kernel
theorem d198_35 : mm_dec q198 35 = some (.aload_n 0) := by decide +kernel
theorem d198_36 : mm_dec q198 36 = some (.invokevirtual 362) := by decide +kernel
theorem d198_39 : mm_dec q198 39 = some (.iload_n 3) := by decide +kernel
theorem d198_40 : mm_dec q198 40 = some (.ireturn) := by decide +kernel
theorem d199_0 : mm_dec q199 0 = some (.aload_n 0) := by decide +kernel
theorem d199_1 : mm_dec q199 1 = some (.iload_n 1) := by decide +kernel
theorem d199_2 : mm_dec q199 2 = some (.invokevirtual 327) := by decide +kernel
theorem d199_5 : mm_dec q199 5 = some (.ifCond .eq 20) := by decide +kernel
theorem d199_8 : mm_dec q199 8 = some (.aload_n 0) := by decide +kernel
theorem d199_9 : mm_dec q199 9 = some (.iload_n 2) := by decide +kernel
theorem d199_10 : mm_dec q199 10 = some (.invokevirtual 337) := by decide +kernel
theorem d199_13 : mm_dec q199 13 = some (.ifCond .eq 12) := by decide +kernel
theorem d199_16 : mm_dec q199 16 = some (.aload_n 0) := by decide +kernel
theorem d199_17 : mm_dec q199 17 = some (.iload_n 1) := by decide +kernel
theorem d199_18 : mm_dec q199 18 = some (.iload_n 2) := by decide +kernel
theorem d199_19 : mm_dec q199 19 = some (.invokevirtual 365) := by decide +kernel
theorem d199_22 : mm_dec q199 22 = some (.goto 4) := by decide +kernel
theorem d199_25 : mm_dec q199 25 = some (.iconst (-1)) := by decide +kernel
theorem d199_26 : mm_dec q199 26 = some (.ireturn) := by decide +kernel
theorem d200_0 : mm_dec q200 0 = some (.aload_n 0) := by decide +kernel
theorem d200_1 : mm_dec q200 1 = some (.iload_n 1) := by decide +kernel
theorem d200_2 : mm_dec q200 2 = some (.invokevirtual 327) := by decide +kernel
theorem d200_5 : mm_dec q200 5 = some (.ifCond .eq 11) := by decide +kernel
theorem d200_8 : mm_dec q200 8 = some (.aload_n 0) := by decide +kernel
theorem d200_9 : mm_dec q200 9 = some (.iload_n 2) := by decide +kernel
theorem d200_10 : mm_dec q200 10 = some (.invokevirtual 337) := by decide +kernel
theorem d200_13 : mm_dec q200 13 = some (.ifCond .ne 5) := by decide +kernel
theorem d200_16 : mm_dec q200 16 = some (.iconst (-1)) := by decide +kernel
theorem d200_17 : mm_dec q200 17 = some (.ireturn) := by decide +kernel
theorem d200_18 : mm_dec q200 18 = some (.aload_n 0) := by decide +kernel
theorem d200_19 : mm_dec q200 19 = some (.invokevirtual 356) := by decide +kernel
theorem d200_22 : mm_dec q200 22 = some (.iconst 0) := by decide +kernel
theorem d200_23 : mm_dec q200 23 = some (.istore_n 3) := by decide +kernel
theorem d200_24 : mm_dec q200 24 = some (.iconst 0) := by decide +kernel
theorem d200_25 : mm_dec q200 25 = some (.istore 4) := by decide +kernel
theorem d200_27 : mm_dec q200 27 = some (.iconst 0) := by decide +kernel
theorem d200_28 : mm_dec q200 28 = some (.istore 5) := by decide +kernel
theorem d200_30 : mm_dec q200 30 = some (.iload 5) := by decide +kernel
theorem d200_32 : mm_dec q200 32 = some (.iload_n 2) := by decide +kernel
theorem d200_33 : mm_dec q200 33 = some (.if_icmp .ge 40) := by decide +kernel
theorem d200_36 : mm_dec q200 36 = some (.aload_n 0) := by decide +kernel
theorem d200_37 : mm_dec q200 37 = some (.iconst 0) := by decide +kernel
theorem d200_38 : mm_dec q200 38 = some (.invokevirtual 349) := by decide +kernel
theorem d200_41 : mm_dec q200 41 = some (.aload_n 0) := by decide +kernel
theorem d200_42 : mm_dec q200 42 = some (.getfield 67) := by decide +kernel
theorem d200_45 : mm_dec q200 45 = some (.iload_n 1) := by decide +kernel
theorem d200_46 : mm_dec q200 46 = some (.baload) := by decide +kernel
theorem d200_47 : mm_dec q200 47 = some (.ifCond .eq 10) := by decide +kernel
theorem d200_50 : mm_dec q200 50 = some (.iload 4) := by decide +kernel
theorem d200_52 : mm_dec q200 52 = some (.iconst 1) := by decide +kernel
theorem d200_53 : mm_dec q200 53 = some (.iadd) := by decide +kernel
theorem d200_54 : mm_dec q200 54 = some (.goto 4) := by decide +kernel
theorem d200_57 : mm_dec q200 57 = some (.iconst 0) := by decide +kernel
theorem d200_58 : mm_dec q200 58 = some (.istore 4) := by decide +kernel
theorem d200_60 : mm_dec q200 60 = some (.iload_n 3) := by decide +kernel
theorem d200_61 : mm_dec q200 61 = some (.iload 4) := by decide +kernel
theorem d200_63 : mm_dec q200 63 = some (.invokestatic 368) := by decide +kernel
theorem d200_66 : mm_dec q200 66 = some (.istore_n 3) := by decide +kernel
theorem d200_67 : mm_dec q200 67 = some (.iinc 5 1) := by decide +kernel
theorem d200_70 : mm_dec q200 70 = some (.goto (-40)) := by decide +kernel
theorem d200_73 : mm_dec q200 73 = some (.aload_n 0) := by decide +kernel
theorem d200_74 : mm_dec q200 74 = some (.invokevirtual 362) := by decide +kernel
theorem d200_77 : mm_dec q200 77 = some (.iload_n 3) := by decide +kernel
theorem d200_78 : mm_dec q200 78 = some (.ireturn) := by decide +kernel
theorem d201_0 : mm_dec q201 0 = some (.aload_n 0) := by decide +kernel
theorem d201_1 : mm_dec q201 1 = some (.iload_n 1) := by decide +kernel
theorem d201_2 : mm_dec q201 2 = some (.invokevirtual 324) := by decide +kernel
theorem d201_5 : mm_dec q201 5 = some (.ifCond .eq 11) := by decide +kernel
theorem d201_8 : mm_dec q201 8 = some (.aload_n 0) := by decide +kernel
theorem d201_9 : mm_dec q201 9 = some (.iload_n 2) := by decide +kernel
theorem d201_10 : mm_dec q201 10 = some (.invokevirtual 337) := by decide +kernel
theorem d201_13 : mm_dec q201 13 = some (.ifCond .ne 5) := by decide +kernel
theorem d201_16 : mm_dec q201 16 = some (.iconst (-1)) := by decide +kernel
theorem d201_17 : mm_dec q201 17 = some (.ireturn) := by decide +kernel
theorem d201_18 : mm_dec q201 18 = some (.aload_n 0) := by decide +kernel
theorem d201_19 : mm_dec q201 19 = some (.invokevirtual 356) := by decide +kernel
theorem d201_22 : mm_dec q201 22 = some (.aload_n 0) := by decide +kernel
theorem d201_23 : mm_dec q201 23 = some (.iload_n 2) := by decide +kernel
theorem d201_24 : mm_dec q201 24 = some (.invokevirtual 359) := by decide +kernel
theorem d201_27 : mm_dec q201 27 = some (.iconst 0) := by decide +kernel
theorem d201_28 : mm_dec q201 28 = some (.istore_n 3) := by decide +kernel
theorem d201_29 : mm_dec q201 29 = some (.iconst 0) := by decide +kernel
theorem d201_30 : mm_dec q201 30 = some (.istore 4) := by decide +kernel
theorem d201_32 : mm_dec q201 32 = some (.iload 4) := by decide +kernel
theorem d201_34 : mm_dec q201 34 = some (.aload_n 0) := by decide +kernel
theorem d201_35 : mm_dec q201 35 = some (.getfield 268) := by decide +kernel
theorem d201_38 : mm_dec q201 38 = some (.if_icmp .ge 55) := by decide +kernel
theorem d201_41 : mm_dec q201 41 = some (.iload_n 3) := by decide +kernel
theorem d201_42 : mm_dec q201 42 = some (.aload_n 0) := by decide +kernel
theorem d201_43 : mm_dec q201 43 = some (.getfield 49) := by decide +kernel
theorem d201_46 : mm_dec q201 46 = some (.iconst 4) := by decide +kernel
theorem d201_47 : mm_dec q201 47 = some (.iload_n 1) := by decide +kernel
theorem d201_48 : mm_dec q201 48 = some (.imul) := by decide +kernel
theorem d201_49 : mm_dec q201 49 = some (.iconst 3) := by decide +kernel
theorem d201_50 : mm_dec q201 50 = some (.iadd) := by decide +kernel
theorem d201_51 : mm_dec q201 51 = some (.iaload) := by decide +kernel
theorem d201_52 : mm_dec q201 52 = some (.aload_n 0) := by decide +kernel
theorem d201_53 : mm_dec q201 53 = some (.getfield 55) := by decide +kernel
theorem d201_56 : mm_dec q201 56 = some (.iconst 3) := by decide +kernel
theorem d201_57 : mm_dec q201 57 = some (.iload 4) := by decide +kernel
theorem d201_59 : mm_dec q201 59 = some (.imul) := by decide +kernel
theorem d201_60 : mm_dec q201 60 = some (.iconst 2) := by decide +kernel
theorem d201_61 : mm_dec q201 61 = some (.iadd) := by decide +kernel
theorem d201_62 : mm_dec q201 62 = some (.iaload) := by decide +kernel
theorem d201_63 : mm_dec q201 63 = some (.if_icmp .gt 21) := by decide +kernel
theorem d201_66 : mm_dec q201 66 = some (.aload_n 0) := by decide +kernel
theorem d201_67 : mm_dec q201 67 = some (.getfield 64) := by decide +kernel
theorem d201_70 : mm_dec q201 70 = some (.iload 4) := by decide +kernel
theorem d201_72 : mm_dec q201 72 = some (.iaload) := by decide +kernel
theorem d201_73 : mm_dec q201 73 = some (.aload_n 0) := by decide +kernel
theorem d201_74 : mm_dec q201 74 = some (.getfield 84) := by decide +kernel
theorem d201_77 : mm_dec q201 77 = some (.iload 4) := by decide +kernel
theorem d201_79 : mm_dec q201 79 = some (.iaload) := by decide +kernel
theorem d201_80 : mm_dec q201 80 = some (.isub) := by decide +kernel
theorem d201_81 : mm_dec q201 81 = some (.goto 4) := by decide +kernel
theorem d201_84 : mm_dec q201 84 = some (.iconst 0) := by decide +kernel
theorem d201_85 : mm_dec q201 85 = some (.iadd) := by decide +kernel
theorem d201_86 : mm_dec q201 86 = some (.istore_n 3) := by decide +kernel
theorem d201_87 : mm_dec q201 87 = some (.iinc 4 1) := by decide +kernel
theorem d201_90 : mm_dec q201 90 = some (.goto (-58)) := by decide +kernel
theorem d201_93 : mm_dec q201 93 = some (.aload_n 0) := by decide +kernel
theorem d201_94 : mm_dec q201 94 = some (.invokevirtual 362) := by decide +kernel
theorem d201_97 : mm_dec q201 97 = some (.iload_n 3) := by decide +kernel
theorem d201_98 : mm_dec q201 98 = some (.ireturn) := by decide +kernel
theorem d202_0 : mm_dec q202 0 = some (.aload_n 0) := by decide +kernel
theorem d202_1 : mm_dec q202 1 = some (.iload_n 1) := by decide +kernel
theorem d202_2 : mm_dec q202 2 = some (.invokevirtual 337) := by decide +kernel
theorem d202_5 : mm_dec q202 5 = some (.ifCond .eq 12) := by decide +kernel
theorem d202_8 : mm_dec q202 8 = some (.iload_n 2) := by decide +kernel
theorem d202_9 : mm_dec q202 9 = some (.iconst 0) := by decide +kernel
theorem d202_10 : mm_dec q202 10 = some (.iconst 1) := by decide +kernel
theorem d202_11 : mm_dec q202 11 = some (.invokestatic 218) := by decide +kernel
theorem d202_14 : mm_dec q202 14 = some (.ifCond .ne 5) := by decide +kernel
theorem d202_17 : mm_dec q202 17 = some (.iconst (-1)) := by decide +kernel
theorem d202_18 : mm_dec q202 18 = some (.ireturn) := by decide +kernel
theorem d202_19 : mm_dec q202 19 = some (.aload_n 0) := by decide +kernel
theorem d202_20 : mm_dec q202 20 = some (.invokevirtual 356) := by decide +kernel
theorem d202_23 : mm_dec q202 23 = some (.iconst 0) := by decide +kernel
theorem d202_24 : mm_dec q202 24 = some (.istore_n 3) := by decide +kernel
theorem d202_25 : mm_dec q202 25 = some (.iconst 0) := by decide +kernel
theorem d202_26 : mm_dec q202 26 = some (.istore 4) := by decide +kernel
theorem d202_28 : mm_dec q202 28 = some (.iconst 0) := by decide +kernel
theorem d202_29 : mm_dec q202 29 = some (.istore 5) := by decide +kernel
theorem d202_31 : mm_dec q202 31 = some (.iconst 0) := by decide +kernel
theorem d202_32 : mm_dec q202 32 = some (.istore 6) := by decide +kernel
theorem d202_34 : mm_dec q202 34 = some (.iload 6) := by decide +kernel
theorem d202_36 : mm_dec q202 36 = some (.iload_n 1) := by decide +kernel
theorem d202_37 : mm_dec q202 37 = some (.if_icmp .ge 55) := by decide +kernel
theorem d202_40 : mm_dec q202 40 = some (.aload_n 0) := by decide +kernel
theorem d202_41 : mm_dec q202 41 = some (.iconst 0) := by decide +kernel
theorem d202_42 : mm_dec q202 42 = some (.invokevirtual 349) := by decide +kernel
theorem d202_45 : mm_dec q202 45 = some (.iload_n 3) := by decide +kernel
theorem d202_46 : mm_dec q202 46 = some (.aload_n 0) := by decide +kernel
theorem d202_47 : mm_dec q202 47 = some (.getfield 321) := by decide +kernel
theorem d202_50 : mm_dec q202 50 = some (.ifCond .eq 7) := by decide +kernel
theorem d202_53 : mm_dec q202 53 = some (.iconst 1) := by decide +kernel
theorem d202_54 : mm_dec q202 54 = some (.goto 4) := by decide +kernel
theorem d202_57 : mm_dec q202 57 = some (.iconst 0) := by decide +kernel
theorem d202_58 : mm_dec q202 58 = some (.iadd) := by decide +kernel
theorem d202_59 : mm_dec q202 59 = some (.istore_n 3) := by decide +kernel
theorem d202_60 : mm_dec q202 60 = some (.aload_n 0) := by decide +kernel
theorem d202_61 : mm_dec q202 61 = some (.getfield 321) := by decide +kernel
theorem d202_64 : mm_dec q202 64 = some (.ifCond .eq 7) := by decide +kernel
theorem d202_67 : mm_dec q202 67 = some (.iconst 0) := by decide +kernel
theorem d202_68 : mm_dec q202 68 = some (.goto 7) := by decide +kernel
theorem d202_71 : mm_dec q202 71 = some (.iload 5) := by decide +kernel
theorem d202_73 : mm_dec q202 73 = some (.iconst 1) := by decide +kernel
theorem d202_74 : mm_dec q202 74 = some (.iadd) := by decide +kernel
theorem d202_75 : mm_dec q202 75 = some (.istore 5) := by decide +kernel
theorem d202_77 : mm_dec q202 77 = some (.iload 4) := by decide +kernel
theorem d202_79 : mm_dec q202 79 = some (.iload 5) := by decide +kernel
theorem d202_81 : mm_dec q202 81 = some (.invokestatic 368) := by decide +kernel
theorem d202_84 : mm_dec q202 84 = some (.istore 4) := by decide +kernel
theorem d202_86 : mm_dec q202 86 = some (.iinc 6 1) := by decide +kernel
theorem d202_89 : mm_dec q202 89 = some (.goto (-55)) := by decide +kernel
theorem d202_92 : mm_dec q202 92 = some (.aload_n 0) := by decide +kernel
theorem d202_93 : mm_dec q202 93 = some (.invokevirtual 362) := by decide +kernel
theorem d202_96 : mm_dec q202 96 = some (.iload_n 2) := by decide +kernel
theorem d202_97 : mm_dec q202 97 = some (.ifCond .ne 7) := by decide +kernel
theorem d202_100 : mm_dec q202 100 = some (.iload_n 3) := by decide +kernel
theorem d202_101 : mm_dec q202 101 = some (.goto 5) := by decide +kernel
theorem d202_104 : mm_dec q202 104 = some (.iload 4) := by decide +kernel
theorem d202_106 : mm_dec q202 106 = some (.ireturn) := by decide +kernel
theorem d203_0 : mm_dec q203 0 = some (.aload_n 0) := by decide +kernel
theorem d203_1 : mm_dec q203 1 = some (.invokevirtual 356) := by decide +kernel
theorem d203_4 : mm_dec q203 4 = some (.aload_n 0) := by decide +kernel
theorem d203_5 : mm_dec q203 5 = some (.iload_n 1) := by decide +kernel
theorem d203_6 : mm_dec q203 6 = some (.invokevirtual 359) := by decide +kernel
theorem d203_9 : mm_dec q203 9 = some (.iload_n 2) := by decide +kernel
theorem d203_10 : mm_dec q203 10 = some (.ifCond .ne 12) := by decide +kernel
theorem d203_13 : mm_dec q203 13 = some (.aload_n 0) := by decide +kernel
theorem d203_14 : mm_dec q203 14 = some (.getfield 61) := by decide +kernel
theorem d203_17 : mm_dec q203 17 = some (.iconst 0) := by decide +kernel
theorem d203_18 : mm_dec q203 18 = some (.iaload) := by decide +kernel
theorem d203_19 : mm_dec q203 19 = some (.goto 16) := by decide +kernel
theorem d203_22 : mm_dec q203 22 = some (.aload_n 0) := by decide +kernel
theorem d203_23 : mm_dec q203 23 = some (.getfield 64) := by decide +kernel
theorem d203_26 : mm_dec q203 26 = some (.iconst 0) := by decide +kernel
theorem d203_27 : mm_dec q203 27 = some (.iaload) := by decide +kernel
theorem d203_28 : mm_dec q203 28 = some (.aload_n 0) := by decide +kernel
theorem d203_29 : mm_dec q203 29 = some (.getfield 84) := by decide +kernel
theorem d203_32 : mm_dec q203 32 = some (.iconst 0) := by decide +kernel
theorem d203_33 : mm_dec q203 33 = some (.iaload) := by decide +kernel
theorem d203_34 : mm_dec q203 34 = some (.isub) := by decide +kernel
theorem d203_35 : mm_dec q203 35 = some (.istore_n 3) := by decide +kernel
theorem d203_36 : mm_dec q203 36 = some (.aload_n 0) := by decide +kernel
theorem d203_37 : mm_dec q203 37 = some (.invokevirtual 362) := by decide +kernel
theorem d203_40 : mm_dec q203 40 = some (.iload_n 3) := by decide +kernel
theorem d203_41 : mm_dec q203 41 = some (.ireturn) := by decide +kernel
theorem d204_0 : mm_dec q204 0 = some (.aload_n 0) := by decide +kernel
theorem d204_1 : mm_dec q204 1 = some (.iload_n 1) := by decide +kernel
theorem d204_2 : mm_dec q204 2 = some (.invokevirtual 337) := by decide +kernel
theorem d204_5 : mm_dec q204 5 = some (.ifCond .ne 5) := by decide +kernel
theorem d204_8 : mm_dec q204 8 = some (.iconst (-1)) := by decide +kernel
theorem d204_9 : mm_dec q204 9 = some (.ireturn) := by decide +kernel
theorem d204_10 : mm_dec q204 10 = some (.iconst (-1)) := by decide +kernel
theorem d204_11 : mm_dec q204 11 = some (.istore_n 2) := by decide +kernel
theorem d204_12 : mm_dec q204 12 = some (.iconst 0) := by decide +kernel
theorem d204_13 : mm_dec q204 13 = some (.istore_n 3) := by decide +kernel
theorem d204_14 : mm_dec q204 14 = some (.iload_n 3) := by decide +kernel
theorem d204_15 : mm_dec q204 15 = some (.iconst 1) := by decide +kernel
theorem d204_16 : mm_dec q204 16 = some (.aload_n 0) := by decide +kernel
theorem d204_17 : mm_dec q204 17 = some (.getfield 265) := by decide +kernel
theorem d204_20 : mm_dec q204 20 = some (.ishl) := by decide +kernel
theorem d204_21 : mm_dec q204 21 = some (.if_icmp .ge 45) := by decide +kernel
theorem d204_24 : mm_dec q204 24 = some (.iload_n 2) := by decide +kernel
theorem d204_25 : mm_dec q204 25 = some (.iconst (-1)) := by decide +kernel
theorem d204_26 : mm_dec q204 26 = some (.if_icmp .eq 14) := by decide +kernel
theorem d204_29 : mm_dec q204 29 = some (.iload_n 3) := by decide +kernel
theorem d204_30 : mm_dec q204 30 = some (.invokestatic 370) := by decide +kernel
theorem d204_33 : mm_dec q204 33 = some (.iload_n 2) := by decide +kernel
theorem d204_34 : mm_dec q204 34 = some (.invokestatic 370) := by decide +kernel
theorem d204_37 : mm_dec q204 37 = some (.if_icmp .ge 23) := by decide +kernel
theorem d204_40 : mm_dec q204 40 = some (.aload_n 0) := by decide +kernel
theorem d204_41 : mm_dec q204 41 = some (.iload_n 3) := by decide +kernel
theorem d204_42 : mm_dec q204 42 = some (.putfield 298) := by decide +kernel
theorem d204_45 : mm_dec q204 45 = some (.aload_n 0) := by decide +kernel
theorem d204_46 : mm_dec q204 46 = some (.iload_n 1) := by decide +kernel
theorem d204_47 : mm_dec q204 47 = some (.iconst 0) := by decide +kernel
theorem d204_48 : mm_dec q204 48 = some (.invokevirtual 375) := by decide +kernel
theorem d204_51 : mm_dec q204 51 = some (.ifCond .ne 7) := by decide +kernel
theorem d204_54 : mm_dec q204 54 = some (.iload_n 3) := by decide +kernel
theorem d204_55 : mm_dec q204 55 = some (.goto 4) := by decide +kernel
theorem d204_58 : mm_dec q204 58 = some (.iload_n 2) := by decide +kernel
theorem d204_59 : mm_dec q204 59 = some (.istore_n 2) := by decide +kernel
theorem d204_60 : mm_dec q204 60 = some (.iinc 3 1) := by decide +kernel
theorem d204_63 : mm_dec q204 63 = some (.goto (-49)) := by decide +kernel
theorem d204_66 : mm_dec q204 66 = some (.aload_n 0) := by decide +kernel
theorem d204_67 : mm_dec q204 67 = some (.iconst 0) := by decide +kernel
theorem d204_68 : mm_dec q204 68 = some (.putfield 298) := by decide +kernel
theorem d204_71 : mm_dec q204 71 = some (.iload_n 2) := by decide +kernel
theorem d204_72 : mm_dec q204 72 = some (.ireturn) := by decide +kernel
theorem d205_0 : mm_dec q205 0 = some (.aload_n 0) := by decide +kernel
theorem d205_1 : mm_dec q205 1 = some (.iload_n 1) := by decide +kernel
theorem d205_2 : mm_dec q205 2 = some (.invokevirtual 337) := by decide +kernel
theorem d205_5 : mm_dec q205 5 = some (.ifCond .ne 5) := by decide +kernel
theorem d205_8 : mm_dec q205 8 = some (.iconst (-1)) := by decide +kernel
theorem d205_9 : mm_dec q205 9 = some (.ireturn) := by decide +kernel
theorem d205_10 : mm_dec q205 10 = some (.iconst (-1)) := by decide +kernel
theorem d205_11 : mm_dec q205 11 = some (.istore_n 2) := by decide +kernel
theorem d205_12 : mm_dec q205 12 = some (.iconst 0) := by decide +kernel
theorem d205_13 : mm_dec q205 13 = some (.istore_n 3) := by decide +kernel
theorem d205_14 : mm_dec q205 14 = some (.iload_n 3) := by decide +kernel
theorem d205_15 : mm_dec q205 15 = some (.iconst 1) := by decide +kernel
theorem d205_16 : mm_dec q205 16 = some (.aload_n 0) := by decide +kernel
theorem d205_17 : mm_dec q205 17 = some (.getfield 265) := by decide +kernel
theorem d205_20 : mm_dec q205 20 = some (.ishl) := by decide +kernel
theorem d205_21 : mm_dec q205 21 = some (.if_icmp .ge 45) := by decide +kernel
theorem d205_24 : mm_dec q205 24 = some (.iload_n 2) := by decide +kernel
theorem d205_25 : mm_dec q205 25 = some (.iconst (-1)) := by decide +kernel
theorem d205_26 : mm_dec q205 26 = some (.if_icmp .eq 14) := by decide +kernel
theorem d205_29 : mm_dec q205 29 = some (.iload_n 3) := by decide +kernel
theorem d205_30 : mm_dec q205 30 = some (.invokestatic 370) := by decide +kernel
theorem d205_33 : mm_dec q205 33 = some (.iload_n 2) := by decide +kernel
theorem d205_34 : mm_dec q205 34 = some (.invokestatic 370) := by decide +kernel
theorem d205_37 : mm_dec q205 37 = some (.if_icmp .ge 23) := by decide +kernel
theorem d205_40 : mm_dec q205 40 = some (.aload_n 0) := by decide +kernel
theorem d205_41 : mm_dec q205 41 = some (.iload_n 3) := by decide +kernel
theorem d205_42 : mm_dec q205 42 = some (.putfield 295) := by decide +kernel
theorem d205_45 : mm_dec q205 45 = some (.aload_n 0) := by decide +kernel
theorem d205_46 : mm_dec q205 46 = some (.iload_n 1) := by decide +kernel
theorem d205_47 : mm_dec q205 47 = some (.iconst 1) := by decide +kernel
theorem d205_48 : mm_dec q205 48 = some (.invokevirtual 375) := by decide +kernel
theorem d205_51 : mm_dec q205 51 = some (.ifCond .ne 7) := by decide +kernel
theorem d205_54 : mm_dec q205 54 = some (.iload_n 3) := by decide +kernel
theorem d205_55 : mm_dec q205 55 = some (.goto 4) := by decide +kernel
theorem d205_58 : mm_dec q205 58 = some (.iload_n 2) := by decide +kernel
theorem d205_59 : mm_dec q205 59 = some (.istore_n 2) := by decide +kernel
theorem d205_60 : mm_dec q205 60 = some (.iinc 3 1) := by decide +kernel
theorem d205_63 : mm_dec q205 63 = some (.goto (-49)) := by decide +kernel
theorem d205_66 : mm_dec q205 66 = some (.aload_n 0) := by decide +kernel
theorem d205_67 : mm_dec q205 67 = some (.iconst 0) := by decide +kernel
theorem d205_68 : mm_dec q205 68 = some (.putfield 295) := by decide +kernel
theorem d205_71 : mm_dec q205 71 = some (.iload_n 2) := by decide +kernel
theorem d205_72 : mm_dec q205 72 = some (.ireturn) := by decide +kernel
theorem d206_0 : mm_dec q206 0 = some (.aload_n 0) := by decide +kernel
theorem d206_1 : mm_dec q206 1 = some (.iload_n 1) := by decide +kernel
theorem d206_2 : mm_dec q206 2 = some (.invokevirtual 324) := by decide +kernel
theorem d206_5 : mm_dec q206 5 = some (.ifCond .eq 34) := by decide +kernel
theorem d206_8 : mm_dec q206 8 = some (.aload_n 0) := by decide +kernel
theorem d206_9 : mm_dec q206 9 = some (.iload_n 2) := by decide +kernel
theorem d206_10 : mm_dec q206 10 = some (.invokevirtual 324) := by decide +kernel
theorem d206_13 : mm_dec q206 13 = some (.ifCond .eq 26) := by decide +kernel
theorem d206_16 : mm_dec q206 16 = some (.iload_n 1) := by decide +kernel
theorem d206_17 : mm_dec q206 17 = some (.iload_n 2) := by decide +kernel
theorem d206_18 : mm_dec q206 18 = some (.if_icmp .eq 21) := by decide +kernel
theorem d206_21 : mm_dec q206 21 = some (.aload_n 0) := by decide +kernel
theorem d206_22 : mm_dec q206 22 = some (.iload_n 3) := by decide +kernel
theorem d206_23 : mm_dec q206 23 = some (.invokevirtual 337) := by decide +kernel
theorem d206_26 : mm_dec q206 26 = some (.ifCond .eq 13) := by decide +kernel
theorem d206_29 : mm_dec q206 29 = some (.iload 4) := by decide +kernel
theorem d206_31 : mm_dec q206 31 = some (.iconst 0) := by decide +kernel
theorem d206_32 : mm_dec q206 32 = some (.iconst 1) := by decide +kernel
theorem d206_33 : mm_dec q206 33 = some (.invokestatic 218) := by decide +kernel
theorem d206_36 : mm_dec q206 36 = some (.ifCond .ne 7) := by decide +kernel
theorem d206_39 : mm_dec q206 39 = some (.ldc_w 378) := by decide +kernel
theorem d206_42 : mm_dec q206 42 = some (.ireturn) := by decide +kernel
theorem d206_43 : mm_dec q206 43 = some (.aload_n 0) := by decide +kernel
theorem d206_44 : mm_dec q206 44 = some (.invokevirtual 356) := by decide +kernel
theorem d206_47 : mm_dec q206 47 = some (.iconst 0) := by decide +kernel
theorem d206_48 : mm_dec q206 48 = some (.istore 5) := by decide +kernel
theorem d206_50 : mm_dec q206 50 = some (.iconst (-1)) := by decide +kernel
theorem d206_51 : mm_dec q206 51 = some (.istore 6) := by decide +kernel
theorem d206_53 : mm_dec q206 53 = some (.iconst 0) := by decide +kernel
theorem d206_54 : mm_dec q206 54 = some (.istore 7) := by decide +kernel
theorem d206_56 : mm_dec q206 56 = some (.iload 7) := by decide +kernel
theorem d206_58 : mm_dec q206 58 = some (.iload_n 3) := by decide +kernel
theorem d206_59 : mm_dec q206 59 = some (.if_icmp .ge 47) := by decide +kernel
theorem d206_62 : mm_dec q206 62 = some (.aload_n 0) := by decide +kernel
theorem d206_63 : mm_dec q206 63 = some (.iload_n 1) := by decide +kernel
theorem d206_64 : mm_dec q206 64 = some (.invokevirtual 308) := by decide +kernel
theorem d206_67 : mm_dec q206 67 = some (.ifCond .ne 28) := by decide +kernel
theorem d206_70 : mm_dec q206 70 = some (.aload_n 0) := by decide +kernel
theorem d206_71 : mm_dec q206 71 = some (.iload_n 2) := by decide +kernel
theorem d206_72 : mm_dec q206 72 = some (.invokevirtual 308) := by decide +kernel
theorem d206_75 : mm_dec q206 75 = some (.ifCond .ne 20) := by decide +kernel
theorem d206_78 : mm_dec q206 78 = some (.iload 5) := by decide +kernel
theorem d206_80 : mm_dec q206 80 = some (.ifCond .ne 8) := by decide +kernel
theorem d206_83 : mm_dec q206 83 = some (.iload 7) := by decide +kernel
theorem d206_85 : mm_dec q206 85 = some (.goto 5) := by decide +kernel
theorem d206_88 : mm_dec q206 88 = some (.iload 6) := by decide +kernel
theorem d206_90 : mm_dec q206 90 = some (.istore 6) := by decide +kernel
theorem d206_92 : mm_dec q206 92 = some (.iinc 5 1) := by decide +kernel
theorem d206_95 : mm_dec q206 95 = some (.aload_n 0) := by decide +kernel
theorem d206_96 : mm_dec q206 96 = some (.iconst 0) := by decide +kernel
theorem d206_97 : mm_dec q206 97 = some (.invokevirtual 349) := by decide +kernel
theorem d206_100 : mm_dec q206 100 = some (.iinc 7 1) := by decide +kernel
theorem d206_103 : mm_dec q206 103 = some (.goto (-47)) := by decide +kernel
theorem d206_106 : mm_dec q206 106 = some (.aload_n 0) := by decide +kernel
theorem d206_107 : mm_dec q206 107 = some (.invokevirtual 362) := by decide +kernel
theorem d206_110 : mm_dec q206 110 = some (.iload 4) := by decide +kernel
theorem d206_112 : mm_dec q206 112 = some (.ifCond .ne 8) := by decide +kernel
theorem d206_115 : mm_dec q206 115 = some (.iload 6) := by decide +kernel
theorem d206_117 : mm_dec q206 117 = some (.goto 5) := by decide +kernel
theorem d206_120 : mm_dec q206 120 = some (.iload 5) := by decide +kernel
theorem d206_122 : mm_dec q206 122 = some (.ireturn) := by decide +kernel
theorem d207_0 : mm_dec q207 0 = some (.aload_n 0) := by decide +kernel
theorem d207_1 : mm_dec q207 1 = some (.iload_n 1) := by decide +kernel
theorem d207_2 : mm_dec q207 2 = some (.invokevirtual 337) := by decide +kernel
theorem d207_5 : mm_dec q207 5 = some (.ifCond .eq 12) := by decide +kernel
theorem d207_8 : mm_dec q207 8 = some (.iload_n 2) := by decide +kernel
theorem d207_9 : mm_dec q207 9 = some (.iconst 0) := by decide +kernel
theorem d207_10 : mm_dec q207 10 = some (.iconst 1) := by decide +kernel
theorem d207_11 : mm_dec q207 11 = some (.invokestatic 218) := by decide +kernel
theorem d207_14 : mm_dec q207 14 = some (.ifCond .ne 5) := by decide +kernel
theorem d207_17 : mm_dec q207 17 = some (.iconst (-1)) := by decide +kernel
theorem d207_18 : mm_dec q207 18 = some (.ireturn) := by decide +kernel
theorem d207_19 : mm_dec q207 19 = some (.iconst (-1)) := by decide +kernel
theorem d207_20 : mm_dec q207 20 = some (.istore_n 3) := by decide +kernel
theorem d207_21 : mm_dec q207 21 = some (.iconst 0) := by decide +kernel
theorem d207_22 : mm_dec q207 22 = some (.istore 4) := by decide +kernel
theorem d207_24 : mm_dec q207 24 = some (.iconst 0) := by decide +kernel
theorem d207_25 : mm_dec q207 25 = some (.istore 5) := by decide +kernel
theorem d207_27 : mm_dec q207 27 = some (.iload 5) := by decide +kernel
theorem d207_29 : mm_dec q207 29 = some (.aload_n 0) := by decide +kernel
theorem d207_30 : mm_dec q207 30 = some (.getfield 265) := by decide +kernel
theorem d207_33 : mm_dec q207 33 = some (.if_icmp .ge 44) := by decide +kernel
theorem d207_36 : mm_dec q207 36 = some (.aload_n 0) := by decide +kernel
theorem d207_37 : mm_dec q207 37 = some (.iconst 1) := by decide +kernel
theorem d207_38 : mm_dec q207 38 = some (.iload 5) := by decide +kernel
theorem d207_40 : mm_dec q207 40 = some (.ishl) := by decide +kernel
theorem d207_41 : mm_dec q207 41 = some (.putfield 298) := by decide +kernel
theorem d207_44 : mm_dec q207 44 = some (.aload_n 0) := by decide +kernel
theorem d207_45 : mm_dec q207 45 = some (.iconst 0) := by decide +kernel
theorem d207_46 : mm_dec q207 46 = some (.iload_n 1) := by decide +kernel
theorem d207_47 : mm_dec q207 47 = some (.invokevirtual 365) := by decide +kernel
theorem d207_50 : mm_dec q207 50 = some (.istore 6) := by decide +kernel
theorem d207_52 : mm_dec q207 52 = some (.iload_n 3) := by decide +kernel
theorem d207_53 : mm_dec q207 53 = some (.iconst (-1)) := by decide +kernel
theorem d207_54 : mm_dec q207 54 = some (.if_icmp .eq 10) := by decide +kernel
theorem d207_57 : mm_dec q207 57 = some (.iload 6) := by decide +kernel
theorem d207_59 : mm_dec q207 59 = some (.iload 4) := by decide +kernel
theorem d207_61 : mm_dec q207 61 = some (.if_icmp .ge 10) := by decide +kernel
theorem d207_64 : mm_dec q207 64 = some (.iload 5) := by decide +kernel
theorem d207_66 : mm_dec q207 66 = some (.istore_n 3) := by decide +kernel
theorem d207_67 : mm_dec q207 67 = some (.iload 6) := by decide +kernel
theorem d207_69 : mm_dec q207 69 = some (.istore 4) := by decide +kernel
theorem d207_71 : mm_dec q207 71 = some (.iinc 5 1) := by decide +kernel
theorem d207_74 : mm_dec q207 74 = some (.goto (-47)) := by decide +kernel
theorem d207_77 : mm_dec q207 77 = some (.aload_n 0) := by decide +kernel
theorem d207_78 : mm_dec q207 78 = some (.iconst 0) := by decide +kernel
theorem d207_79 : mm_dec q207 79 = some (.putfield 298) := by decide +kernel
theorem d207_82 : mm_dec q207 82 = some (.iload_n 2) := by decide +kernel
theorem d207_83 : mm_dec q207 83 = some (.ifCond .ne 7) := by decide +kernel
theorem d207_86 : mm_dec q207 86 = some (.iload_n 3) := by decide +kernel
theorem d207_87 : mm_dec q207 87 = some (.goto 5) := by decide +kernel
theorem d207_90 : mm_dec q207 90 = some (.iload 4) := by decide +kernel
theorem d207_92 : mm_dec q207 92 = some (.ireturn) := by decide +kernel
theorem d208_0 : mm_dec q208 0 = some (.aload_n 0) := by decide +kernel
theorem d208_1 : mm_dec q208 1 = some (.iload_n 1) := by decide +kernel
theorem d208_2 : mm_dec q208 2 = some (.invokevirtual 324) := by decide +kernel
theorem d208_5 : mm_dec q208 5 = some (.ifCond .eq 30) := by decide +kernel
theorem d208_8 : mm_dec q208 8 = some (.aload_n 0) := by decide +kernel
theorem d208_9 : mm_dec q208 9 = some (.getfield 58) := by decide +kernel
theorem d208_12 : mm_dec q208 12 = some (.iload_n 1) := by decide +kernel
theorem d208_13 : mm_dec q208 13 = some (.iaload) := by decide +kernel
theorem d208_14 : mm_dec q208 14 = some (.iconst (-1)) := by decide +kernel
theorem d208_15 : mm_dec q208 15 = some (.if_icmp .ne 20) := by decide +kernel
theorem d208_18 : mm_dec q208 18 = some (.aload_n 0) := by decide +kernel
theorem d208_19 : mm_dec q208 19 = some (.iload_n 2) := by decide +kernel
theorem d208_20 : mm_dec q208 20 = some (.invokevirtual 337) := by decide +kernel
theorem d208_23 : mm_dec q208 23 = some (.ifCond .eq 12) := by decide +kernel
theorem d208_26 : mm_dec q208 26 = some (.iload_n 3) := by decide +kernel
theorem d208_27 : mm_dec q208 27 = some (.iconst 0) := by decide +kernel
theorem d208_28 : mm_dec q208 28 = some (.iconst 1) := by decide +kernel
theorem d208_29 : mm_dec q208 29 = some (.invokestatic 218) := by decide +kernel
theorem d208_32 : mm_dec q208 32 = some (.ifCond .ne 5) := by decide +kernel
theorem d208_35 : mm_dec q208 35 = some (.iconst (-1)) := by decide +kernel
theorem d208_36 : mm_dec q208 36 = some (.ireturn) := by decide +kernel
theorem d208_37 : mm_dec q208 37 = some (.aload_n 0) := by decide +kernel
theorem d208_38 : mm_dec q208 38 = some (.getfield 49) := by decide +kernel
theorem d208_41 : mm_dec q208 41 = some (.iconst 4) := by decide +kernel
theorem d208_42 : mm_dec q208 42 = some (.iload_n 1) := by decide +kernel
theorem d208_43 : mm_dec q208 43 = some (.imul) := by decide +kernel
theorem d208_44 : mm_dec q208 44 = some (.iaload) := by decide +kernel
theorem d208_45 : mm_dec q208 45 = some (.istore 4) := by decide +kernel
theorem d208_47 : mm_dec q208 47 = some (.iconst (-1)) := by decide +kernel
theorem d208_48 : mm_dec q208 48 = some (.istore 5) := by decide +kernel
theorem d208_50 : mm_dec q208 50 = some (.iconst 0) := by decide +kernel
theorem d208_51 : mm_dec q208 51 = some (.istore 6) := by decide +kernel
theorem d208_53 : mm_dec q208 53 = some (.iconst 0) := by decide +kernel
theorem d208_54 : mm_dec q208 54 = some (.istore 7) := by decide +kernel
theorem d208_56 : mm_dec q208 56 = some (.iload 7) := by decide +kernel
theorem d208_58 : mm_dec q208 58 = some (.bipush 60) := by decide +kernel
theorem d208_60 : mm_dec q208 60 = some (.if_icmp .ge 48) := by decide +kernel
theorem d208_63 : mm_dec q208 63 = some (.aload_n 0) := by decide +kernel
theorem d208_64 : mm_dec q208 64 = some (.getfield 49) := by decide +kernel
theorem d208_67 : mm_dec q208 67 = some (.iconst 4) := by decide +kernel
theorem d208_68 : mm_dec q208 68 = some (.iload_n 1) := by decide +kernel
theorem d208_69 : mm_dec q208 69 = some (.imul) := by decide +kernel
theorem d208_70 : mm_dec q208 70 = some (.iload 7) := by decide +kernel
theorem d208_72 : mm_dec q208 72 = some (.iastore) := by decide +kernel
theorem d208_73 : mm_dec q208 73 = some (.aload_n 0) := by decide +kernel
theorem d208_74 : mm_dec q208 74 = some (.iconst 0) := by decide +kernel
theorem d208_75 : mm_dec q208 75 = some (.iload_n 2) := by decide +kernel
theorem d208_76 : mm_dec q208 76 = some (.invokevirtual 365) := by decide +kernel
theorem d208_79 : mm_dec q208 79 = some (.istore 8) := by decide +kernel
theorem d208_81 : mm_dec q208 81 = some (.iload 5) := by decide +kernel
theorem d208_83 : mm_dec q208 83 = some (.iconst (-1)) := by decide +kernel
theorem d208_84 : mm_dec q208 84 = some (.if_icmp .eq 10) := by decide +kernel
theorem d208_87 : mm_dec q208 87 = some (.iload 8) := by decide +kernel
theorem d208_89 : mm_dec q208 89 = some (.iload 6) := by decide +kernel
theorem d208_91 : mm_dec q208 91 = some (.if_icmp .ge 11) := by decide +kernel
theorem d208_94 : mm_dec q208 94 = some (.iload 7) := by decide +kernel
theorem d208_96 : mm_dec q208 96 = some (.istore 5) := by decide +kernel
theorem d208_98 : mm_dec q208 98 = some (.iload 8) := by decide +kernel
theorem d208_100 : mm_dec q208 100 = some (.istore 6) := by decide +kernel
theorem d208_102 : mm_dec q208 102 = some (.iinc 7 1) := by decide +kernel
theorem d208_105 : mm_dec q208 105 = some (.goto (-49)) := by decide +kernel
theorem d208_108 : mm_dec q208 108 = some (.aload_n 0) := by decide +kernel
theorem d208_109 : mm_dec q208 109 = some (.getfield 49) := by decide +kernel
theorem d208_112 : mm_dec q208 112 = some (.iconst 4) := by decide +kernel
theorem d208_113 : mm_dec q208 113 = some (.iload_n 1) := by decide +kernel
theorem d208_114 : mm_dec q208 114 = some (.imul) := by decide +kernel
theorem d208_115 : mm_dec q208 115 = some (.iload 4) := by decide +kernel
theorem d208_117 : mm_dec q208 117 = some (.iastore) := by decide +kernel
theorem d208_118 : mm_dec q208 118 = some (.iload_n 3) := by decide +kernel
theorem d208_119 : mm_dec q208 119 = some (.ifCond .ne 8) := by decide +kernel
theorem d208_122 : mm_dec q208 122 = some (.iload 5) := by decide +kernel
theorem d208_124 : mm_dec q208 124 = some (.goto 5) := by decide +kernel
theorem d208_127 : mm_dec q208 127 = some (.iload 6) := by decide +kernel
theorem d208_129 : mm_dec q208 129 = some (.ireturn) := by decide +kernel
theorem d209_0 : mm_dec q209 0 = some (.aload_n 0) := by decide +kernel
theorem d209_1 : mm_dec q209 1 = some (.iload_n 1) := by decide +kernel
theorem d209_2 : mm_dec q209 2 = some (.invokevirtual 327) := by decide +kernel
theorem d209_5 : mm_dec q209 5 = some (.ifCond .eq 20) := by decide +kernel
theorem d209_8 : mm_dec q209 8 = some (.aload_n 0) := by decide +kernel
theorem d209_9 : mm_dec q209 9 = some (.iload_n 2) := by decide +kernel
theorem d209_10 : mm_dec q209 10 = some (.invokevirtual 337) := by decide +kernel
theorem d209_13 : mm_dec q209 13 = some (.ifCond .eq 12) := by decide +kernel
theorem d209_16 : mm_dec q209 16 = some (.iload_n 3) := by decide +kernel
theorem d209_17 : mm_dec q209 17 = some (.iconst 0) := by decide +kernel
theorem d209_18 : mm_dec q209 18 = some (.iconst 1) := by decide +kernel
theorem d209_19 : mm_dec q209 19 = some (.invokestatic 218) := by decide +kernel
theorem d209_22 : mm_dec q209 22 = some (.ifCond .ne 5) := by decide +kernel
theorem d209_25 : mm_dec q209 25 = some (.iconst (-1)) := by decide +kernel
theorem d209_26 : mm_dec q209 26 = some (.ireturn) := by decide +kernel
theorem d209_27 : mm_dec q209 27 = some (.aload_n 0) := by decide +kernel
theorem d209_28 : mm_dec q209 28 = some (.invokevirtual 356) := by decide +kernel
theorem d209_31 : mm_dec q209 31 = some (.iconst (-1)) := by decide +kernel
theorem d209_32 : mm_dec q209 32 = some (.istore 4) := by decide +kernel
theorem d209_34 : mm_dec q209 34 = some (.iconst (-1)) := by decide +kernel
theorem d209_35 : mm_dec q209 35 = some (.istore 5) := by decide +kernel
theorem d209_37 : mm_dec q209 37 = some (.iconst 1) := by decide +kernel
theorem d209_38 : mm_dec q209 38 = some (.istore 6) := by decide +kernel
theorem d209_40 : mm_dec q209 40 = some (.iload 6) := by decide +kernel
theorem d209_42 : mm_dec q209 42 = some (.iload_n 2) := by decide +kernel
theorem d209_43 : mm_dec q209 43 = some (.if_icmp .gt 47) := by decide +kernel
theorem d209_46 : mm_dec q209 46 = some (.aload_n 0) := by decide +kernel
theorem d209_47 : mm_dec q209 47 = some (.iconst 0) := by decide +kernel
theorem d209_48 : mm_dec q209 48 = some (.invokevirtual 349) := by decide +kernel
theorem d209_51 : mm_dec q209 51 = some (.aload_n 0) := by decide +kernel
theorem d209_52 : mm_dec q209 52 = some (.getfield 61) := by decide +kernel
theorem d209_55 : mm_dec q209 55 = some (.iload_n 1) := by decide +kernel
theorem d209_56 : mm_dec q209 56 = some (.iaload) := by decide +kernel
theorem d209_57 : mm_dec q209 57 = some (.iload 4) := by decide +kernel
theorem d209_59 : mm_dec q209 59 = some (.if_icmp .le 8) := by decide +kernel
theorem d209_62 : mm_dec q209 62 = some (.iload 6) := by decide +kernel
theorem d209_64 : mm_dec q209 64 = some (.goto 5) := by decide +kernel
theorem d209_67 : mm_dec q209 67 = some (.iload 5) := by decide +kernel
theorem d209_69 : mm_dec q209 69 = some (.istore 5) := by decide +kernel
theorem d209_71 : mm_dec q209 71 = some (.iload 4) := by decide +kernel
theorem d209_73 : mm_dec q209 73 = some (.aload_n 0) := by decide +kernel
theorem d209_74 : mm_dec q209 74 = some (.getfield 61) := by decide +kernel
theorem d209_77 : mm_dec q209 77 = some (.iload_n 1) := by decide +kernel
theorem d209_78 : mm_dec q209 78 = some (.iaload) := by decide +kernel
theorem d209_79 : mm_dec q209 79 = some (.invokestatic 368) := by decide +kernel
theorem d209_82 : mm_dec q209 82 = some (.istore 4) := by decide +kernel
theorem d209_84 : mm_dec q209 84 = some (.iinc 6 1) := by decide +kernel
theorem d209_87 : mm_dec q209 87 = some (.goto (-47)) := by decide +kernel
theorem d209_90 : mm_dec q209 90 = some (.aload_n 0) := by decide +kernel
theorem d209_91 : mm_dec q209 91 = some (.invokevirtual 362) := by decide +kernel
theorem d209_94 : mm_dec q209 94 = some (.iload_n 3) := by decide +kernel
theorem d209_95 : mm_dec q209 95 = some (.ifCond .ne 8) := by decide +kernel
theorem d209_98 : mm_dec q209 98 = some (.iload 4) := by decide +kernel
theorem d209_100 : mm_dec q209 100 = some (.goto 5) := by decide +kernel
theorem d209_103 : mm_dec q209 103 = some (.iload 5) := by decide +kernel
theorem d209_105 : mm_dec q209 105 = some (.ireturn) := by decide +kernel
theorem d210_0 : mm_dec q210 0 = some (.aload_n 0) := by decide +kernel
theorem d210_1 : mm_dec q210 1 = some (.iload_n 1) := by decide +kernel
theorem d210_2 : mm_dec q210 2 = some (.invokevirtual 327) := by decide +kernel
theorem d210_5 : mm_dec q210 5 = some (.ifCond .ne 5) := by decide +kernel
theorem d210_8 : mm_dec q210 8 = some (.iconst (-1)) := by decide +kernel
theorem d210_9 : mm_dec q210 9 = some (.ireturn) := by decide +kernel
theorem d210_10 : mm_dec q210 10 = some (.aload_n 0) := by decide +kernel
theorem d210_11 : mm_dec q210 11 = some (.invokevirtual 356) := by decide +kernel
theorem d210_14 : mm_dec q210 14 = some (.iconst (-1)) := by decide +kernel
theorem d210_15 : mm_dec q210 15 = some (.istore_n 2) := by decide +kernel
theorem d210_16 : mm_dec q210 16 = some (.iconst 1) := by decide +kernel
theorem d210_17 : mm_dec q210 17 = some (.istore_n 3) := by decide +kernel
theorem d210_18 : mm_dec q210 18 = some (.iload_n 3) := by decide +kernel
theorem d210_19 : mm_dec q210 19 = some (.sipush 240) := by decide +kernel
theorem d210_22 : mm_dec q210 22 = some (.if_icmp .gt 34) := by decide +kernel
theorem d210_25 : mm_dec q210 25 = some (.iload_n 2) := by decide +kernel
theorem d210_26 : mm_dec q210 26 = some (.iconst (-1)) := by decide +kernel
theorem d210_27 : mm_dec q210 27 = some (.if_icmp .ne 29) := by decide +kernel
theorem d210_30 : mm_dec q210 30 = some (.aload_n 0) := by decide +kernel
theorem d210_31 : mm_dec q210 31 = some (.iconst 0) := by decide +kernel
theorem d210_32 : mm_dec q210 32 = some (.invokevirtual 349) := by decide +kernel
theorem d210_35 : mm_dec q210 35 = some (.aload_n 0) := by decide +kernel
theorem d210_36 : mm_dec q210 36 = some (.getfield 61) := by decide +kernel
theorem d210_39 : mm_dec q210 39 = some (.iload_n 1) := by decide +kernel
theorem d210_40 : mm_dec q210 40 = some (.iaload) := by decide +kernel
theorem d210_41 : mm_dec q210 41 = some (.ifCond .ne 7) := by decide +kernel
theorem d210_44 : mm_dec q210 44 = some (.iload_n 3) := by decide +kernel
theorem d210_45 : mm_dec q210 45 = some (.goto 4) := by decide +kernel
theorem d210_48 : mm_dec q210 48 = some (.iconst (-1)) := by decide +kernel
theorem d210_49 : mm_dec q210 49 = some (.istore_n 2) := by decide +kernel
theorem d210_50 : mm_dec q210 50 = some (.iinc 3 1) := by decide +kernel
theorem d210_53 : mm_dec q210 53 = some (.goto (-35)) := by decide +kernel
theorem d210_56 : mm_dec q210 56 = some (.aload_n 0) := by decide +kernel
theorem d210_57 : mm_dec q210 57 = some (.invokevirtual 362) := by decide +kernel
theorem d210_60 : mm_dec q210 60 = some (.iload_n 2) := by decide +kernel
theorem d210_61 : mm_dec q210 61 = some (.ireturn) := by decide +kernel
theorem d211_0 : mm_dec q211 0 = some (.aload_n 0) := by decide +kernel
theorem d211_1 : mm_dec q211 1 = some (.iload_n 1) := by decide +kernel
theorem d211_2 : mm_dec q211 2 = some (.invokevirtual 324) := by decide +kernel
theorem d211_5 : mm_dec q211 5 = some (.ifCond .eq 11) := by decide +kernel
theorem d211_8 : mm_dec q211 8 = some (.aload_n 0) := by decide +kernel
theorem d211_9 : mm_dec q211 9 = some (.iload_n 2) := by decide +kernel
theorem d211_10 : mm_dec q211 10 = some (.invokevirtual 337) := by decide +kernel
theorem d211_13 : mm_dec q211 13 = some (.ifCond .ne 5) := by decide +kernel
theorem d211_16 : mm_dec q211 16 = some (.iconst (-1)) := by decide +kernel
theorem d211_17 : mm_dec q211 17 = some (.ireturn) := by decide +kernel
theorem d211_18 : mm_dec q211 18 = some (.aload_n 0) := by decide +kernel
theorem d211_19 : mm_dec q211 19 = some (.invokevirtual 356) := by decide +kernel
theorem d211_22 : mm_dec q211 22 = some (.iconst 0) := by decide +kernel
theorem d211_23 : mm_dec q211 23 = some (.istore_n 3) := by decide +kernel
theorem d211_24 : mm_dec q211 24 = some (.iconst 0) := by decide +kernel
theorem d211_25 : mm_dec q211 25 = some (.istore 4) := by decide +kernel
theorem d211_27 : mm_dec q211 27 = some (.iload 4) := by decide +kernel
theorem d211_29 : mm_dec q211 29 = some (.iload_n 2) := by decide +kernel
theorem d211_30 : mm_dec q211 30 = some (.if_icmp .ge 79) := by decide +kernel
theorem d211_33 : mm_dec q211 33 = some (.aload_n 0) := by decide +kernel
theorem d211_34 : mm_dec q211 34 = some (.iload_n 1) := by decide +kernel
theorem d211_35 : mm_dec q211 35 = some (.invokevirtual 314) := by decide +kernel
theorem d211_38 : mm_dec q211 38 = some (.istore 5) := by decide +kernel
theorem d211_40 : mm_dec q211 40 = some (.iconst 0) := by decide +kernel
theorem d211_41 : mm_dec q211 41 = some (.istore 6) := by decide +kernel
theorem d211_43 : mm_dec q211 43 = some (.iload 6) := by decide +kernel
theorem d211_45 : mm_dec q211 45 = some (.aload_n 0) := by decide +kernel
theorem d211_46 : mm_dec q211 46 = some (.getfield 265) := by decide +kernel
theorem d211_49 : mm_dec q211 49 = some (.if_icmp .ge 36) := by decide +kernel
theorem d211_52 : mm_dec q211 52 = some (.iload 5) := by decide +kernel
theorem d211_54 : mm_dec q211 54 = some (.ifCond .eq 22) := by decide +kernel
theorem d211_57 : mm_dec q211 57 = some (.iload 6) := by decide +kernel
theorem d211_59 : mm_dec q211 59 = some (.iload_n 1) := by decide +kernel
theorem d211_60 : mm_dec q211 60 = some (.if_icmp .eq 12) := by decide +kernel
theorem d211_63 : mm_dec q211 63 = some (.aload_n 0) := by decide +kernel
theorem d211_64 : mm_dec q211 64 = some (.iload 6) := by decide +kernel
theorem d211_66 : mm_dec q211 66 = some (.invokevirtual 314) := by decide +kernel
theorem d211_69 : mm_dec q211 69 = some (.ifCond .ne 7) := by decide +kernel
theorem d211_72 : mm_dec q211 72 = some (.iconst 1) := by decide +kernel
theorem d211_73 : mm_dec q211 73 = some (.goto 4) := by decide +kernel
theorem d211_76 : mm_dec q211 76 = some (.iconst 0) := by decide +kernel
theorem d211_77 : mm_dec q211 77 = some (.istore 5) := by decide +kernel
theorem d211_79 : mm_dec q211 79 = some (.iinc 6 1) := by decide +kernel
theorem d211_82 : mm_dec q211 82 = some (.goto (-39)) := by decide +kernel
theorem d211_85 : mm_dec q211 85 = some (.iload_n 3) := by decide +kernel
theorem d211_86 : mm_dec q211 86 = some (.iload 5) := by decide +kernel
theorem d211_88 : mm_dec q211 88 = some (.ifCond .eq 7) := by decide +kernel
theorem d211_91 : mm_dec q211 91 = some (.iconst 1) := by decide +kernel
theorem d211_92 : mm_dec q211 92 = some (.goto 4) := by decide +kernel
theorem d211_95 : mm_dec q211 95 = some (.iconst 0) := by decide +kernel
theorem d211_96 : mm_dec q211 96 = some (.iadd) := by decide +kernel
theorem d211_97 : mm_dec q211 97 = some (.istore_n 3) := by decide +kernel
theorem d211_98 : mm_dec q211 98 = some (.aload_n 0) := by decide +kernel
theorem d211_99 : mm_dec q211 99 = some (.iconst 0) := by decide +kernel
theorem d211_100 : mm_dec q211 100 = some (.invokevirtual 349) := by decide +kernel
theorem d211_103 : mm_dec q211 103 = some (.iinc 4 1) := by decide +kernel
theorem d211_106 : mm_dec q211 106 = some (.goto (-79)) := by decide +kernel
theorem d211_109 : mm_dec q211 109 = some (.aload_n 0) := by decide +kernel
theorem d211_110 : mm_dec q211 110 = some (.invokevirtual 362) := by decide +kernel
theorem d211_113 : mm_dec q211 113 = some (.iload_n 3) := by decide +kernel
theorem d211_114 : mm_dec q211 114 = some (.ireturn) := by decide +kernel
theorem d212_0 : mm_dec q212 0 = some (.aload_n 0) := by decide +kernel
theorem d212_1 : mm_dec q212 1 = some (.iload_n 1) := by decide +kernel
theorem d212_2 : mm_dec q212 2 = some (.invokevirtual 327) := by decide +kernel
theorem d212_5 : mm_dec q212 5 = some (.ifCond .eq 7) := by decide +kernel
theorem d212_8 : mm_dec q212 8 = some (.iload_n 2) := by decide +kernel
theorem d212_9 : mm_dec q212 9 = some (.ifCond .ge 5) := by decide +kernel
theorem d212_12 : mm_dec q212 12 = some (.iconst (-1)) := by decide +kernel
theorem d212_13 : mm_dec q212 13 = some (.ireturn) := by decide +kernel
theorem d212_14 : mm_dec q212 14 = some (.aload_n 0) := by decide +kernel
theorem d212_15 : mm_dec q212 15 = some (.invokevirtual 356) := by decide +kernel
theorem d212_18 : mm_dec q212 18 = some (.aload_n 0) := by decide +kernel
theorem d212_19 : mm_dec q212 19 = some (.getfield 61) := by decide +kernel
theorem d212_22 : mm_dec q212 22 = some (.iload_n 1) := by decide +kernel
theorem d212_23 : mm_dec q212 23 = some (.iaload) := by decide +kernel
theorem d212_24 : mm_dec q212 24 = some (.istore_n 3) := by decide +kernel
theorem d212_25 : mm_dec q212 25 = some (.iconst 0) := by decide +kernel
theorem d212_26 : mm_dec q212 26 = some (.istore 4) := by decide +kernel
theorem d212_28 : mm_dec q212 28 = some (.iconst (-1)) := by decide +kernel
theorem d212_29 : mm_dec q212 29 = some (.istore 5) := by decide +kernel
theorem d212_31 : mm_dec q212 31 = some (.iconst 0) := by decide +kernel
theorem d212_32 : mm_dec q212 32 = some (.istore 6) := by decide +kernel
theorem d212_34 : mm_dec q212 34 = some (.iload 6) := by decide +kernel
theorem d212_36 : mm_dec q212 36 = some (.sipush 240) := by decide +kernel
theorem d212_39 : mm_dec q212 39 = some (.if_icmp .ge 113) := by decide +kernel
theorem d212_42 : mm_dec q212 42 = some (.iload 5) := by decide +kernel
theorem d212_44 : mm_dec q212 44 = some (.iconst (-1)) := by decide +kernel
theorem d212_45 : mm_dec q212 45 = some (.if_icmp .ne 107) := by decide +kernel
theorem d212_48 : mm_dec q212 48 = some (.aload_n 0) := by decide +kernel
theorem d212_49 : mm_dec q212 49 = some (.getfield 274) := by decide +kernel
theorem d212_52 : mm_dec q212 52 = some (.aload_n 0) := by decide +kernel
theorem d212_53 : mm_dec q212 53 = some (.getfield 55) := by decide +kernel
theorem d212_56 : mm_dec q212 56 = some (.iconst 3) := by decide +kernel
theorem d212_57 : mm_dec q212 57 = some (.iload_n 1) := by decide +kernel
theorem d212_58 : mm_dec q212 58 = some (.imul) := by decide +kernel
theorem d212_59 : mm_dec q212 59 = some (.iaload) := by decide +kernel
theorem d212_60 : mm_dec q212 60 = some (.irem) := by decide +kernel
theorem d212_61 : mm_dec q212 61 = some (.ifCond .ne 45) := by decide +kernel
theorem d212_64 : mm_dec q212 64 = some (.iload 4) := by decide +kernel
theorem d212_66 : mm_dec q212 66 = some (.iload_n 2) := by decide +kernel
theorem d212_67 : mm_dec q212 67 = some (.if_icmp .gt 39) := by decide +kernel
theorem d212_70 : mm_dec q212 70 = some (.aload_n 0) := by decide +kernel
theorem d212_71 : mm_dec q212 71 = some (.getfield 274) := by decide +kernel
theorem d212_74 : mm_dec q212 74 = some (.aload_n 0) := by decide +kernel
theorem d212_75 : mm_dec q212 75 = some (.getfield 55) := by decide +kernel
theorem d212_78 : mm_dec q212 78 = some (.iconst 3) := by decide +kernel
theorem d212_79 : mm_dec q212 79 = some (.iload_n 1) := by decide +kernel
theorem d212_80 : mm_dec q212 80 = some (.imul) := by decide +kernel
theorem d212_81 : mm_dec q212 81 = some (.iaload) := by decide +kernel
theorem d212_82 : mm_dec q212 82 = some (.idiv) := by decide +kernel
theorem d212_83 : mm_dec q212 83 = some (.bipush 12) := by decide +kernel
theorem d212_85 : mm_dec q212 85 = some (.irem) := by decide +kernel
theorem d212_86 : mm_dec q212 86 = some (.istore 7) := by decide +kernel
theorem d212_88 : mm_dec q212 88 = some (.iload_n 3) := by decide +kernel
theorem d212_89 : mm_dec q212 89 = some (.iload 7) := by decide +kernel
theorem d212_91 : mm_dec q212 91 = some (.ifCond .ne 8) := by decide +kernel
theorem d212_94 : mm_dec q212 94 = some (.bipush 12) := by decide +kernel
theorem d212_96 : mm_dec q212 96 = some (.goto 5) := by decide +kernel
theorem d212_99 : mm_dec q212 99 = some (.iload 7) := by decide +kernel
theorem d212_101 : mm_dec q212 101 = some (.iadd) := by decide +kernel
theorem d212_102 : mm_dec q212 102 = some (.istore_n 3) := by decide +kernel
theorem d212_103 : mm_dec q212 103 = some (.iinc 4 1) := by decide +kernel
theorem d212_106 : mm_dec q212 106 = some (.aload_n 0) := by decide +kernel
theorem d212_107 : mm_dec q212 107 = some (.iconst 0) := by decide +kernel
theorem d212_108 : mm_dec q212 108 = some (.invokevirtual 349) := by decide +kernel
theorem d212_111 : mm_dec q212 111 = some (.iload_n 3) := by decide +kernel
theorem d212_112 : mm_dec q212 112 = some (.aload_n 0) := by decide +kernel
theorem d212_113 : mm_dec q212 113 = some (.getfield 67) := by decide +kernel
theorem d212_116 : mm_dec q212 116 = some (.iload_n 1) := by decide +kernel
theorem d212_117 : mm_dec q212 117 = some (.baload) := by decide +kernel
theorem d212_118 : mm_dec q212 118 = some (.ifCond .eq 7) := by decide +kernel
theorem d212_121 : mm_dec q212 121 = some (.iconst 1) := by decide +kernel
theorem d212_122 : mm_dec q212 122 = some (.goto 4) := by decide +kernel
theorem d212_125 : mm_dec q212 125 = some (.iconst 0) := by decide +kernel
theorem d212_126 : mm_dec q212 126 = some (.isub) := by decide +kernel
theorem d212_127 : mm_dec q212 127 = some (.istore_n 3) := by decide +kernel
theorem d212_128 : mm_dec q212 128 = some (.iload 4) := by decide +kernel
theorem d212_130 : mm_dec q212 130 = some (.iload_n 2) := by decide +kernel
theorem d212_131 : mm_dec q212 131 = some (.if_icmp .le 12) := by decide +kernel
theorem d212_134 : mm_dec q212 134 = some (.iload_n 3) := by decide +kernel
theorem d212_135 : mm_dec q212 135 = some (.ifCond .ne 8) := by decide +kernel
theorem d212_138 : mm_dec q212 138 = some (.iload 6) := by decide +kernel
theorem d212_140 : mm_dec q212 140 = some (.goto 4) := by decide +kernel
theorem d212_143 : mm_dec q212 143 = some (.iconst (-1)) := by decide +kernel
theorem d212_144 : mm_dec q212 144 = some (.istore 5) := by decide +kernel
theorem d212_146 : mm_dec q212 146 = some (.iinc 6 1) := by decide +kernel
theorem d212_149 : mm_dec q212 149 = some (.goto (-115)) := by decide +kernel
theorem d212_152 : mm_dec q212 152 = some (.aload_n 0) := by decide +kernel
theorem d212_153 : mm_dec q212 153 = some (.invokevirtual 362) := by decide +kernel
theorem d212_156 : mm_dec q212 156 = some (.iload 5) := by decide +kernel
theorem d212_158 : mm_dec q212 158 = some (.ireturn) := by decide +kernel
theorem d213_0 : mm_dec q213 0 = some (.aload_n 0) := by decide +kernel
theorem d213_1 : mm_dec q213 1 = some (.iload_n 1) := by decide +kernel
theorem d213_2 : mm_dec q213 2 = some (.invokevirtual 337) := by decide +kernel
theorem d213_5 : mm_dec q213 5 = some (.ifCond .eq 19) := by decide +kernel
theorem d213_8 : mm_dec q213 8 = some (.aload_n 0) := by decide +kernel
theorem d213_9 : mm_dec q213 9 = some (.getfield 271) := by decide +kernel
theorem d213_12 : mm_dec q213 12 = some (.ifCond .eq 12) := by decide +kernel
theorem d213_15 : mm_dec q213 15 = some (.iload_n 2) := by decide +kernel
theorem d213_16 : mm_dec q213 16 = some (.iconst 0) := by decide +kernel
theorem d213_17 : mm_dec q213 17 = some (.iconst 1) := by decide +kernel
theorem d213_18 : mm_dec q213 18 = some (.invokestatic 218) := by decide +kernel
theorem d213_21 : mm_dec q213 21 = some (.ifCond .ne 5) := by decide +kernel
theorem d213_24 : mm_dec q213 24 = some (.iconst (-1)) := by decide +kernel
theorem d213_25 : mm_dec q213 25 = some (.ireturn) := by decide +kernel
theorem d213_26 : mm_dec q213 26 = some (.aload_n 0) := by decide +kernel
theorem d213_27 : mm_dec q213 27 = some (.getfield 52) := by decide +kernel
theorem d213_30 : mm_dec q213 30 = some (.iconst 3) := by decide +kernel
theorem d213_31 : mm_dec q213 31 = some (.iaload) := by decide +kernel
theorem d213_32 : mm_dec q213 32 = some (.istore_n 3) := by decide +kernel
theorem d213_33 : mm_dec q213 33 = some (.iconst (-1)) := by decide +kernel
theorem d213_34 : mm_dec q213 34 = some (.istore 4) := by decide +kernel
theorem d213_36 : mm_dec q213 36 = some (.iconst 0) := by decide +kernel
theorem d213_37 : mm_dec q213 37 = some (.istore 5) := by decide +kernel
theorem d213_39 : mm_dec q213 39 = some (.iconst 0) := by decide +kernel
theorem d213_40 : mm_dec q213 40 = some (.istore 6) := by decide +kernel
theorem d213_42 : mm_dec q213 42 = some (.iload 6) := by decide +kernel
theorem d213_44 : mm_dec q213 44 = some (.bipush 10) := by decide +kernel
theorem d213_46 : mm_dec q213 46 = some (.if_icmp .ge 46) := by decide +kernel
theorem d213_49 : mm_dec q213 49 = some (.aload_n 0) := by decide +kernel
theorem d213_50 : mm_dec q213 50 = some (.getfield 52) := by decide +kernel
theorem d213_53 : mm_dec q213 53 = some (.iconst 3) := by decide +kernel
theorem d213_54 : mm_dec q213 54 = some (.iload 6) := by decide +kernel
theorem d213_56 : mm_dec q213 56 = some (.iastore) := by decide +kernel
theorem d213_57 : mm_dec q213 57 = some (.aload_n 0) := by decide +kernel
theorem d213_58 : mm_dec q213 58 = some (.iconst 0) := by decide +kernel
theorem d213_59 : mm_dec q213 59 = some (.iload_n 1) := by decide +kernel
theorem d213_60 : mm_dec q213 60 = some (.invokevirtual 365) := by decide +kernel
theorem d213_63 : mm_dec q213 63 = some (.istore 7) := by decide +kernel
theorem d213_65 : mm_dec q213 65 = some (.iload 4) := by decide +kernel
theorem d213_67 : mm_dec q213 67 = some (.iconst (-1)) := by decide +kernel
theorem d213_68 : mm_dec q213 68 = some (.if_icmp .eq 10) := by decide +kernel
theorem d213_71 : mm_dec q213 71 = some (.iload 7) := by decide +kernel
theorem d213_73 : mm_dec q213 73 = some (.iload 5) := by decide +kernel
theorem d213_75 : mm_dec q213 75 = some (.if_icmp .ge 11) := by decide +kernel
theorem d213_78 : mm_dec q213 78 = some (.iload 6) := by decide +kernel
theorem d213_80 : mm_dec q213 80 = some (.istore 4) := by decide +kernel
theorem d213_82 : mm_dec q213 82 = some (.iload 7) := by decide +kernel
theorem d213_84 : mm_dec q213 84 = some (.istore 5) := by decide +kernel
theorem d213_86 : mm_dec q213 86 = some (.iinc 6 1) := by decide +kernel
theorem d213_89 : mm_dec q213 89 = some (.goto (-47)) := by decide +kernel
theorem d213_92 : mm_dec q213 92 = some (.aload_n 0) := by decide +kernel
theorem d213_93 : mm_dec q213 93 = some (.getfield 52) := by decide +kernel
theorem d213_96 : mm_dec q213 96 = some (.iconst 3) := by decide +kernel
theorem d213_97 : mm_dec q213 97 = some (.iload_n 3) := by decide +kernel
theorem d213_98 : mm_dec q213 98 = some (.iastore) := by decide +kernel
theorem d213_99 : mm_dec q213 99 = some (.iload_n 2) := by decide +kernel
theorem d213_100 : mm_dec q213 100 = some (.ifCond .ne 8) := by decide +kernel
theorem d213_103 : mm_dec q213 103 = some (.iload 4) := by decide +kernel
theorem d213_105 : mm_dec q213 105 = some (.goto 5) := by decide +kernel
theorem d213_108 : mm_dec q213 108 = some (.iload 5) := by decide +kernel
theorem d213_110 : mm_dec q213 110 = some (.ireturn) := by decide +kernel
theorem d214_0 : mm_dec q214 0 = some (.aload_n 0) := by decide +kernel
theorem d214_1 : mm_dec q214 1 = some (.getfield 265) := by decide +kernel
theorem d214_4 : mm_dec q214 4 = some (.ifCond .eq 22) := by decide +kernel
theorem d214_7 : mm_dec q214 7 = some (.iload_n 1) := by decide +kernel
theorem d214_8 : mm_dec q214 8 = some (.iconst 0) := by decide +kernel
theorem d214_9 : mm_dec q214 9 = some (.bipush 60) := by decide +kernel
theorem d214_11 : mm_dec q214 11 = some (.invokestatic 218) := by decide +kernel
theorem d214_14 : mm_dec q214 14 = some (.ifCond .eq 12) := by decide +kernel
theorem d214_17 : mm_dec q214 17 = some (.aload_n 0) := by decide +kernel
theorem d214_18 : mm_dec q214 18 = some (.getfield 280) := by decide +kernel
theorem d214_21 : mm_dec q214 21 = some (.bipush 20) := by decide +kernel
theorem d214_23 : mm_dec q214 23 = some (.if_icmp .ne 5) := by decide +kernel
theorem d214_26 : mm_dec q214 26 = some (.iconst (-1)) := by decide +kernel
theorem d214_27 : mm_dec q214 27 = some (.ireturn) := by decide +kernel
theorem d214_28 : mm_dec q214 28 = some (.aload_n 0) := by decide +kernel
theorem d214_29 : mm_dec q214 29 = some (.getfield 87) := by decide +kernel
theorem d214_32 : mm_dec q214 32 = some (.aload_n 0) := by decide +kernel
theorem d214_33 : mm_dec q214 33 = some (.getfield 280) := by decide +kernel
theorem d214_36 : mm_dec q214 36 = some (.iload_n 1) := by decide +kernel
theorem d214_37 : mm_dec q214 37 = some (.iastore) := by decide +kernel
theorem d214_38 : mm_dec q214 38 = some (.aload_n 0) := by decide +kernel
theorem d214_39 : mm_dec q214 39 = some (.getfield 90) := by decide +kernel
theorem d214_42 : mm_dec q214 42 = some (.aload_n 0) := by decide +kernel
theorem d214_43 : mm_dec q214 43 = some (.getfield 280) := by decide +kernel
theorem d214_46 : mm_dec q214 46 = some (.iload_n 2) := by decide +kernel
theorem d214_47 : mm_dec q214 47 = some (.bastore) := by decide +kernel
theorem d214_48 : mm_dec q214 48 = some (.aload_n 0) := by decide +kernel
theorem d214_49 : mm_dec q214 49 = some (.dup) := by decide +kernel
theorem d214_50 : mm_dec q214 50 = some (.getfield 280) := by decide +kernel
theorem d214_53 : mm_dec q214 53 = some (.iconst 1) := by decide +kernel
theorem d214_54 : mm_dec q214 54 = some (.iadd) := by decide +kernel
theorem d214_55 : mm_dec q214 55 = some (.putfield 280) := by decide +kernel
theorem d214_58 : mm_dec q214 58 = some (.aload_n 0) := by decide +kernel
theorem d214_59 : mm_dec q214 59 = some (.getfield 280) := by decide +kernel
theorem d214_62 : mm_dec q214 62 = some (.ireturn) := by decide +kernel
theorem d215_0 : mm_dec q215 0 = some (.iconst 0) := by decide +kernel
theorem d215_1 : mm_dec q215 1 = some (.istore_n 2) := by decide +kernel
theorem d215_2 : mm_dec q215 2 = some (.iload_n 2) := by decide +kernel
theorem d215_3 : mm_dec q215 3 = some (.aload_n 0) := by decide +kernel
theorem d215_4 : mm_dec q215 4 = some (.getfield 280) := by decide +kernel
theorem d215_7 : mm_dec q215 7 = some (.if_icmp .ge 33) := by decide +kernel
theorem d215_10 : mm_dec q215 10 = some (.aload_n 0) := by decide +kernel
theorem d215_11 : mm_dec q215 11 = some (.getfield 93) := by decide +kernel
theorem d215_14 : mm_dec q215 14 = some (.iload_n 1) := by decide +kernel
theorem d215_15 : mm_dec q215 15 = some (.aload_n 0) := by decide +kernel
theorem d215_16 : mm_dec q215 16 = some (.getfield 87) := by decide +kernel
theorem d215_19 : mm_dec q215 19 = some (.iload_n 2) := by decide +kernel
theorem d215_20 : mm_dec q215 20 = some (.iaload) := by decide +kernel
theorem d215_21 : mm_dec q215 21 = some (.iadd) := by decide +kernel
theorem d215_22 : mm_dec q215 22 = some (.baload) := by decide +kernel
theorem d215_23 : mm_dec q215 23 = some (.aload_n 0) := by decide +kernel
theorem d215_24 : mm_dec q215 24 = some (.getfield 90) := by decide +kernel
theorem d215_27 : mm_dec q215 27 = some (.iload_n 2) := by decide +kernel
theorem d215_28 : mm_dec q215 28 = some (.baload) := by decide +kernel
theorem d215_29 : mm_dec q215 29 = some (.if_icmp .eq 5) := by decide +kernel
theorem d215_32 : mm_dec q215 32 = some (.iconst 0) := by decide +kernel
theorem d215_33 : mm_dec q215 33 = some (.ireturn) := by decide +kernel
theorem d215_34 : mm_dec q215 34 = some (.iinc 2 1) := by decide +kernel
theorem d215_37 : mm_dec q215 37 = some (.goto (-35)) := by decide +kernel
theorem d215_40 : mm_dec q215 40 = some (.iconst 1) := by decide +kernel
theorem d215_41 : mm_dec q215 41 = some (.ireturn) := by decide +kernel
theorem d216_0 : mm_dec q216 0 = some (.aload_n 0) := by decide +kernel
theorem d216_1 : mm_dec q216 1 = some (.getfield 265) := by decide +kernel
theorem d216_4 : mm_dec q216 4 = some (.ifCond .eq 8) := by decide +kernel
theorem d216_7 : mm_dec q216 7 = some (.iload_n 1) := by decide +kernel
theorem d216_8 : mm_dec q216 8 = some (.iconst (-1)) := by decide +kernel
theorem d216_9 : mm_dec q216 9 = some (.if_icmp .ge 5) := by decide +kernel
theorem d216_12 : mm_dec q216 12 = some (.iconst (-1)) := by decide +kernel
theorem d216_13 : mm_dec q216 13 = some (.ireturn) := by decide +kernel
theorem d216_14 : mm_dec q216 14 = some (.aload_n 0) := by decide +kernel
theorem d216_15 : mm_dec q216 15 = some (.invokevirtual 356) := by decide +kernel
theorem d216_18 : mm_dec q216 18 = some (.aload_n 0) := by decide +kernel
theorem d216_19 : mm_dec q216 19 = some (.iconst 0) := by decide +kernel
theorem d216_20 : mm_dec q216 20 = some (.putfield 274) := by decide +kernel
theorem d216_23 : mm_dec q216 23 = some (.iconst 0) := by decide +kernel
theorem d216_24 : mm_dec q216 24 = some (.istore_n 2) := by decide +kernel
theorem d216_25 : mm_dec q216 25 = some (.iload_n 2) := by decide +kernel
theorem d216_26 : mm_dec q216 26 = some (.iconst 2) := by decide +kernel
theorem d216_27 : mm_dec q216 27 = some (.if_icmp .ge 16) := by decide +kernel
theorem d216_30 : mm_dec q216 30 = some (.aload_n 0) := by decide +kernel
theorem d216_31 : mm_dec q216 31 = some (.getfield 61) := by decide +kernel
theorem d216_34 : mm_dec q216 34 = some (.iload_n 2) := by decide +kernel
theorem d216_35 : mm_dec q216 35 = some (.iconst 0) := by decide +kernel
theorem d216_36 : mm_dec q216 36 = some (.iastore) := by decide +kernel
theorem d216_37 : mm_dec q216 37 = some (.iinc 2 1) := by decide +kernel
theorem d216_40 : mm_dec q216 40 = some (.goto (-15)) := by decide +kernel
theorem d216_43 : mm_dec q216 43 = some (.iconst 0) := by decide +kernel
theorem d216_44 : mm_dec q216 44 = some (.istore_n 2) := by decide +kernel
theorem d216_45 : mm_dec q216 45 = some (.iload_n 2) := by decide +kernel
theorem d216_46 : mm_dec q216 46 = some (.aload_n 0) := by decide +kernel
theorem d216_47 : mm_dec q216 47 = some (.getfield 93) := by decide +kernel
theorem d216_50 : mm_dec q216 50 = some (.arraylength) := by decide +kernel
theorem d216_51 : mm_dec q216 51 = some (.if_icmp .ge 26) := by decide +kernel
theorem d216_54 : mm_dec q216 54 = some (.aload_n 0) := by decide +kernel
theorem d216_55 : mm_dec q216 55 = some (.iconst 0) := by decide +kernel
theorem d216_56 : mm_dec q216 56 = some (.invokevirtual 349) := by decide +kernel
theorem d216_59 : mm_dec q216 59 = some (.aload_n 0) := by decide +kernel
theorem d216_60 : mm_dec q216 60 = some (.getfield 93) := by decide +kernel
theorem d216_63 : mm_dec q216 63 = some (.iload_n 2) := by decide +kernel
theorem d216_64 : mm_dec q216 64 = some (.aload_n 0) := by decide +kernel
theorem d216_65 : mm_dec q216 65 = some (.getfield 67) := by decide +kernel
theorem d216_68 : mm_dec q216 68 = some (.iconst 0) := by decide +kernel
theorem d216_69 : mm_dec q216 69 = some (.baload) := by decide +kernel
theorem d216_70 : mm_dec q216 70 = some (.bastore) := by decide +kernel
theorem d216_71 : mm_dec q216 71 = some (.iinc 2 1) := by decide +kernel
theorem d216_74 : mm_dec q216 74 = some (.goto (-29)) := by decide +kernel
theorem d216_77 : mm_dec q216 77 = some (.aload_n 0) := by decide +kernel
theorem d216_78 : mm_dec q216 78 = some (.invokevirtual 362) := by decide +kernel
theorem d216_81 : mm_dec q216 81 = some (.iconst 0) := by decide +kernel
theorem d216_82 : mm_dec q216 82 = some (.istore_n 2) := by decide +kernel
theorem d216_83 : mm_dec q216 83 = some (.iconst 0) := by decide +kernel
theorem d216_84 : mm_dec q216 84 = some (.istore_n 3) := by decide +kernel
theorem d216_85 : mm_dec q216 85 = some (.iload_n 3) := by decide +kernel
theorem d216_86 : mm_dec q216 86 = some (.sipush 480) := by decide +kernel
theorem d216_89 : mm_dec q216 89 = some (.if_icmp .ge 27) := by decide +kernel
theorem d216_92 : mm_dec q216 92 = some (.aload_n 0) := by decide +kernel
theorem d216_93 : mm_dec q216 93 = some (.iload_n 3) := by decide +kernel
theorem d216_94 : mm_dec q216 94 = some (.invokevirtual 379) := by decide +kernel
theorem d216_97 : mm_dec q216 97 = some (.ifCond .eq 13) := by decide +kernel
theorem d216_100 : mm_dec q216 100 = some (.iload_n 2) := by decide +kernel
theorem d216_101 : mm_dec q216 101 = some (.iload_n 1) := by decide +kernel
theorem d216_102 : mm_dec q216 102 = some (.if_icmp .ne 5) := by decide +kernel
theorem d216_105 : mm_dec q216 105 = some (.iload_n 3) := by decide +kernel
theorem d216_106 : mm_dec q216 106 = some (.ireturn) := by decide +kernel
theorem d216_107 : mm_dec q216 107 = some (.iinc 2 1) := by decide +kernel
theorem d216_110 : mm_dec q216 110 = some (.iinc 3 1) := by decide +kernel
theorem d216_113 : mm_dec q216 113 = some (.goto (-28)) := by decide +kernel
theorem d216_116 : mm_dec q216 116 = some (.iload_n 1) := by decide +kernel
theorem d216_117 : mm_dec q216 117 = some (.iconst (-1)) := by decide +kernel
theorem d216_118 : mm_dec q216 118 = some (.if_icmp .ne 7) := by decide +kernel
theorem d216_121 : mm_dec q216 121 = some (.iload_n 2) := by decide +kernel
theorem d216_122 : mm_dec q216 122 = some (.goto 4) := by decide +kernel
theorem d216_125 : mm_dec q216 125 = some (.iconst (-1)) := by decide +kernel
theorem d216_126 : mm_dec q216 126 = some (.ireturn) := by decide +kernel
theorem d217_0 : mm_dec q217 0 = some (.aload_n 0) := by decide +kernel
theorem d217_1 : mm_dec q217 1 = some (.iload_n 1) := by decide +kernel
theorem d217_2 : mm_dec q217 2 = some (.invokevirtual 324) := by decide +kernel
theorem d217_5 : mm_dec q217 5 = some (.ifCond .eq 18) := by decide +kernel
theorem d217_8 : mm_dec q217 8 = some (.aload_n 0) := by decide +kernel
theorem d217_9 : mm_dec q217 9 = some (.getfield 58) := by decide +kernel
theorem d217_12 : mm_dec q217 12 = some (.iload_n 1) := by decide +kernel
theorem d217_13 : mm_dec q217 13 = some (.iaload) := by decide +kernel
theorem d217_14 : mm_dec q217 14 = some (.iconst (-1)) := by decide +kernel
theorem d217_15 : mm_dec q217 15 = some (.if_icmp .ne 8) := by decide +kernel
theorem d217_18 : mm_dec q217 18 = some (.iload_n 2) := by decide +kernel
theorem d217_19 : mm_dec q217 19 = some (.iconst (-1)) := by decide +kernel
theorem d217_20 : mm_dec q217 20 = some (.if_icmp .ge 5) := by decide +kernel
theorem d217_23 : mm_dec q217 23 = some (.iconst (-1)) := by decide +kernel
theorem d217_24 : mm_dec q217 24 = some (.ireturn) := by decide +kernel
theorem d217_25 : mm_dec q217 25 = some (.aload_n 0) := by decide +kernel
theorem d217_26 : mm_dec q217 26 = some (.getfield 49) := by decide +kernel
theorem d217_29 : mm_dec q217 29 = some (.iconst 4) := by decide +kernel
theorem d217_30 : mm_dec q217 30 = some (.iload_n 1) := by decide +kernel
theorem d217_31 : mm_dec q217 31 = some (.imul) := by decide +kernel
theorem d217_32 : mm_dec q217 32 = some (.iaload) := by decide +kernel
theorem d217_33 : mm_dec q217 33 = some (.istore_n 3) := by decide +kernel
theorem d217_34 : mm_dec q217 34 = some (.iconst 0) := by decide +kernel
theorem d217_35 : mm_dec q217 35 = some (.istore 4) := by decide +kernel
theorem d217_37 : mm_dec q217 37 = some (.iconst (-1)) := by decide +kernel
theorem d217_38 : mm_dec q217 38 = some (.istore 5) := by decide +kernel
theorem d217_40 : mm_dec q217 40 = some (.iconst 0) := by decide +kernel
theorem d217_41 : mm_dec q217 41 = some (.istore 6) := by decide +kernel
theorem d217_43 : mm_dec q217 43 = some (.iload 6) := by decide +kernel
theorem d217_45 : mm_dec q217 45 = some (.bipush 60) := by decide +kernel
theorem d217_47 : mm_dec q217 47 = some (.if_icmp .ge 87) := by decide +kernel
theorem d217_50 : mm_dec q217 50 = some (.aload_n 0) := by decide +kernel
theorem d217_51 : mm_dec q217 51 = some (.getfield 49) := by decide +kernel
theorem d217_54 : mm_dec q217 54 = some (.iconst 4) := by decide +kernel
theorem d217_55 : mm_dec q217 55 = some (.iload_n 1) := by decide +kernel
theorem d217_56 : mm_dec q217 56 = some (.imul) := by decide +kernel
theorem d217_57 : mm_dec q217 57 = some (.iload 6) := by decide +kernel
theorem d217_59 : mm_dec q217 59 = some (.iastore) := by decide +kernel
theorem d217_60 : mm_dec q217 60 = some (.aload_n 0) := by decide +kernel
theorem d217_61 : mm_dec q217 61 = some (.invokevirtual 356) := by decide +kernel
theorem d217_64 : mm_dec q217 64 = some (.iconst 0) := by decide +kernel
theorem d217_65 : mm_dec q217 65 = some (.istore 7) := by decide +kernel
theorem d217_67 : mm_dec q217 67 = some (.iload 7) := by decide +kernel
theorem d217_69 : mm_dec q217 69 = some (.bipush 60) := by decide +kernel
theorem d217_71 : mm_dec q217 71 = some (.if_icmp .gt 27) := by decide +kernel
theorem d217_74 : mm_dec q217 74 = some (.aload_n 0) := by decide +kernel
theorem d217_75 : mm_dec q217 75 = some (.iconst 0) := by decide +kernel
theorem d217_76 : mm_dec q217 76 = some (.invokevirtual 349) := by decide +kernel
theorem d217_79 : mm_dec q217 79 = some (.aload_n 0) := by decide +kernel
theorem d217_80 : mm_dec q217 80 = some (.getfield 93) := by decide +kernel
theorem d217_83 : mm_dec q217 83 = some (.iload 7) := by decide +kernel
theorem d217_85 : mm_dec q217 85 = some (.aload_n 0) := by decide +kernel
theorem d217_86 : mm_dec q217 86 = some (.getfield 67) := by decide +kernel
theorem d217_89 : mm_dec q217 89 = some (.iconst 0) := by decide +kernel
theorem d217_90 : mm_dec q217 90 = some (.baload) := by decide +kernel
theorem d217_91 : mm_dec q217 91 = some (.bastore) := by decide +kernel
theorem d217_92 : mm_dec q217 92 = some (.iinc 7 1) := by decide +kernel
theorem d217_95 : mm_dec q217 95 = some (.goto (-28)) := by decide +kernel
theorem d217_98 : mm_dec q217 98 = some (.aload_n 0) := by decide +kernel
theorem d217_99 : mm_dec q217 99 = some (.invokevirtual 362) := by decide +kernel
theorem d217_102 : mm_dec q217 102 = some (.aload_n 0) := by decide +kernel
theorem d217_103 : mm_dec q217 103 = some (.iconst 0) := by decide +kernel
theorem d217_104 : mm_dec q217 104 = some (.invokevirtual 379) := by decide +kernel
theorem d217_107 : mm_dec q217 107 = some (.ifCond .eq 21) := by decide +kernel
theorem d217_110 : mm_dec q217 110 = some (.iload 4) := by decide +kernel
theorem d217_112 : mm_dec q217 112 = some (.iload_n 2) := by decide +kernel
theorem d217_113 : mm_dec q217 113 = some (.if_icmp .ne 8) := by decide +kernel
theorem d217_116 : mm_dec q217 116 = some (.iload 6) := by decide +kernel
theorem d217_118 : mm_dec q217 118 = some (.goto 5) := by decide +kernel
theorem d217_121 : mm_dec q217 121 = some (.iload 5) := by decide +kernel
theorem d217_123 : mm_dec q217 123 = some (.istore 5) := by decide +kernel
theorem d217_125 : mm_dec q217 125 = some (.iinc 4 1) := by decide +kernel
theorem d217_128 : mm_dec q217 128 = some (.iinc 6 1) := by decide +kernel
theorem d217_131 : mm_dec q217 131 = some (.goto (-88)) := by decide +kernel
theorem d217_134 : mm_dec q217 134 = some (.aload_n 0) := by decide +kernel
theorem d217_135 : mm_dec q217 135 = some (.getfield 49) := by decide +kernel
theorem d217_138 : mm_dec q217 138 = some (.iconst 4) := by decide +kernel
theorem d217_139 : mm_dec q217 139 = some (.iload_n 1) := by decide +kernel
theorem d217_140 : mm_dec q217 140 = some (.imul) := by decide +kernel
theorem d217_141 : mm_dec q217 141 = some (.iload_n 3) := by decide +kernel
theorem d217_142 : mm_dec q217 142 = some (.iastore) := by decide +kernel
theorem d217_143 : mm_dec q217 143 = some (.iload_n 2) := by decide +kernel
theorem d217_144 : mm_dec q217 144 = some (.iconst (-1)) := by decide +kernel
theorem d217_145 : mm_dec q217 145 = some (.if_icmp .ne 8) := by decide +kernel
theorem d217_148 : mm_dec q217 148 = some (.iload 4) := by decide +kernel
theorem d217_150 : mm_dec q217 150 = some (.goto 5) := by decide +kernel
theorem d217_153 : mm_dec q217 153 = some (.iload 5) := by decide +kernel
theorem d217_155 : mm_dec q217 155 = some (.ireturn) := by decide +kernel
theorem d218_0 : mm_dec q218 0 = some (.lload_n 3) := by decide +kernel
theorem d218_1 : mm_dec q218 1 = some (.lconst 0) := by decide +kernel
theorem d218_2 : mm_dec q218 2 = some (.lcmp) := by decide +kernel
theorem d218_3 : mm_dec q218 3 = some (.ifCond .ne 5) := by decide +kernel
theorem d218_6 : mm_dec q218 6 = some (.lconst 0) := by decide +kernel
theorem d218_7 : mm_dec q218 7 = some (.lreturn) := by decide +kernel
theorem d218_8 : mm_dec q218 8 = some (.iload_n 1) := by decide +kernel
theorem d218_9 : mm_dec q218 9 = some (.iload_n 2) := by decide +kernel
theorem d218_10 : mm_dec q218 10 = some (.if_icmp .ne 18) := by decide +kernel
theorem d218_13 : mm_dec q218 13 = some (.aload_n 0) := by decide +kernel
theorem d218_14 : mm_dec q218 14 = some (.getfield 61) := by decide +kernel
theorem d218_17 : mm_dec q218 17 = some (.iconst 0) := by decide +kernel
theorem d218_18 : mm_dec q218 18 = some (.iaload) := by decide +kernel
theorem d218_19 : mm_dec q218 19 = some (.ifCond .ne 7) := by decide +kernel
theorem d218_22 : mm_dec q218 22 = some (.lload_n 3) := by decide +kernel
theorem d218_23 : mm_dec q218 23 = some (.goto 4) := by decide +kernel
theorem d218_26 : mm_dec q218 26 = some (.lconst 0) := by decide +kernel
theorem d218_27 : mm_dec q218 27 = some (.lreturn) := by decide +kernel
theorem d218_28 : mm_dec q218 28 = some (.iconst 0) := by decide +kernel
theorem d218_29 : mm_dec q218 29 = some (.istore 5) := by decide +kernel
theorem d218_31 : mm_dec q218 31 = some (.iload 5) := by decide +kernel
theorem d218_33 : mm_dec q218 33 = some (.iconst 2) := by decide +kernel
theorem d218_34 : mm_dec q218 34 = some (.if_icmp .ge 27) := by decide +kernel
theorem d218_37 : mm_dec q218 37 = some (.aload_n 0) := by decide +kernel
theorem d218_38 : mm_dec q218 38 = some (.getfield 96) := by decide +kernel
theorem d218_41 : mm_dec q218 41 = some (.iconst 2) := by decide +kernel
theorem d218_42 : mm_dec q218 42 = some (.iload_n 1) := by decide +kernel
theorem d218_43 : mm_dec q218 43 = some (.imul) := by decide +kernel
theorem d218_44 : mm_dec q218 44 = some (.iload 5) := by decide +kernel
theorem d218_46 : mm_dec q218 46 = some (.iadd) := by decide +kernel
theorem d218_47 : mm_dec q218 47 = some (.aload_n 0) := by decide +kernel
theorem d218_48 : mm_dec q218 48 = some (.getfield 61) := by decide +kernel
theorem d218_51 : mm_dec q218 51 = some (.iload 5) := by decide +kernel
theorem d218_53 : mm_dec q218 53 = some (.iaload) := by decide +kernel
theorem d218_54 : mm_dec q218 54 = some (.iastore) := by decide +kernel
theorem d218_55 : mm_dec q218 55 = some (.iinc 5 1) := by decide +kernel
theorem d218_58 : mm_dec q218 58 = some (.goto (-27)) := by decide +kernel
theorem d218_61 : mm_dec q218 61 = some (.lload_n 3) := by decide +kernel
theorem d218_62 : mm_dec q218 62 = some (.aload_n 0) := by decide +kernel
theorem d218_63 : mm_dec q218 63 = some (.getfield 330) := by decide +kernel
theorem d218_66 : mm_dec q218 66 = some (.i2l) := by decide +kernel
theorem d218_67 : mm_dec q218 67 = some (.lmul) := by decide +kernel
theorem d218_68 : mm_dec q218 68 = some (.ldc2_w 347) := by decide +kernel
theorem d218_71 : mm_dec q218 71 = some (.ldiv) := by decide +kernel
theorem d218_72 : mm_dec q218 72 = some (.lstore 5) := by decide +kernel
theorem d218_74 : mm_dec q218 74 = some (.lconst 0) := by decide +kernel
theorem d218_75 : mm_dec q218 75 = some (.lstore 7) := by decide +kernel
theorem d218_77 : mm_dec q218 77 = some (.iconst 0) := by decide +kernel
theorem d218_78 : mm_dec q218 78 = some (.istore 9) := by decide +kernel
theorem d218_80 : mm_dec q218 80 = some (.iload 9) := by decide +kernel
theorem d218_82 : mm_dec q218 82 = some (.iconst 2) := by decide +kernel
theorem d218_83 : mm_dec q218 83 = some (.if_icmp .ge 93) := by decide +kernel
theorem d218_86 : mm_dec q218 86 = some (.aload_n 0) := by decide +kernel
theorem d218_87 : mm_dec q218 87 = some (.iload 9) := by decide +kernel
theorem d218_89 : mm_dec q218 89 = some (.ifCond .ne 7) := by decide +kernel
theorem d218_92 : mm_dec q218 92 = some (.iconst 1) := by decide +kernel
theorem d218_93 : mm_dec q218 93 = some (.goto 4) := by decide +kernel
theorem d218_96 : mm_dec q218 96 = some (.iconst 0) := by decide +kernel
theorem d218_97 : mm_dec q218 97 = some (.invokevirtual 349) := by decide +kernel
theorem d218_100 : mm_dec q218 100 = some (.lload 7) := by decide +kernel
theorem d218_102 : mm_dec q218 102 = some (.aload_n 0) := by decide +kernel
theorem d218_103 : mm_dec q218 103 = some (.iload_n 1) := by decide +kernel
theorem d218_104 : mm_dec q218 104 = some (.iconst 1) := by decide +kernel
theorem d218_105 : mm_dec q218 105 = some (.iadd) := by decide +kernel
theorem d218_106 : mm_dec q218 106 = some (.iload_n 2) := by decide +kernel
theorem d218_107 : mm_dec q218 107 = some (.iload 9) := by decide +kernel
theorem d218_109 : mm_dec q218 109 = some (.ifCond .ne 8) := by decide +kernel
theorem d218_112 : mm_dec q218 112 = some (.lload 5) := by decide +kernel
theorem d218_114 : mm_dec q218 114 = some (.goto 7) := by decide +kernel
theorem d218_117 : mm_dec q218 117 = some (.lload_n 3) := by decide +kernel
theorem d218_118 : mm_dec q218 118 = some (.lload 5) := by decide +kernel
theorem d218_120 : mm_dec q218 120 = some (.lsub) := by decide +kernel
theorem d218_121 : mm_dec q218 121 = some (.invokevirtual 382) := by decide +kernel
theorem d218_124 : mm_dec q218 124 = some (.ladd) := by decide +kernel
theorem d218_125 : mm_dec q218 125 = some (.lstore 7) := by decide +kernel
theorem d218_127 : mm_dec q218 127 = some (.iconst 0) := by decide +kernel
theorem d218_128 : mm_dec q218 128 = some (.istore 10) := by decide +kernel
theorem d218_130 : mm_dec q218 130 = some (.iload 10) := by decide +kernel
theorem d218_132 : mm_dec q218 132 = some (.iconst 2) := by decide +kernel
theorem d218_133 : mm_dec q218 133 = some (.if_icmp .ge 27) := by decide +kernel
theorem d218_136 : mm_dec q218 136 = some (.aload_n 0) := by decide +kernel
theorem d218_137 : mm_dec q218 137 = some (.getfield 61) := by decide +kernel
theorem d218_140 : mm_dec q218 140 = some (.iload 10) := by decide +kernel
theorem d218_142 : mm_dec q218 142 = some (.aload_n 0) := by decide +kernel
theorem d218_143 : mm_dec q218 143 = some (.getfield 96) := by decide +kernel
theorem d218_146 : mm_dec q218 146 = some (.iconst 2) := by decide +kernel
theorem d218_147 : mm_dec q218 147 = some (.iload_n 1) := by decide +kernel
theorem d218_148 : mm_dec q218 148 = some (.imul) := by decide +kernel
theorem d218_149 : mm_dec q218 149 = some (.iload 10) := by decide +kernel
theorem d218_151 : mm_dec q218 151 = some (.iadd) := by decide +kernel
theorem d218_152 : mm_dec q218 152 = some (.iaload) := by decide +kernel
theorem d218_153 : mm_dec q218 153 = some (.iastore) := by decide +kernel
theorem d218_154 : mm_dec q218 154 = some (.iinc 10 1) := by decide +kernel
theorem d218_157 : mm_dec q218 157 = some (.goto (-27)) := by decide +kernel
theorem d218_160 : mm_dec q218 160 = some (.aload_n 0) := by decide +kernel
theorem d218_161 : mm_dec q218 161 = some (.dup) := by decide +kernel
theorem d218_162 : mm_dec q218 162 = some (.getfield 274) := by decide +kernel
theorem d218_165 : mm_dec q218 165 = some (.iconst 1) := by decide +kernel
theorem d218_166 : mm_dec q218 166 = some (.isub) := by decide +kernel
theorem d218_167 : mm_dec q218 167 = some (.putfield 274) := by decide +kernel
theorem d218_170 : mm_dec q218 170 = some (.iinc 9 1) := by decide +kernel
theorem d218_173 : mm_dec q218 173 = some (.goto (-93)) := by decide +kernel
theorem d218_176 : mm_dec q218 176 = some (.lload 7) := by decide +kernel
theorem d218_178 : mm_dec q218 178 = some (.lreturn) := by decide +kernel
theorem d219_0 : mm_dec q219 0 = some (.aload_n 0) := by decide +kernel
theorem d219_1 : mm_dec q219 1 = some (.getfield 265) := by decide +kernel
theorem d219_4 : mm_dec q219 4 = some (.ifCond .eq 13) := by decide +kernel
theorem d219_7 : mm_dec q219 7 = some (.iload_n 1) := by decide +kernel
theorem d219_8 : mm_dec q219 8 = some (.iconst 1) := by decide +kernel
theorem d219_9 : mm_dec q219 9 = some (.bipush 10) := by decide +kernel
theorem d219_11 : mm_dec q219 11 = some (.invokestatic 218) := by decide +kernel
theorem d219_14 : mm_dec q219 14 = some (.ifCond .ne 5) := by decide +kernel
theorem d219_17 : mm_dec q219 17 = some (.iconst (-1)) := by decide +kernel
theorem d219_18 : mm_dec q219 18 = some (.ireturn) := by decide +kernel
theorem d219_19 : mm_dec q219 19 = some (.aload_n 0) := by decide +kernel
theorem d219_20 : mm_dec q219 20 = some (.invokevirtual 356) := by decide +kernel
theorem d219_23 : mm_dec q219 23 = some (.aload_n 0) := by decide +kernel
theorem d219_24 : mm_dec q219 24 = some (.iconst 0) := by decide +kernel
theorem d219_25 : mm_dec q219 25 = some (.iload_n 1) := by decide +kernel
theorem d219_26 : mm_dec q219 26 = some (.ldc2_w 386) := by decide +kernel
theorem d219_29 : mm_dec q219 29 = some (.invokevirtual 382) := by decide +kernel
theorem d219_32 : mm_dec q219 32 = some (.lstore_n 2) := by decide +kernel
theorem d219_33 : mm_dec q219 33 = some (.aload_n 0) := by decide +kernel
theorem d219_34 : mm_dec q219 34 = some (.invokevirtual 362) := by decide +kernel
theorem d219_37 : mm_dec q219 37 = some (.lload_n 2) := by decide +kernel
theorem d219_38 : mm_dec q219 38 = some (.l2i) := by decide +kernel
theorem d219_39 : mm_dec q219 39 = some (.ireturn) := by decide +kernel
theorem d220_0 : mm_dec q220 0 = some (.aload_n 0) := by decide +kernel
theorem d220_1 : mm_dec q220 1 = some (.getfield 265) := by decide +kernel
theorem d220_4 : mm_dec q220 4 = some (.ifCond .ne 5) := by decide +kernel
theorem d220_7 : mm_dec q220 7 = some (.iconst (-1)) := by decide +kernel
theorem d220_8 : mm_dec q220 8 = some (.ireturn) := by decide +kernel
theorem d220_9 : mm_dec q220 9 = some (.iconst 0) := by decide +kernel
theorem d220_10 : mm_dec q220 10 = some (.istore_n 1) := by decide +kernel
theorem d220_11 : mm_dec q220 11 = some (.iload_n 1) := by decide +kernel
theorem d220_12 : mm_dec q220 12 = some (.iconst 2) := by decide +kernel
theorem d220_13 : mm_dec q220 13 = some (.if_icmp .ge 39) := by decide +kernel
theorem d220_16 : mm_dec q220 16 = some (.aload_n 0) := by decide +kernel
theorem d220_17 : mm_dec q220 17 = some (.getfield 99) := by decide +kernel
theorem d220_20 : mm_dec q220 20 = some (.iconst 2) := by decide +kernel
theorem d220_21 : mm_dec q220 21 = some (.iload_n 1) := by decide +kernel
theorem d220_22 : mm_dec q220 22 = some (.imul) := by decide +kernel
theorem d220_23 : mm_dec q220 23 = some (.aload_n 0) := by decide +kernel
theorem d220_24 : mm_dec q220 24 = some (.getfield 61) := by decide +kernel
theorem d220_27 : mm_dec q220 27 = some (.iload_n 1) := by decide +kernel
theorem d220_28 : mm_dec q220 28 = some (.iaload) := by decide +kernel
theorem d220_29 : mm_dec q220 29 = some (.iastore) := by decide +kernel
theorem d220_30 : mm_dec q220 30 = some (.aload_n 0) := by decide +kernel
theorem d220_31 : mm_dec q220 31 = some (.getfield 99) := by decide +kernel
theorem d220_34 : mm_dec q220 34 = some (.iconst 2) := by decide +kernel
theorem d220_35 : mm_dec q220 35 = some (.iload_n 1) := by decide +kernel
theorem d220_36 : mm_dec q220 36 = some (.imul) := by decide +kernel
theorem d220_37 : mm_dec q220 37 = some (.iconst 1) := by decide +kernel
theorem d220_38 : mm_dec q220 38 = some (.iadd) := by decide +kernel
theorem d220_39 : mm_dec q220 39 = some (.aload_n 0) := by decide +kernel
theorem d220_40 : mm_dec q220 40 = some (.getfield 64) := by decide +kernel
theorem d220_43 : mm_dec q220 43 = some (.iload_n 1) := by decide +kernel
theorem d220_44 : mm_dec q220 44 = some (.iaload) := by decide +kernel
theorem d220_45 : mm_dec q220 45 = some (.iastore) := by decide +kernel
theorem d220_46 : mm_dec q220 46 = some (.iinc 1 1) := by decide +kernel
theorem d220_49 : mm_dec q220 49 = some (.goto (-38)) := by decide +kernel
theorem d220_52 : mm_dec q220 52 = some (.aload_n 0) := by decide +kernel
theorem d220_53 : mm_dec q220 53 = some (.aload_n 0) := by decide +kernel
theorem d220_54 : mm_dec q220 54 = some (.getfield 274) := by decide +kernel
theorem d220_57 : mm_dec q220 57 = some (.putfield 388) := by decide +kernel
theorem d220_60 : mm_dec q220 60 = some (.aload_n 0) := by decide +kernel
theorem d220_61 : mm_dec q220 61 = some (.aload_n 0) := by decide +kernel
theorem d220_62 : mm_dec q220 62 = some (.getfield 333) := by decide +kernel
theorem d220_65 : mm_dec q220 65 = some (.putfield 391) := by decide +kernel
theorem d220_68 : mm_dec q220 68 = some (.aload_n 0) := by decide +kernel
theorem d220_69 : mm_dec q220 69 = some (.iconst 1) := by decide +kernel
theorem d220_70 : mm_dec q220 70 = some (.putfield 283) := by decide +kernel
theorem d220_73 : mm_dec q220 73 = some (.aload_n 0) := by decide +kernel
theorem d220_74 : mm_dec q220 74 = some (.getfield 274) := by decide +kernel
theorem d220_77 : mm_dec q220 77 = some (.ireturn) := by decide +kernel
theorem d221_0 : mm_dec q221 0 = some (.aload_n 0) := by decide +kernel
theorem d221_1 : mm_dec q221 1 = some (.getfield 283) := by decide +kernel
theorem d221_4 : mm_dec q221 4 = some (.ifCond .ne 5) := by decide +kernel
theorem d221_7 : mm_dec q221 7 = some (.iconst (-1)) := by decide +kernel
theorem d221_8 : mm_dec q221 8 = some (.ireturn) := by decide +kernel
theorem d221_9 : mm_dec q221 9 = some (.iconst 0) := by decide +kernel
theorem d221_10 : mm_dec q221 10 = some (.istore_n 1) := by decide +kernel
theorem d221_11 : mm_dec q221 11 = some (.iload_n 1) := by decide +kernel
theorem d221_12 : mm_dec q221 12 = some (.iconst 2) := by decide +kernel
theorem d221_13 : mm_dec q221 13 = some (.if_icmp .ge 39) := by decide +kernel
theorem d221_16 : mm_dec q221 16 = some (.aload_n 0) := by decide +kernel
theorem d221_17 : mm_dec q221 17 = some (.getfield 61) := by decide +kernel
theorem d221_20 : mm_dec q221 20 = some (.iload_n 1) := by decide +kernel
theorem d221_21 : mm_dec q221 21 = some (.aload_n 0) := by decide +kernel
theorem d221_22 : mm_dec q221 22 = some (.getfield 99) := by decide +kernel
theorem d221_25 : mm_dec q221 25 = some (.iconst 2) := by decide +kernel
theorem d221_26 : mm_dec q221 26 = some (.iload_n 1) := by decide +kernel
theorem d221_27 : mm_dec q221 27 = some (.imul) := by decide +kernel
theorem d221_28 : mm_dec q221 28 = some (.iaload) := by decide +kernel
theorem d221_29 : mm_dec q221 29 = some (.iastore) := by decide +kernel
theorem d221_30 : mm_dec q221 30 = some (.aload_n 0) := by decide +kernel
theorem d221_31 : mm_dec q221 31 = some (.getfield 64) := by decide +kernel
theorem d221_34 : mm_dec q221 34 = some (.iload_n 1) := by decide +kernel
theorem d221_35 : mm_dec q221 35 = some (.aload_n 0) := by decide +kernel
theorem d221_36 : mm_dec q221 36 = some (.getfield 99) := by decide +kernel
theorem d221_39 : mm_dec q221 39 = some (.iconst 2) := by decide +kernel
theorem d221_40 : mm_dec q221 40 = some (.iload_n 1) := by decide +kernel
theorem d221_41 : mm_dec q221 41 = some (.imul) := by decide +kernel
theorem d221_42 : mm_dec q221 42 = some (.iconst 1) := by decide +kernel
theorem d221_43 : mm_dec q221 43 = some (.iadd) := by decide +kernel
theorem d221_44 : mm_dec q221 44 = some (.iaload) := by decide +kernel
theorem d221_45 : mm_dec q221 45 = some (.iastore) := by decide +kernel
theorem d221_46 : mm_dec q221 46 = some (.iinc 1 1) := by decide +kernel
theorem d221_49 : mm_dec q221 49 = some (.goto (-38)) := by decide +kernel
theorem d221_52 : mm_dec q221 52 = some (.aload_n 0) := by decide +kernel
theorem d221_53 : mm_dec q221 53 = some (.aload_n 0) := by decide +kernel
theorem d221_54 : mm_dec q221 54 = some (.getfield 388) := by decide +kernel
theorem d221_57 : mm_dec q221 57 = some (.putfield 274) := by decide +kernel
theorem d221_60 : mm_dec q221 60 = some (.aload_n 0) := by decide +kernel
theorem d221_61 : mm_dec q221 61 = some (.aload_n 0) := by decide +kernel
theorem d221_62 : mm_dec q221 62 = some (.getfield 391) := by decide +kernel
theorem d221_65 : mm_dec q221 65 = some (.putfield 333) := by decide +kernel
theorem d221_68 : mm_dec q221 68 = some (.aload_n 0) := by decide +kernel
theorem d221_69 : mm_dec q221 69 = some (.iconst 0) := by decide +kernel
theorem d221_70 : mm_dec q221 70 = some (.putfield 277) := by decide +kernel
theorem d221_73 : mm_dec q221 73 = some (.aload_n 0) := by decide +kernel
theorem d221_74 : mm_dec q221 74 = some (.getfield 274) := by decide +kernel
theorem d221_77 : mm_dec q221 77 = some (.ireturn) := by decide +kernel
theorem d222_0 : mm_dec q222 0 = some (.iload_n 1) := by decide +kernel
theorem d222_1 : mm_dec q222 1 = some (.tableswitch 111 0 7 #[47, 52, 57, 62, 67, 72, 101, 106]) := by decide +kernel
theorem d222_48 : mm_dec q222 48 = some (.aload_n 0) := by decide +kernel
theorem d222_49 : mm_dec q222 49 = some (.getfield 265) := by decide +kernel
theorem d222_52 : mm_dec q222 52 = some (.ireturn) := by decide +kernel
theorem d222_53 : mm_dec q222 53 = some (.aload_n 0) := by decide +kernel
theorem d222_54 : mm_dec q222 54 = some (.getfield 268) := by decide +kernel
theorem d222_57 : mm_dec q222 57 = some (.ireturn) := by decide +kernel
theorem d222_58 : mm_dec q222 58 = some (.aload_n 0) := by decide +kernel
theorem d222_59 : mm_dec q222 59 = some (.getfield 289) := by decide +kernel
theorem d222_62 : mm_dec q222 62 = some (.ireturn) := by decide +kernel
theorem d222_63 : mm_dec q222 63 = some (.aload_n 0) := by decide +kernel
theorem d222_64 : mm_dec q222 64 = some (.getfield 110) := by decide +kernel
theorem d222_67 : mm_dec q222 67 = some (.ireturn) := by decide +kernel
theorem d222_68 : mm_dec q222 68 = some (.aload_n 0) := by decide +kernel
theorem d222_69 : mm_dec q222 69 = some (.getfield 274) := by decide +kernel
theorem d222_72 : mm_dec q222 72 = some (.ireturn) := by decide +kernel
theorem d222_73 : mm_dec q222 73 = some (.aload_n 0) := by decide +kernel
theorem d222_74 : mm_dec q222 74 = some (.getfield 265) := by decide +kernel
theorem d222_77 : mm_dec q222 77 = some (.ifCond .ne 7) := by decide +kernel
theorem d222_80 : mm_dec q222 80 = some (.iconst 0) := by decide +kernel
theorem d222_81 : mm_dec q222 81 = some (.goto 20) := by decide +kernel
theorem d222_84 : mm_dec q222 84 = some (.aload_n 0) := by decide +kernel
theorem d222_85 : mm_dec q222 85 = some (.getfield 271) := by decide +kernel
theorem d222_88 : mm_dec q222 88 = some (.ifCond .eq 12) := by decide +kernel
theorem d222_91 : mm_dec q222 91 = some (.aload_n 0) := by decide +kernel
theorem d222_92 : mm_dec q222 92 = some (.getfield 52) := by decide +kernel
theorem d222_95 : mm_dec q222 95 = some (.iconst 3) := by decide +kernel
theorem d222_96 : mm_dec q222 96 = some (.iaload) := by decide +kernel
theorem d222_97 : mm_dec q222 97 = some (.goto 4) := by decide +kernel
theorem d222_100 : mm_dec q222 100 = some (.iconst (-1)) := by decide +kernel
theorem d222_101 : mm_dec q222 101 = some (.ireturn) := by decide +kernel
theorem d222_102 : mm_dec q222 102 = some (.aload_n 0) := by decide +kernel
theorem d222_103 : mm_dec q222 103 = some (.getfield 280) := by decide +kernel
theorem d222_106 : mm_dec q222 106 = some (.ireturn) := by decide +kernel
theorem d222_107 : mm_dec q222 107 = some (.aload_n 0) := by decide +kernel
theorem d222_108 : mm_dec q222 108 = some (.getfield 277) := by decide +kernel
theorem d222_111 : mm_dec q222 111 = some (.ireturn) := by decide +kernel
theorem d222_112 : mm_dec q222 112 = some (.ldc_w 378) := by decide +kernel
theorem d222_115 : mm_dec q222 115 = some (.ireturn) := by decide +kernel
theorem d223_0 : mm_dec q223 0 = some (.iload_n 0) := by decide +kernel
theorem d223_1 : mm_dec q223 1 = some (.iload_n 0) := by decide +kernel
theorem d223_2 : mm_dec q223 2 = some (.iconst 1) := by decide +kernel
theorem d223_3 : mm_dec q223 3 = some (.iushr) := by decide +kernel
theorem d223_4 : mm_dec q223 4 = some (.ldc_w 265) := by decide +kernel
theorem d223_7 : mm_dec q223 7 = some (.iand) := by decide +kernel
theorem d223_8 : mm_dec q223 8 = some (.isub) := by decide +kernel
theorem d223_9 : mm_dec q223 9 = some (.istore_n 0) := by decide +kernel
theorem d223_10 : mm_dec q223 10 = some (.iload_n 0) := by decide +kernel
theorem d223_11 : mm_dec q223 11 = some (.ldc_w 266) := by decide +kernel
theorem d223_14 : mm_dec q223 14 = some (.iand) := by decide +kernel
theorem d223_15 : mm_dec q223 15 = some (.iload_n 0) := by decide +kernel
theorem d223_16 : mm_dec q223 16 = some (.iconst 2) := by decide +kernel
theorem d223_17 : mm_dec q223 17 = some (.iushr) := by decide +kernel
theorem d223_18 : mm_dec q223 18 = some (.ldc_w 266) := by decide +kernel
theorem d223_21 : mm_dec q223 21 = some (.iand) := by decide +kernel
theorem d223_22 : mm_dec q223 22 = some (.iadd) := by decide +kernel
theorem d223_23 : mm_dec q223 23 = some (.istore_n 0) := by decide +kernel
theorem d223_24 : mm_dec q223 24 = some (.iload_n 0) := by decide +kernel
theorem d223_25 : mm_dec q223 25 = some (.iload_n 0) := by decide +kernel
theorem d223_26 : mm_dec q223 26 = some (.iconst 4) := by decide +kernel
theorem d223_27 : mm_dec q223 27 = some (.iushr) := by decide +kernel
theorem d223_28 : mm_dec q223 28 = some (.iadd) := by decide +kernel
theorem d223_29 : mm_dec q223 29 = some (.ldc_w 267) := by decide +kernel
theorem d223_32 : mm_dec q223 32 = some (.iand) := by decide +kernel
theorem d223_33 : mm_dec q223 33 = some (.istore_n 0) := by decide +kernel
theorem d223_34 : mm_dec q223 34 = some (.iload_n 0) := by decide +kernel
theorem d223_35 : mm_dec q223 35 = some (.iload_n 0) := by decide +kernel
theorem d223_36 : mm_dec q223 36 = some (.bipush 8) := by decide +kernel
theorem d223_38 : mm_dec q223 38 = some (.iushr) := by decide +kernel
theorem d223_39 : mm_dec q223 39 = some (.iadd) := by decide +kernel
theorem d223_40 : mm_dec q223 40 = some (.istore_n 0) := by decide +kernel
theorem d223_41 : mm_dec q223 41 = some (.iload_n 0) := by decide +kernel
theorem d223_42 : mm_dec q223 42 = some (.iload_n 0) := by decide +kernel
theorem d223_43 : mm_dec q223 43 = some (.bipush 16) := by decide +kernel
theorem d223_45 : mm_dec q223 45 = some (.iushr) := by decide +kernel
theorem d223_46 : mm_dec q223 46 = some (.iadd) := by decide +kernel
theorem d223_47 : mm_dec q223 47 = some (.istore_n 0) := by decide +kernel
theorem d223_48 : mm_dec q223 48 = some (.iload_n 0) := by decide +kernel
theorem d223_49 : mm_dec q223 49 = some (.bipush 63) := by decide +kernel
theorem d223_51 : mm_dec q223 51 = some (.iand) := by decide +kernel
theorem d223_52 : mm_dec q223 52 = some (.ireturn) := by decide +kernel
theorem d224_0 : mm_dec q224 0 = some (.iload_n 0) := by decide +kernel
theorem d224_1 : mm_dec q224 1 = some (.iload_n 1) := by decide +kernel
theorem d224_2 : mm_dec q224 2 = some (.irem) := by decide +kernel
theorem d224_3 : mm_dec q224 3 = some (.istore_n 2) := by decide +kernel
theorem d224_4 : mm_dec q224 4 = some (.iload_n 0) := by decide +kernel
theorem d224_5 : mm_dec q224 5 = some (.iload_n 1) := by decide +kernel
theorem d224_6 : mm_dec q224 6 = some (.ixor) := by decide +kernel
theorem d224_7 : mm_dec q224 7 = some (.ifCond .ge 11) := by decide +kernel
theorem d224_10 : mm_dec q224 10 = some (.iload_n 2) := by decide +kernel
theorem d224_11 : mm_dec q224 11 = some (.ifCond .eq 7) := by decide +kernel
theorem d224_14 : mm_dec q224 14 = some (.iload_n 2) := by decide +kernel
theorem d224_15 : mm_dec q224 15 = some (.iload_n 1) := by decide +kernel
theorem d224_16 : mm_dec q224 16 = some (.iadd) := by decide +kernel
theorem d224_17 : mm_dec q224 17 = some (.ireturn) := by decide +kernel
theorem d224_18 : mm_dec q224 18 = some (.iload_n 2) := by decide +kernel
theorem d224_19 : mm_dec q224 19 = some (.ireturn) := by decide +kernel
theorem d225_0 : mm_dec q225 0 = some (.iload_n 0) := by decide +kernel
theorem d225_1 : mm_dec q225 1 = some (.iload_n 1) := by decide +kernel
theorem d225_2 : mm_dec q225 2 = some (.if_icmp .lt 7) := by decide +kernel
theorem d225_5 : mm_dec q225 5 = some (.iload_n 0) := by decide +kernel
theorem d225_6 : mm_dec q225 6 = some (.goto 4) := by decide +kernel
theorem d225_9 : mm_dec q225 9 = some (.iload_n 1) := by decide +kernel
theorem d225_10 : mm_dec q225 10 = some (.ireturn) := by decide +kernel
theorem d226_0 : mm_dec q226 0 = some (.lload_n 0) := by decide +kernel
theorem d226_1 : mm_dec q226 1 = some (.lload_n 2) := by decide +kernel
theorem d226_2 : mm_dec q226 2 = some (.lcmp) := by decide +kernel
theorem d226_3 : mm_dec q226 3 = some (.ifCond .lt 7) := by decide +kernel
theorem d226_6 : mm_dec q226 6 = some (.lload_n 0) := by decide +kernel
theorem d226_7 : mm_dec q226 7 = some (.goto 4) := by decide +kernel
theorem d226_10 : mm_dec q226 10 = some (.lload_n 2) := by decide +kernel
theorem d226_11 : mm_dec q226 11 = some (.lreturn) := by decide +kernel
theorem d227_0 : mm_dec q227 0 = some (.iload_n 0) := by decide +kernel
theorem d227_1 : mm_dec q227 1 = some (.iload_n 1) := by decide +kernel
theorem d227_2 : mm_dec q227 2 = some (.if_icmp .gt 7) := by decide +kernel
theorem d227_5 : mm_dec q227 5 = some (.iload_n 0) := by decide +kernel
theorem d227_6 : mm_dec q227 6 = some (.goto 4) := by decide +kernel
theorem d227_9 : mm_dec q227 9 = some (.iload_n 1) := by decide +kernel
theorem d227_10 : mm_dec q227 10 = some (.ireturn) := by decide +kernel
theorem d228_0 : mm_dec q228 0 = some (.lload_n 0) := by decide +kernel
theorem d228_1 : mm_dec q228 1 = some (.lload_n 2) := by decide +kernel
theorem d228_2 : mm_dec q228 2 = some (.lcmp) := by decide +kernel
theorem d228_3 : mm_dec q228 3 = some (.ifCond .gt 7) := by decide +kernel
theorem d228_6 : mm_dec q228 6 = some (.lload_n 0) := by decide +kernel
theorem d228_7 : mm_dec q228 7 = some (.goto 4) := by decide +kernel
theorem d228_10 : mm_dec q228 10 = some (.lload_n 2) := by decide +kernel
theorem d228_11 : mm_dec q228 11 = some (.lreturn) := by decide +kernel
