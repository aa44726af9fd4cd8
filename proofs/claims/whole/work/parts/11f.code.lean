theorem d194_59 : mm_dec q194 59 = some (.imul) := by decide +kernel
theorem d194_60 : mm_dec q194 60 = some (.iload_n 1) := by decide +kernel
theorem d194_61 : mm_dec q194 61 = some (.iadd) := by decide +kernel
theorem d194_62 : mm_dec q194 62 = some (.iaload) := by decide +kernel
theorem d194_63 : mm_dec q194 63 = some (.iastore) := by decide +kernel
theorem d194_64 : mm_dec q194 64 = some (.iinc 1 1) := by decide +kernel
theorem d194_67 : mm_dec q194 67 = some (.goto (-46)) := by decide +kernel
theorem d194_70 : mm_dec q194 70 = some (.aload_n 0) := by decide +kernel
theorem d194_71 : mm_dec q194 71 = some (.aload_n 0) := by decide +kernel
theorem d194_72 : mm_dec q194 72 = some (.getfield 77) := by decide +kernel
theorem d194_75 : mm_dec q194 75 = some (.aload_n 0) := by decide +kernel
theorem d194_76 : mm_dec q194 76 = some (.getfield 277) := by decide +kernel
theorem d194_79 : mm_dec q194 79 = some (.laload) := by decide +kernel
theorem d194_80 : mm_dec q194 80 = some (.putfield 333) := by decide +kernel
theorem d194_83 : mm_dec q194 83 = some (.aload_n 0) := by decide +kernel
theorem d194_84 : mm_dec q194 84 = some (.dup) := by decide +kernel
theorem d194_85 : mm_dec q194 85 = some (.getfield 274) := by decide +kernel
theorem d194_88 : mm_dec q194 88 = some (.iconst 1) := by decide +kernel
theorem d194_89 : mm_dec q194 89 = some (.isub) := by decide +kernel
theorem d194_90 : mm_dec q194 90 = some (.putfield 274) := by decide +kernel
theorem d194_93 : mm_dec q194 93 = some (.aload_n 0) := by decide +kernel
theorem d194_94 : mm_dec q194 94 = some (.getfield 274) := by decide +kernel
theorem d194_97 : mm_dec q194 97 = some (.ireturn) := by decide +kernel
theorem d195_0 : mm_dec q195 0 = some (.iconst 0) := by decide +kernel
theorem d195_1 : mm_dec q195 1 = some (.istore_n 1) := by decide +kernel
theorem d195_2 : mm_dec q195 2 = some (.iload_n 1) := by decide +kernel
theorem d195_3 : mm_dec q195 3 = some (.iconst 2) := by decide +kernel
theorem d195_4 : mm_dec q195 4 = some (.if_icmp .ge 33) := by decide +kernel
theorem d195_7 : mm_dec q195 7 = some (.aload_n 0) := by decide +kernel
theorem d195_8 : mm_dec q195 8 = some (.getfield 81) := by decide +kernel
theorem d195_11 : mm_dec q195 11 = some (.iload_n 1) := by decide +kernel
theorem d195_12 : mm_dec q195 12 = some (.aload_n 0) := by decide +kernel
theorem d195_13 : mm_dec q195 13 = some (.getfield 61) := by decide +kernel
theorem d195_16 : mm_dec q195 16 = some (.iload_n 1) := by decide +kernel
theorem d195_17 : mm_dec q195 17 = some (.iaload) := by decide +kernel
theorem d195_18 : mm_dec q195 18 = some (.iastore) := by decide +kernel
theorem d195_19 : mm_dec q195 19 = some (.aload_n 0) := by decide +kernel
theorem d195_20 : mm_dec q195 20 = some (.getfield 84) := by decide +kernel
theorem d195_23 : mm_dec q195 23 = some (.iload_n 1) := by decide +kernel
theorem d195_24 : mm_dec q195 24 = some (.aload_n 0) := by decide +kernel
theorem d195_25 : mm_dec q195 25 = some (.getfield 64) := by decide +kernel
theorem d195_28 : mm_dec q195 28 = some (.iload_n 1) := by decide +kernel
theorem d195_29 : mm_dec q195 29 = some (.iaload) := by decide +kernel
theorem d195_30 : mm_dec q195 30 = some (.iastore) := by decide +kernel
theorem d195_31 : mm_dec q195 31 = some (.iinc 1 1) := by decide +kernel
theorem d195_34 : mm_dec q195 34 = some (.goto (-32)) := by decide +kernel
theorem d195_37 : mm_dec q195 37 = some (.aload_n 0) := by decide +kernel
theorem d195_38 : mm_dec q195 38 = some (.aload_n 0) := by decide +kernel
theorem d195_39 : mm_dec q195 39 = some (.getfield 274) := by decide +kernel
theorem d195_42 : mm_dec q195 42 = some (.putfield 353) := by decide +kernel
theorem d195_45 : mm_dec q195 45 = some (.return_) := by decide +kernel
theorem d196_0 : mm_dec q196 0 = some (.iconst 0) := by decide +kernel
theorem d196_1 : mm_dec q196 1 = some (.istore_n 1) := by decide +kernel
theorem d196_2 : mm_dec q196 2 = some (.iload_n 1) := by decide +kernel
theorem d196_3 : mm_dec q196 3 = some (.iconst 2) := by decide +kernel
theorem d196_4 : mm_dec q196 4 = some (.if_icmp .ge 33) := by decide +kernel
theorem d196_7 : mm_dec q196 7 = some (.aload_n 0) := by decide +kernel
theorem d196_8 : mm_dec q196 8 = some (.getfield 61) := by decide +kernel
theorem d196_11 : mm_dec q196 11 = some (.iload_n 1) := by decide +kernel
theorem d196_12 : mm_dec q196 12 = some (.aload_n 0) := by decide +kernel
theorem d196_13 : mm_dec q196 13 = some (.getfield 81) := by decide +kernel
theorem d196_16 : mm_dec q196 16 = some (.iload_n 1) := by decide +kernel
theorem d196_17 : mm_dec q196 17 = some (.iaload) := by decide +kernel
theorem d196_18 : mm_dec q196 18 = some (.iastore) := by decide +kernel
theorem d196_19 : mm_dec q196 19 = some (.aload_n 0) := by decide +kernel
theorem d196_20 : mm_dec q196 20 = some (.getfield 64) := by decide +kernel
theorem d196_23 : mm_dec q196 23 = some (.iload_n 1) := by decide +kernel
theorem d196_24 : mm_dec q196 24 = some (.aload_n 0) := by decide +kernel
theorem d196_25 : mm_dec q196 25 = some (.getfield 84) := by decide +kernel
theorem d196_28 : mm_dec q196 28 = some (.iload_n 1) := by decide +kernel
theorem d196_29 : mm_dec q196 29 = some (.iaload) := by decide +kernel
theorem d196_30 : mm_dec q196 30 = some (.iastore) := by decide +kernel
theorem d196_31 : mm_dec q196 31 = some (.iinc 1 1) := by decide +kernel
theorem d196_34 : mm_dec q196 34 = some (.goto (-32)) := by decide +kernel
theorem d196_37 : mm_dec q196 37 = some (.aload_n 0) := by decide +kernel
theorem d196_38 : mm_dec q196 38 = some (.aload_n 0) := by decide +kernel
theorem d196_39 : mm_dec q196 39 = some (.getfield 353) := by decide +kernel
theorem d196_42 : mm_dec q196 42 = some (.putfield 274) := by decide +kernel
theorem d196_45 : mm_dec q196 45 = some (.return_) := by decide +kernel
theorem d197_0 : mm_dec q197 0 = some (.iconst 0) := by decide +kernel
theorem d197_1 : mm_dec q197 1 = some (.istore_n 2) := by decide +kernel
theorem d197_2 : mm_dec q197 2 = some (.iload_n 2) := by decide +kernel
theorem d197_3 : mm_dec q197 3 = some (.iload_n 1) := by decide +kernel
theorem d197_4 : mm_dec q197 4 = some (.if_icmp .ge 14) := by decide +kernel
theorem d197_7 : mm_dec q197 7 = some (.aload_n 0) := by decide +kernel
theorem d197_8 : mm_dec q197 8 = some (.iconst 0) := by decide +kernel
theorem d197_9 : mm_dec q197 9 = some (.invokevirtual 349) := by decide +kernel
theorem d197_12 : mm_dec q197 12 = some (.iinc 2 1) := by decide +kernel
theorem d197_15 : mm_dec q197 15 = some (.goto (-13)) := by decide +kernel
theorem d197_18 : mm_dec q197 18 = some (.return_) := by decide +kernel
theorem d198_0 : mm_dec q198 0 = some (.aload_n 0) := by decide +kernel
theorem d198_1 : mm_dec q198 1 = some (.iload_n 1) := by decide +kernel
theorem d198_2 : mm_dec q198 2 = some (.invokevirtual 327) := by decide +kernel
theorem d198_5 : mm_dec q198 5 = some (.ifCond .eq 20) := by decide +kernel
theorem d198_8 : mm_dec q198 8 = some (.aload_n 0) := by decide +kernel
theorem d198_9 : mm_dec q198 9 = some (.iload_n 2) := by decide +kernel
theorem d198_10 : mm_dec q198 10 = some (.invokevirtual 337) := by decide +kernel
theorem d198_13 : mm_dec q198 13 = some (.ifCond .eq 12) := by decide +kernel
theorem d198_16 : mm_dec q198 16 = some (.iload_n 3) := by decide +kernel
theorem d198_17 : mm_dec q198 17 = some (.iconst 0) := by decide +kernel
theorem d198_18 : mm_dec q198 18 = some (.iconst 1) := by decide +kernel
theorem d198_19 : mm_dec q198 19 = some (.invokestatic 218) := by decide +kernel
theorem d198_22 : mm_dec q198 22 = some (.ifCond .ne 5) := by decide +kernel
theorem d198_25 : mm_dec q198 25 = some (.iconst (-1)) := by decide +kernel
theorem d198_26 : mm_dec q198 26 = some (.ireturn) := by decide +kernel
theorem d198_27 : mm_dec q198 27 = some (.aload_n 0) := by decide +kernel
theorem d198_28 : mm_dec q198 28 = some (.invokevirtual 356) := by decide +kernel
theorem d198_31 : mm_dec q198 31 = some (.aload_n 0) := by decide +kernel
theorem d198_32 : mm_dec q198 32 = some (.iload_n 2) := by decide +kernel
theorem d198_33 : mm_dec q198 33 = some (.invokevirtual 359) := by decide +kernel
theorem d198_36 : mm_dec q198 36 = some (.iload_n 3) := by decide +kernel
theorem d198_37 : mm_dec q198 37 = some (.ifCond .ne 12) := by decide +kernel
theorem d198_40 : mm_dec q198 40 = some (.aload_n 0) := by decide +kernel
theorem d198_41 : mm_dec q198 41 = some (.getfield 61) := by decide +kernel
theorem d198_44 : mm_dec q198 44 = some (.iload_n 1) := by decide +kernel
theorem d198_45 : mm_dec q198 45 = some (.iaload) := by decide +kernel
theorem d198_46 : mm_dec q198 46 = some (.goto 16) := by decide +kernel
theorem d198_49 : mm_dec q198 49 = some (.aload_n 0) := by decide +kernel
theorem d198_50 : mm_dec q198 50 = some (.getfield 64) := by decide +kernel
theorem d198_53 : mm_dec q198 53 = some (.iload_n 1) := by decide +kernel
theorem d198_54 : mm_dec q198 54 = some (.iaload) := by decide +kernel
theorem d198_55 : mm_dec q198 55 = some (.aload_n 0) := by decide +kernel
theorem d198_56 : mm_dec q198 56 = some (.getfield 84) := by decide +kernel
theorem d198_59 : mm_dec q198 59 = some (.iload_n 1) := by decide +kernel
theorem d198_60 : mm_dec q198 60 = some (.iaload) := by decide +kernel
theorem d198_61 : mm_dec q198 61 = some (.isub) := by decide +kernel
theorem d198_62 : mm_dec q198 62 = some (.istore 4) := by decide +kernel
theorem d198_64 : mm_dec q198 64 = some (.aload_n 0) := by decide +kernel
theorem d198_65 : mm_dec q198 65 = some (.invokevirtual 362) := by decide +kernel
theorem d198_68 : mm_dec q198 68 = some (.iload 4) := by decide +kernel
theorem d198_70 : mm_dec q198 70 = some (.ireturn) := by decide +kernel
theorem d199_0 : mm_dec q199 0 = some (.aload_n 0) := by decide +kernel
theorem d199_1 : mm_dec q199 1 = some (.iload_n 1) := by decide +kernel
theorem d199_2 : mm_dec q199 2 = some (.invokevirtual 327) := by decide +kernel
theorem d199_5 : mm_dec q199 5 = some (.ifCond .eq 7) := by decide +kernel
theorem d199_8 : mm_dec q199 8 = some (.iload_n 2) := by decide +kernel
theorem d199_9 : mm_dec q199 9 = some (.ifCond .ge 5) := by decide +kernel
theorem d199_12 : mm_dec q199 12 = some (.iconst (-1)) := by decide +kernel
theorem d199_13 : mm_dec q199 13 = some (.ireturn) := by decide +kernel
theorem d199_14 : mm_dec q199 14 = some (.aload_n 0) := by decide +kernel
theorem d199_15 : mm_dec q199 15 = some (.invokevirtual 356) := by decide +kernel
theorem d199_18 : mm_dec q199 18 = some (.iconst 0) := by decide +kernel
theorem d199_19 : mm_dec q199 19 = some (.istore_n 3) := by decide +kernel
theorem d199_20 : mm_dec q199 20 = some (.iconst (-1)) := by decide +kernel
theorem d199_21 : mm_dec q199 21 = some (.istore 4) := by decide +kernel
theorem d199_23 : mm_dec q199 23 = some (.iconst 0) := by decide +kernel
theorem d199_24 : mm_dec q199 24 = some (.istore 5) := by decide +kernel
theorem d199_26 : mm_dec q199 26 = some (.iload 5) := by decide +kernel
theorem d199_28 : mm_dec q199 28 = some (.sipush 240) := by decide +kernel
theorem d199_31 : mm_dec q199 31 = some (.if_icmp .ge 45) := by decide +kernel
theorem d199_34 : mm_dec q199 34 = some (.iload 4) := by decide +kernel
theorem d199_36 : mm_dec q199 36 = some (.iconst (-1)) := by decide +kernel
theorem d199_37 : mm_dec q199 37 = some (.if_icmp .ne 39) := by decide +kernel
theorem d199_40 : mm_dec q199 40 = some (.aload_n 0) := by decide +kernel
theorem d199_41 : mm_dec q199 41 = some (.iconst 0) := by decide +kernel
theorem d199_42 : mm_dec q199 42 = some (.invokevirtual 349) := by decide +kernel
theorem d199_45 : mm_dec q199 45 = some (.aload_n 0) := by decide +kernel
theorem d199_46 : mm_dec q199 46 = some (.getfield 67) := by decide +kernel
theorem d199_49 : mm_dec q199 49 = some (.iload_n 1) := by decide +kernel
theorem d199_50 : mm_dec q199 50 = some (.baload) := by decide +kernel
theorem d199_51 : mm_dec q199 51 = some (.ifCond .eq 19) := by decide +kernel
theorem d199_54 : mm_dec q199 54 = some (.iload_n 3) := by decide +kernel
theorem d199_55 : mm_dec q199 55 = some (.iload_n 2) := by decide +kernel
theorem d199_56 : mm_dec q199 56 = some (.if_icmp .ne 8) := by decide +kernel
theorem d199_59 : mm_dec q199 59 = some (.iload 5) := by decide +kernel
theorem d199_61 : mm_dec q199 61 = some (.goto 4) := by decide +kernel
theorem d199_64 : mm_dec q199 64 = some (.iconst (-1)) := by decide +kernel
theorem d199_65 : mm_dec q199 65 = some (.istore 4) := by decide +kernel
theorem d199_67 : mm_dec q199 67 = some (.iinc 3 1) := by decide +kernel
theorem d199_70 : mm_dec q199 70 = some (.iinc 5 1) := by decide +kernel
theorem d199_73 : mm_dec q199 73 = some (.goto (-47)) := by decide +kernel
theorem d199_76 : mm_dec q199 76 = some (.aload_n 0) := by decide +kernel
theorem d199_77 : mm_dec q199 77 = some (.invokevirtual 362) := by decide +kernel
theorem d199_80 : mm_dec q199 80 = some (.iload 4) := by decide +kernel
theorem d199_82 : mm_dec q199 82 = some (.ireturn) := by decide +kernel
theorem d200_0 : mm_dec q200 0 = some (.aload_n 0) := by decide +kernel
theorem d200_1 : mm_dec q200 1 = some (.invokevirtual 356) := by decide +kernel
theorem d200_4 : mm_dec q200 4 = some (.iconst 0) := by decide +kernel
theorem d200_5 : mm_dec q200 5 = some (.istore_n 3) := by decide +kernel
theorem d200_6 : mm_dec q200 6 = some (.iconst 0) := by decide +kernel
theorem d200_7 : mm_dec q200 7 = some (.istore 4) := by decide +kernel
theorem d200_9 : mm_dec q200 9 = some (.iload 4) := by decide +kernel
theorem d200_11 : mm_dec q200 11 = some (.iload_n 2) := by decide +kernel
theorem d200_12 : mm_dec q200 12 = some (.if_icmp .ge 23) := by decide +kernel
theorem d200_15 : mm_dec q200 15 = some (.aload_n 0) := by decide +kernel
theorem d200_16 : mm_dec q200 16 = some (.iconst 0) := by decide +kernel
theorem d200_17 : mm_dec q200 17 = some (.invokevirtual 349) := by decide +kernel
theorem d200_20 : mm_dec q200 20 = some (.iload_n 3) := by decide +kernel
theorem d200_21 : mm_dec q200 21 = some (.aload_n 0) := by decide +kernel
theorem d200_22 : mm_dec q200 22 = some (.getfield 61) := by decide +kernel
theorem d200_25 : mm_dec q200 25 = some (.iload_n 1) := by decide +kernel
theorem d200_26 : mm_dec q200 26 = some (.iaload) := by decide +kernel
theorem d200_27 : mm_dec q200 27 = some (.iadd) := by decide +kernel
theorem d200_28 : mm_dec q200 28 = some (.istore_n 3) := by decide +kernel
theorem d200_29 : mm_dec q200 29 = some (.iinc 4 1) := by decide +kernel
theorem d200_32 : mm_dec q200 32 = some (.goto (-23)) := by decide +kernel
theorem d200_35 : mm_dec q200 35 = some (.aload_n 0) := by decide +kernel
theorem d200_36 : mm_dec q200 36 = some (.invokevirtual 362) := by decide +kernel
theorem d200_39 : mm_dec q200 39 = some (.iload_n 3) := by decide +kernel
theorem d200_40 : mm_dec q200 40 = some (.ireturn) := by decide +kernel
theorem d201_0 : mm_dec q201 0 = some (.aload_n 0) := by decide +kernel
theorem d201_1 : mm_dec q201 1 = some (.iload_n 1) := by decide +kernel
theorem d201_2 : mm_dec q201 2 = some (.invokevirtual 327) := by decide +kernel
theorem d201_5 : mm_dec q201 5 = some (.ifCond .eq 20) := by decide +kernel
theorem d201_8 : mm_dec q201 8 = some (.aload_n 0) := by decide +kernel
theorem d201_9 : mm_dec q201 9 = some (.iload_n 2) := by decide +kernel
theorem d201_10 : mm_dec q201 10 = some (.invokevirtual 337) := by decide +kernel
theorem d201_13 : mm_dec q201 13 = some (.ifCond .eq 12) := by decide +kernel
theorem d201_16 : mm_dec q201 16 = some (.aload_n 0) := by decide +kernel
theorem d201_17 : mm_dec q201 17 = some (.iload_n 1) := by decide +kernel
theorem d201_18 : mm_dec q201 18 = some (.iload_n 2) := by decide +kernel
theorem d201_19 : mm_dec q201 19 = some (.invokevirtual 365) := by decide +kernel
theorem d201_22 : mm_dec q201 22 = some (.goto 4) := by decide +kernel
theorem d201_25 : mm_dec q201 25 = some (.iconst (-1)) := by decide +kernel
theorem d201_26 : mm_dec q201 26 = some (.ireturn) := by decide +kernel
theorem d202_0 : mm_dec q202 0 = some (.aload_n 0) := by decide +kernel
theorem d202_1 : mm_dec q202 1 = some (.iload_n 1) := by decide +kernel
theorem d202_2 : mm_dec q202 2 = some (.invokevirtual 327) := by decide +kernel
theorem d202_5 : mm_dec q202 5 = some (.ifCond .eq 11) := by decide +kernel
theorem d202_8 : mm_dec q202 8 = some (.aload_n 0) := by decide +kernel
theorem d202_9 : mm_dec q202 9 = some (.iload_n 2) := by decide +kernel
theorem d202_10 : mm_dec q202 10 = some (.invokevirtual 337) := by decide +kernel
theorem d202_13 : mm_dec q202 13 = some (.ifCond .ne 5) := by decide +kernel
theorem d202_16 : mm_dec q202 16 = some (.iconst (-1)) := by decide +kernel
theorem d202_17 : mm_dec q202 17 = some (.ireturn) := by decide +kernel
theorem d202_18 : mm_dec q202 18 = some (.aload_n 0) := by decide +kernel
theorem d202_19 : mm_dec q202 19 = some (.invokevirtual 356) := by decide +kernel
theorem d202_22 : mm_dec q202 22 = some (.iconst 0) := by decide +kernel
theorem d202_23 : mm_dec q202 23 = some (.istore_n 3) := by decide +kernel
theorem d202_24 : mm_dec q202 24 = some (.iconst 0) := by decide +kernel
theorem d202_25 : mm_dec q202 25 = some (.istore 4) := by decide +kernel
theorem d202_27 : mm_dec q202 27 = some (.iconst 0) := by decide +kernel
theorem d202_28 : mm_dec q202 28 = some (.istore 5) := by decide +kernel
theorem d202_30 : mm_dec q202 30 = some (.iload 5) := by decide +kernel
theorem d202_32 : mm_dec q202 32 = some (.iload_n 2) := by decide +kernel
theorem d202_33 : mm_dec q202 33 = some (.if_icmp .ge 40) := by decide +kernel
theorem d202_36 : mm_dec q202 36 = some (.aload_n 0) := by decide +kernel
theorem d202_37 : mm_dec q202 37 = some (.iconst 0) := by decide +kernel
theorem d202_38 : mm_dec q202 38 = some (.invokevirtual 349) := by decide +kernel
theorem d202_41 : mm_dec q202 41 = some (.aload_n 0) := by decide +kernel
theorem d202_42 : mm_dec q202 42 = some (.getfield 67) := by decide +kernel
theorem d202_45 : mm_dec q202 45 = some (.iload_n 1) := by decide +kernel
theorem d202_46 : mm_dec q202 46 = some (.baload) := by decide +kernel
theorem d202_47 : mm_dec q202 47 = some (.ifCond .eq 10) := by decide +kernel
theorem d202_50 : mm_dec q202 50 = some (.iload 4) := by decide +kernel
theorem d202_52 : mm_dec q202 52 = some (.iconst 1) := by decide +kernel
theorem d202_53 : mm_dec q202 53 = some (.iadd) := by decide +kernel
theorem d202_54 : mm_dec q202 54 = some (.goto 4) := by decide +kernel
theorem d202_57 : mm_dec q202 57 = some (.iconst 0) := by decide +kernel
theorem d202_58 : mm_dec q202 58 = some (.istore 4) := by decide +kernel
theorem d202_60 : mm_dec q202 60 = some (.iload_n 3) := by decide +kernel
theorem d202_61 : mm_dec q202 61 = some (.iload 4) := by decide +kernel
theorem d202_63 : mm_dec q202 63 = some (.invokestatic 368) := by decide +kernel
theorem d202_66 : mm_dec q202 66 = some (.istore_n 3) := by decide +kernel
theorem d202_67 : mm_dec q202 67 = some (.iinc 5 1) := by decide +kernel
theorem d202_70 : mm_dec q202 70 = some (.goto (-40)) := by decide +kernel
theorem d202_73 : mm_dec q202 73 = some (.aload_n 0) := by decide +kernel
theorem d202_74 : mm_dec q202 74 = some (.invokevirtual 362) := by decide +kernel
theorem d202_77 : mm_dec q202 77 = some (.iload_n 3) := by decide +kernel
theorem d202_78 : mm_dec q202 78 = some (.ireturn) := by decide +kernel
theorem d203_0 : mm_dec q203 0 = some (.aload_n 0) := by decide +kernel
theorem d203_1 : mm_dec q203 1 = some (.iload_n 1) := by decide +kernel
theorem d203_2 : mm_dec q203 2 = some (.invokevirtual 324) := by decide +kernel
theorem d203_5 : mm_dec q203 5 = some (.ifCond .eq 11) := by decide +kernel
theorem d203_8 : mm_dec q203 8 = some (.aload_n 0) := by decide +kernel
theorem d203_9 : mm_dec q203 9 = some (.iload_n 2) := by decide +kernel
theorem d203_10 : mm_dec q203 10 = some (.invokevirtual 337) := by decide +kernel
theorem d203_13 : mm_dec q203 13 = some (.ifCond .ne 5) := by decide +kernel
theorem d203_16 : mm_dec q203 16 = some (.iconst (-1)) := by decide +kernel
theorem d203_17 : mm_dec q203 17 = some (.ireturn) := by decide +kernel
theorem d203_18 : mm_dec q203 18 = some (.aload_n 0) := by decide +kernel
theorem d203_19 : mm_dec q203 19 = some (.invokevirtual 356) := by decide +kernel
theorem d203_22 : mm_dec q203 22 = some (.aload_n 0) := by decide +kernel
theorem d203_23 : mm_dec q203 23 = some (.iload_n 2) := by decide +kernel
theorem d203_24 : mm_dec q203 24 = some (.invokevirtual 359) := by decide +kernel
theorem d203_27 : mm_dec q203 27 = some (.iconst 0) := by decide +kernel
theorem d203_28 : mm_dec q203 28 = some (.istore_n 3) := by decide +kernel
theorem d203_29 : mm_dec q203 29 = some (.iconst 0) := by decide +kernel
theorem d203_30 : mm_dec q203 30 = some (.istore 4) := by decide +kernel
theorem d203_32 : mm_dec q203 32 = some (.iload 4) := by decide +kernel
theorem d203_34 : mm_dec q203 34 = some (.aload_n 0) := by decide +kernel
theorem d203_35 : mm_dec q203 35 = some (.getfield 268) := by decide +kernel
theorem d203_38 : mm_dec q203 38 = some (.if_icmp .ge 55) := by decide +kernel
theorem d203_41 : mm_dec q203 41 = some (.iload_n 3) := by decide +kernel
theorem d203_42 : mm_dec q203 42 = some (.aload_n 0) := by decide +kernel
theorem d203_43 : mm_dec q203 43 = some (.getfield 49) := by decide +kernel
theorem d203_46 : mm_dec q203 46 = some (.iconst 4) := by decide +kernel
theorem d203_47 : mm_dec q203 47 = some (.iload_n 1) := by decide +kernel
theorem d203_48 : mm_dec q203 48 = some (.imul) := by decide +kernel
theorem d203_49 : mm_dec q203 49 = some (.iconst 3) := by decide +kernel
theorem d203_50 : mm_dec q203 50 = some (.iadd) := by decide +kernel
theorem d203_51 : mm_dec q203 51 = some (.iaload) := by decide +kernel
theorem d203_52 : mm_dec q203 52 = some (.aload_n 0) := by decide +kernel
theorem d203_53 : mm_dec q203 53 = some (.getfield 55) := by decide +kernel
theorem d203_56 : mm_dec q203 56 = some (.iconst 3) := by decide +kernel
theorem d203_57 : mm_dec q203 57 = some (.iload 4) := by decide +kernel
theorem d203_59 : mm_dec q203 59 = some (.imul) := by decide +kernel
theorem d203_60 : mm_dec q203 60 = some (.iconst 2) := by decide +kernel
theorem d203_61 : mm_dec q203 61 = some (.iadd) := by decide +kernel
theorem d203_62 : mm_dec q203 62 = some (.iaload) := by decide +kernel
theorem d203_63 : mm_dec q203 63 = some (.if_icmp .gt 21) := by decide +kernel
theorem d203_66 : mm_dec q203 66 = some (.aload_n 0) := by decide +kernel
theorem d203_67 : mm_dec q203 67 = some (.getfield 64) := by decide +kernel
theorem d203_70 : mm_dec q203 70 = some (.iload 4) := by decide +kernel
theorem d203_72 : mm_dec q203 72 = some (.iaload) := by decide +kernel
theorem d203_73 : mm_dec q203 73 = some (.aload_n 0) := by decide +kernel
theorem d203_74 : mm_dec q203 74 = some (.getfield 84) := by decide +kernel
theorem d203_77 : mm_dec q203 77 = some (.iload 4) := by decide +kernel
theorem d203_79 : mm_dec q203 79 = some (.iaload) := by decide +kernel
theorem d203_80 : mm_dec q203 80 = some (.isub) := by decide +kernel
theorem d203_81 : mm_dec q203 81 = some (.goto 4) := by decide +kernel
theorem d203_84 : mm_dec q203 84 = some (.iconst 0) := by decide +kernel
theorem d203_85 : mm_dec q203 85 = some (.iadd) := by decide +kernel
theorem d203_86 : mm_dec q203 86 = some (.istore_n 3) := by decide +kernel
theorem d203_87 : mm_dec q203 87 = some (.iinc 4 1) := by decide +kernel
theorem d203_90 : mm_dec q203 90 = some (.goto (-58)) := by decide +kernel
theorem d203_93 : mm_dec q203 93 = some (.aload_n 0) := by decide +kernel
theorem d203_94 : mm_dec q203 94 = some (.invokevirtual 362) := by decide +kernel
theorem d203_97 : mm_dec q203 97 = some (.iload_n 3) := by decide +kernel
theorem d203_98 : mm_dec q203 98 = some (.ireturn) := by decide +kernel
theorem d204_0 : mm_dec q204 0 = some (.aload_n 0) := by decide +kernel
theorem d204_1 : mm_dec q204 1 = some (.iload_n 1) := by decide +kernel
theorem d204_2 : mm_dec q204 2 = some (.invokevirtual 337) := by decide +kernel
theorem d204_5 : mm_dec q204 5 = some (.ifCond .eq 12) := by decide +kernel
theorem d204_8 : mm_dec q204 8 = some (.iload_n 2) := by decide +kernel
theorem d204_9 : mm_dec q204 9 = some (.iconst 0) := by decide +kernel
theorem d204_10 : mm_dec q204 10 = some (.iconst 1) := by decide +kernel
theorem d204_11 : mm_dec q204 11 = some (.invokestatic 218) := by decide +kernel
theorem d204_14 : mm_dec q204 14 = some (.ifCond .ne 5) := by decide +kernel
theorem d204_17 : mm_dec q204 17 = some (.iconst (-1)) := by decide +kernel
theorem d204_18 : mm_dec q204 18 = some (.ireturn) := by decide +kernel
theorem d204_19 : mm_dec q204 19 = some (.aload_n 0) := by decide +kernel
theorem d204_20 : mm_dec q204 20 = some (.invokevirtual 356) := by decide +kernel
theorem d204_23 : mm_dec q204 23 = some (.iconst 0) := by decide +kernel
theorem d204_24 : mm_dec q204 24 = some (.istore_n 3) := by decide +kernel
theorem d204_25 : mm_dec q204 25 = some (.iconst 0) := by decide +kernel
theorem d204_26 : mm_dec q204 26 = some (.istore 4) := by decide +kernel
theorem d204_28 : mm_dec q204 28 = some (.iconst 0) := by decide +kernel
theorem d204_29 : mm_dec q204 29 = some (.istore 5) := by decide +kernel
theorem d204_31 : mm_dec q204 31 = some (.iconst 0) := by decide +kernel
theorem d204_32 : mm_dec q204 32 = some (.istore 6) := by decide +kernel
theorem d204_34 : mm_dec q204 34 = some (.iload 6) := by decide +kernel
theorem d204_36 : mm_dec q204 36 = some (.iload_n 1) := by decide +kernel
theorem d204_37 : mm_dec q204 37 = some (.if_icmp .ge 55) := by decide +kernel
theorem d204_40 : mm_dec q204 40 = some (.aload_n 0) := by decide +kernel
theorem d204_41 : mm_dec q204 41 = some (.iconst 0) := by decide +kernel
theorem d204_42 : mm_dec q204 42 = some (.invokevirtual 349) := by decide +kernel
theorem d204_45 : mm_dec q204 45 = some (.iload_n 3) := by decide +kernel
theorem d204_46 : mm_dec q204 46 = some (.aload_n 0) := by decide +kernel
theorem d204_47 : mm_dec q204 47 = some (.getfield 321) := by decide +kernel
theorem d204_50 : mm_dec q204 50 = some (.ifCond .eq 7) := by decide +kernel
theorem d204_53 : mm_dec q204 53 = some (.iconst 1) := by decide +kernel
theorem d204_54 : mm_dec q204 54 = some (.goto 4) := by decide +kernel
theorem d204_57 : mm_dec q204 57 = some (.iconst 0) := by decide +kernel
theorem d204_58 : mm_dec q204 58 = some (.iadd) := by decide +kernel
theorem d204_59 : mm_dec q204 59 = some (.istore_n 3) := by decide +kernel
theorem d204_60 : mm_dec q204 60 = some (.aload_n 0) := by decide +kernel
theorem d204_61 : mm_dec q204 61 = some (.getfield 321) := by decide +kernel
theorem d204_64 : mm_dec q204 64 = some (.ifCond .eq 7) := by decide +kernel
theorem d204_67 : mm_dec q204 67 = some (.iconst 0) := by decide +kernel
theorem d204_68 : mm_dec q204 68 = some (.goto 7) := by decide +kernel
theorem d204_71 : mm_dec q204 71 = some (.iload 5) := by decide +kernel
theorem d204_73 : mm_dec q204 73 = some (.iconst 1) := by decide +kernel
theorem d204_74 : mm_dec q204 74 = some (.iadd) := by decide +kernel
theorem d204_75 : mm_dec q204 75 = some (.istore 5) := by decide +kernel
theorem d204_77 : mm_dec q204 77 = some (.iload 4) := by decide +kernel
theorem d204_79 : mm_dec q204 79 = some (.iload 5) := by decide +kernel
theorem d204_81 : mm_dec q204 81 = some (.invokestatic 368) := by decide +kernel
theorem d204_84 : mm_dec q204 84 = some (.istore 4) := by decide +kernel
theorem d204_86 : mm_dec q204 86 = some (.iinc 6 1) := by decide +kernel
theorem d204_89 : mm_dec q204 89 = some (.goto (-55)) := by decide +kernel
theorem d204_92 : mm_dec q204 92 = some (.aload_n 0) := by decide +kernel
theorem d204_93 : mm_dec q204 93 = some (.invokevirtual 362) := by decide +kernel
theorem d204_96 : mm_dec q204 96 = some (.iload_n 2) := by decide +kernel
theorem d204_97 : mm_dec q204 97 = some (.ifCond .ne 7) := by decide +kernel
theorem d204_100 : mm_dec q204 100 = some (.iload_n 3) := by decide +kernel
theorem d204_101 : mm_dec q204 101 = some (.goto 5) := by decide +kernel
theorem d204_104 : mm_dec q204 104 = some (.iload 4) := by decide +kernel
theorem d204_106 : mm_dec q204 106 = some (.ireturn) := by decide +kernel
theorem d205_0 : mm_dec q205 0 = some (.aload_n 0) := by decide +kernel
theorem d205_1 : mm_dec q205 1 = some (.invokevirtual 356) := by decide +kernel
theorem d205_4 : mm_dec q205 4 = some (.aload_n 0) := by decide +kernel
theorem d205_5 : mm_dec q205 5 = some (.iload_n 1) := by decide +kernel
theorem d205_6 : mm_dec q205 6 = some (.invokevirtual 359) := by decide +kernel
theorem d205_9 : mm_dec q205 9 = some (.iload_n 2) := by decide +kernel
theorem d205_10 : mm_dec q205 10 = some (.ifCond .ne 12) := by decide +kernel
theorem d205_13 : mm_dec q205 13 = some (.aload_n 0) := by decide +kernel
theorem d205_14 : mm_dec q205 14 = some (.getfield 61) := by decide +kernel
theorem d205_17 : mm_dec q205 17 = some (.iconst 0) := by decide +kernel
theorem d205_18 : mm_dec q205 18 = some (.iaload) := by decide +kernel
theorem d205_19 : mm_dec q205 19 = some (.goto 16) := by decide +kernel
theorem d205_22 : mm_dec q205 22 = some (.aload_n 0) := by decide +kernel
theorem d205_23 : mm_dec q205 23 = some (.getfield 64) := by decide +kernel
theorem d205_26 : mm_dec q205 26 = some (.iconst 0) := by decide +kernel
theorem d205_27 : mm_dec q205 27 = some (.iaload) := by decide +kernel
theorem d205_28 : mm_dec q205 28 = some (.aload_n 0) := by decide +kernel
theorem d205_29 : mm_dec q205 29 = some (.getfield 84) := by decide +kernel
theorem d205_32 : mm_dec q205 32 = some (.iconst 0) := by decide +kernel
theorem d205_33 : mm_dec q205 33 = some (.iaload) := by decide +kernel
theorem d205_34 : mm_dec q205 34 = some (.isub) := by decide +kernel
theorem d205_35 : mm_dec q205 35 = some (.istore_n 3) := by decide +kernel
theorem d205_36 : mm_dec q205 36 = some (.aload_n 0) := by decide +kernel
theorem d205_37 : mm_dec q205 37 = some (.invokevirtual 362) := by decide +kernel
theorem d205_40 : mm_dec q205 40 = some (.iload_n 3) := by decide +kernel
theorem d205_41 : mm_dec q205 41 = some (.ireturn) := by decide +kernel
theorem d206_0 : mm_dec q206 0 = some (.aload_n 0) := by decide +kernel
theorem d206_1 : mm_dec q206 1 = some (.iload_n 1) := by decide +kernel
theorem d206_2 : mm_dec q206 2 = some (.invokevirtual 337) := by decide +kernel
theorem d206_5 : mm_dec q206 5 = some (.ifCond .ne 5) := by decide +kernel
theorem d206_8 : mm_dec q206 8 = some (.iconst (-1)) := by decide +kernel
theorem d206_9 : mm_dec q206 9 = some (.ireturn) := by decide +kernel
theorem d206_10 : mm_dec q206 10 = some (.iconst (-1)) := by decide +kernel
theorem d206_11 : mm_dec q206 11 = some (.istore_n 2) := by decide +kernel
theorem d206_12 : mm_dec q206 12 = some (.iconst 0) := by decide +kernel
theorem d206_13 : mm_dec q206 13 = some (.istore_n 3) := by decide +kernel
theorem d206_14 : mm_dec q206 14 = some (.iload_n 3) := by decide +kernel
theorem d206_15 : mm_dec q206 15 = some (.iconst 1) := by decide +kernel
theorem d206_16 : mm_dec q206 16 = some (.aload_n 0) := by decide +kernel
theorem d206_17 : mm_dec q206 17 = some (.getfield 265) := by decide +kernel
theorem d206_20 : mm_dec q206 20 = some (.ishl) := by decide +kernel
theorem d206_21 : mm_dec q206 21 = some (.if_icmp .ge 45) := by decide +kernel
theorem d206_24 : mm_dec q206 24 = some (.iload_n 2) := by decide +kernel
theorem d206_25 : mm_dec q206 25 = some (.iconst (-1)) := by decide +kernel
theorem d206_26 : mm_dec q206 26 = some (.if_icmp .eq 14) := by decide +kernel
theorem d206_29 : mm_dec q206 29 = some (.iload_n 3) := by decide +kernel
theorem d206_30 : mm_dec q206 30 = some (.invokestatic 370) := by decide +kernel
theorem d206_33 : mm_dec q206 33 = some (.iload_n 2) := by decide +kernel
theorem d206_34 : mm_dec q206 34 = some (.invokestatic 370) := by decide +kernel
theorem d206_37 : mm_dec q206 37 = some (.if_icmp .ge 23) := by decide +kernel
theorem d206_40 : mm_dec q206 40 = some (.aload_n 0) := by decide +kernel
theorem d206_41 : mm_dec q206 41 = some (.iload_n 3) := by decide +kernel
theorem d206_42 : mm_dec q206 42 = some (.putfield 298) := by decide +kernel
theorem d206_45 : mm_dec q206 45 = some (.aload_n 0) := by decide +kernel
theorem d206_46 : mm_dec q206 46 = some (.iload_n 1) := by decide +kernel
theorem d206_47 : mm_dec q206 47 = some (.iconst 0) := by decide +kernel
theorem d206_48 : mm_dec q206 48 = some (.invokevirtual 375) := by decide +kernel
theorem d206_51 : mm_dec q206 51 = some (.ifCond .ne 7) := by decide +kernel
theorem d206_54 : mm_dec q206 54 = some (.iload_n 3) := by decide +kernel
theorem d206_55 : mm_dec q206 55 = some (.goto 4) := by decide +kernel
theorem d206_58 : mm_dec q206 58 = some (.iload_n 2) := by decide +kernel
theorem d206_59 : mm_dec q206 59 = some (.istore_n 2) := by decide +kernel
theorem d206_60 : mm_dec q206 60 = some (.iinc 3 1) := by decide +kernel
theorem d206_63 : mm_dec q206 63 = some (.goto (-49)) := by decide +kernel
theorem d206_66 : mm_dec q206 66 = some (.aload_n 0) := by decide +kernel
theorem d206_67 : mm_dec q206 67 = some (.iconst 0) := by decide +kernel
theorem d206_68 : mm_dec q206 68 = some (.putfield 298) := by decide +kernel
theorem d206_71 : mm_dec q206 71 = some (.iload_n 2) := by decide +kernel
theorem d206_72 : mm_dec q206 72 = some (.ireturn) := by decide +kernel
theorem d207_0 : mm_dec q207 0 = some (.aload_n 0) := by decide +kernel
theorem d207_1 : mm_dec q207 1 = some (.iload_n 1) := by decide +kernel
theorem d207_2 : mm_dec q207 2 = some (.invokevirtual 337) := by decide +kernel
theorem d207_5 : mm_dec q207 5 = some (.ifCond .ne 5) := by decide +kernel
theorem d207_8 : mm_dec q207 8 = some (.iconst (-1)) := by decide +kernel
theorem d207_9 : mm_dec q207 9 = some (.ireturn) := by decide +kernel
theorem d207_10 : mm_dec q207 10 = some (.iconst (-1)) := by decide +kernel
theorem d207_11 : mm_dec q207 11 = some (.istore_n 2) := by decide +kernel
theorem d207_12 : mm_dec q207 12 = some (.iconst 0) := by decide +kernel
theorem d207_13 : mm_dec q207 13 = some (.istore_n 3) := by decide +kernel
theorem d207_14 : mm_dec q207 14 = some (.iload_n 3) := by decide +kernel
theorem d207_15 : mm_dec q207 15 = some (.iconst 1) := by decide +kernel
theorem d207_16 : mm_dec q207 16 = some (.aload_n 0) := by decide +kernel
theorem d207_17 : mm_dec q207 17 = some (.getfield 265) := by decide +kernel
theorem d207_20 : mm_dec q207 20 = some (.ishl) := by decide +kernel
theorem d207_21 : mm_dec q207 21 = some (.if_icmp .ge 45) := by decide +kernel
theorem d207_24 : mm_dec q207 24 = some (.iload_n 2) := by decide +kernel
theorem d207_25 : mm_dec q207 25 = some (.iconst (-1)) := by decide +kernel
theorem d207_26 : mm_dec q207 26 = some (.if_icmp .eq 14) := by decide +kernel
theorem d207_29 : mm_dec q207 29 = some (.iload_n 3) := by decide +kernel
theorem d207_30 : mm_dec q207 30 = some (.invokestatic 370) := by decide +kernel
theorem d207_33 : mm_dec q207 33 = some (.iload_n 2) := by decide +kernel
theorem d207_34 : mm_dec q207 34 = some (.invokestatic 370) := by decide +kernel
theorem d207_37 : mm_dec q207 37 = some (.if_icmp .ge 23) := by decide +kernel
theorem d207_40 : mm_dec q207 40 = some (.aload_n 0) := by decide +kernel
theorem d207_41 : mm_dec q207 41 = some (.iload_n 3) := by decide +kernel
theorem d207_42 : mm_dec q207 42 = some (.putfield 295) := by decide +kernel
theorem d207_45 : mm_dec q207 45 = some (.aload_n 0) := by decide +kernel
theorem d207_46 : mm_dec q207 46 = some (.iload_n 1) := by decide +kernel
theorem d207_47 : mm_dec q207 47 = some (.iconst 1) := by decide +kernel
theorem d207_48 : mm_dec q207 48 = some (.invokevirtual 375) := by decide +kernel
theorem d207_51 : mm_dec q207 51 = some (.ifCond .ne 7) := by decide +kernel
theorem d207_54 : mm_dec q207 54 = some (.iload_n 3) := by decide +kernel
theorem d207_55 : mm_dec q207 55 = some (.goto 4) := by decide +kernel
theorem d207_58 : mm_dec q207 58 = some (.iload_n 2) := by decide +kernel
theorem d207_59 : mm_dec q207 59 = some (.istore_n 2) := by decide +kernel
theorem d207_60 : mm_dec q207 60 = some (.iinc 3 1) := by decide +kernel
theorem d207_63 : mm_dec q207 63 = some (.goto (-49)) := by decide +kernel
theorem d207_66 : mm_dec q207 66 = some (.aload_n 0) := by decide +kernel
theorem d207_67 : mm_dec q207 67 = some (.iconst 0) := by decide +kernel
theorem d207_68 : mm_dec q207 68 = some (.putfield 295) := by decide +kernel
theorem d207_71 : mm_dec q207 71 = some (.iload_n 2) := by decide +kernel
theorem d207_72 : mm_dec q207 72 = some (.ireturn) := by decide +kernel
theorem d208_0 : mm_dec q208 0 = some (.aload_n 0) := by decide +kernel
theorem d208_1 : mm_dec q208 1 = some (.iload_n 1) := by decide +kernel
theorem d208_2 : mm_dec q208 2 = some (.invokevirtual 324) := by decide +kernel
theorem d208_5 : mm_dec q208 5 = some (.ifCond .eq 34) := by decide +kernel
theorem d208_8 : mm_dec q208 8 = some (.aload_n 0) := by decide +kernel
theorem d208_9 : mm_dec q208 9 = some (.iload_n 2) := by decide +kernel
theorem d208_10 : mm_dec q208 10 = some (.invokevirtual 324) := by decide +kernel
theorem d208_13 : mm_dec q208 13 = some (.ifCond .eq 26) := by decide +kernel
theorem d208_16 : mm_dec q208 16 = some (.iload_n 1) := by decide +kernel
theorem d208_17 : mm_dec q208 17 = some (.iload_n 2) := by decide +kernel
theorem d208_18 : mm_dec q208 18 = some (.if_icmp .eq 21) := by decide +kernel
theorem d208_21 : mm_dec q208 21 = some (.aload_n 0) := by decide +kernel
theorem d208_22 : mm_dec q208 22 = some (.iload_n 3) := by decide +kernel
theorem d208_23 : mm_dec q208 23 = some (.invokevirtual 337) := by decide +kernel
theorem d208_26 : mm_dec q208 26 = some (.ifCond .eq 13) := by decide +kernel
theorem d208_29 : mm_dec q208 29 = some (.iload 4) := by decide +kernel
theorem d208_31 : mm_dec q208 31 = some (.iconst 0) := by decide +kernel
theorem d208_32 : mm_dec q208 32 = some (.iconst 1) := by decide +kernel
theorem d208_33 : mm_dec q208 33 = some (.invokestatic 218) := by decide +kernel
theorem d208_36 : mm_dec q208 36 = some (.ifCond .ne 7) := by decide +kernel
theorem d208_39 : mm_dec q208 39 = some (.ldc_w 378) := by decide +kernel
theorem d208_42 : mm_dec q208 42 = some (.ireturn) := by decide +kernel
theorem d208_43 : mm_dec q208 43 = some (.aload_n 0) := by decide +kernel
theorem d208_44 : mm_dec q208 44 = some (.invokevirtual 356) := by decide +kernel
theorem d208_47 : mm_dec q208 47 = some (.iconst 0) := by decide +kernel
theorem d208_48 : mm_dec q208 48 = some (.istore 5) := by decide +kernel
theorem d208_50 : mm_dec q208 50 = some (.iconst (-1)) := by decide +kernel
theorem d208_51 : mm_dec q208 51 = some (.istore 6) := by decide +kernel
theorem d208_53 : mm_dec q208 53 = some (.iconst 0) := by decide +kernel
theorem d208_54 : mm_dec q208 54 = some (.istore 7) := by decide +kernel
theorem d208_56 : mm_dec q208 56 = some (.iload 7) := by decide +kernel
theorem d208_58 : mm_dec q208 58 = some (.iload_n 3) := by decide +kernel
theorem d208_59 : mm_dec q208 59 = some (.if_icmp .ge 47) := by decide +kernel
theorem d208_62 : mm_dec q208 62 = some (.aload_n 0) := by decide +kernel
theorem d208_63 : mm_dec q208 63 = some (.iload_n 1) := by decide +kernel
theorem d208_64 : mm_dec q208 64 = some (.invokevirtual 308) := by decide +kernel
theorem d208_67 : mm_dec q208 67 = some (.ifCond .ne 28) := by decide +kernel
theorem d208_70 : mm_dec q208 70 = some (.aload_n 0) := by decide +kernel
theorem d208_71 : mm_dec q208 71 = some (.iload_n 2) := by decide +kernel
theorem d208_72 : mm_dec q208 72 = some (.invokevirtual 308) := by decide +kernel
theorem d208_75 : mm_dec q208 75 = some (.ifCond .ne 20) := by decide +kernel
theorem d208_78 : mm_dec q208 78 = some (.iload 5) := by decide +kernel
theorem d208_80 : mm_dec q208 80 = some (.ifCond .ne 8) := by decide +kernel
theorem d208_83 : mm_dec q208 83 = some (.iload 7) := by decide +kernel
theorem d208_85 : mm_dec q208 85 = some (.goto 5) := by decide +kernel
theorem d208_88 : mm_dec q208 88 = some (.iload 6) := by decide +kernel
theorem d208_90 : mm_dec q208 90 = some (.istore 6) := by decide +kernel
theorem d208_92 : mm_dec q208 92 = some (.iinc 5 1) := by decide +kernel
theorem d208_95 : mm_dec q208 95 = some (.aload_n 0) := by decide +kernel
theorem d208_96 : mm_dec q208 96 = some (.iconst 0) := by decide +kernel
theorem d208_97 : mm_dec q208 97 = some (.invokevirtual 349) := by decide +kernel
theorem d208_100 : mm_dec q208 100 = some (.iinc 7 1) := by decide +kernel
theorem d208_103 : mm_dec q208 103 = some (.goto (-47)) := by decide +kernel
theorem d208_106 : mm_dec q208 106 = some (.aload_n 0) := by decide +kernel
theorem d208_107 : mm_dec q208 107 = some (.invokevirtual 362) := by decide +kernel
theorem d208_110 : mm_dec q208 110 = some (.iload 4) := by decide +kernel
theorem d208_112 : mm_dec q208 112 = some (.ifCond .ne 8) := by decide +kernel
theorem d208_115 : mm_dec q208 115 = some (.iload 6) := by decide +kernel
theorem d208_117 : mm_dec q208 117 = some (.goto 5) := by decide +kernel
theorem d208_120 : mm_dec q208 120 = some (.iload 5) := by decide +kernel
theorem d208_122 : mm_dec q208 122 = some (.ireturn) := by decide +kernel
theorem d209_0 : mm_dec q209 0 = some (.aload_n 0) := by decide +kernel
theorem d209_1 : mm_dec q209 1 = some (.iload_n 1) := by decide +kernel
theorem d209_2 : mm_dec q209 2 = some (.invokevirtual 337) := by decide +kernel
theorem d209_5 : mm_dec q209 5 = some (.ifCond .eq 12) := by decide +kernel
theorem d209_8 : mm_dec q209 8 = some (.iload_n 2) := by decide +kernel
theorem d209_9 : mm_dec q209 9 = some (.iconst 0) := by decide +kernel
theorem d209_10 : mm_dec q209 10 = some (.iconst 1) := by decide +kernel
theorem d209_11 : mm_dec q209 11 = some (.invokestatic 218) := by decide +kernel
theorem d209_14 : mm_dec q209 14 = some (.ifCond .ne 5) := by decide +kernel
theorem d209_17 : mm_dec q209 17 = some (.iconst (-1)) := by decide +kernel
theorem d209_18 : mm_dec q209 18 = some (.ireturn) := by decide +kernel
theorem d209_19 : mm_dec q209 19 = some (.iconst (-1)) := by decide +kernel
theorem d209_20 : mm_dec q209 20 = some (.istore_n 3) := by decide +kernel
theorem d209_21 : mm_dec q209 21 = some (.iconst 0) := by decide +kernel
theorem d209_22 : mm_dec q209 22 = some (.istore 4) := by decide +kernel
theorem d209_24 : mm_dec q209 24 = some (.iconst 0) := by decide +kernel
theorem d209_25 : mm_dec q209 25 = some (.istore 5) := by decide +kernel
theorem d209_27 : mm_dec q209 27 = some (.iload 5) := by decide +kernel
theorem d209_29 : mm_dec q209 29 = some (.aload_n 0) := by decide +kernel
theorem d209_30 : mm_dec q209 30 = some (.getfield 265) := by decide +kernel
theorem d209_33 : mm_dec q209 33 = some (.if_icmp .ge 44) := by decide +kernel
theorem d209_36 : mm_dec q209 36 = some (.aload_n 0) := by decide +kernel
theorem d209_37 : mm_dec q209 37 = some (.iconst 1) := by decide +kernel
theorem d209_38 : mm_dec q209 38 = some (.iload 5) := by decide +kernel
theorem d209_40 : mm_dec q209 40 = some (.ishl) := by decide +kernel
theorem d209_41 : mm_dec q209 41 = some (.putfield 298) := by decide +kernel
theorem d209_44 : mm_dec q209 44 = some (.aload_n 0) := by decide +kernel
theorem d209_45 : mm_dec q209 45 = some (.iconst 0) := by decide +kernel
theorem d209_46 : mm_dec q209 46 = some (.iload_n 1) := by decide +kernel
theorem d209_47 : mm_dec q209 47 = some (.invokevirtual 365) := by decide +kernel
theorem d209_50 : mm_dec q209 50 = some (.istore 6) := by decide +kernel
theorem d209_52 : mm_dec q209 52 = some (.iload_n 3) := by decide +kernel
theorem d209_53 : mm_dec q209 53 = some (.iconst (-1)) := by decide +kernel
theorem d209_54 : mm_dec q209 54 = some (.if_icmp .eq 10) := by decide +kernel
theorem d209_57 : mm_dec q209 57 = some (.iload 6) := by decide +kernel
theorem d209_59 : mm_dec q209 59 = some (.iload 4) := by decide +kernel
theorem d209_61 : mm_dec q209 61 = some (.if_icmp .ge 10) := by decide +kernel
theorem d209_64 : mm_dec q209 64 = some (.iload 5) := by decide +kernel
theorem d209_66 : mm_dec q209 66 = some (.istore_n 3) := by decide +kernel
theorem d209_67 : mm_dec q209 67 = some (.iload 6) := by decide +kernel
theorem d209_69 : mm_dec q209 69 = some (.istore 4) := by decide +kernel
theorem d209_71 : mm_dec q209 71 = some (.iinc 5 1) := by decide +kernel
theorem d209_74 : mm_dec q209 74 = some (.goto (-47)) := by decide +kernel
theorem d209_77 : mm_dec q209 77 = some (.aload_n 0) := by decide +kernel
theorem d209_78 : mm_dec q209 78 = some (.iconst 0) := by decide +kernel
theorem d209_79 : mm_dec q209 79 = some (.putfield 298) := by decide +kernel
theorem d209_82 : mm_dec q209 82 = some (.iload_n 2) := by decide +kernel
theorem d209_83 : mm_dec q209 83 = some (.ifCond .ne 7) := by decide +kernel
theorem d209_86 : mm_dec q209 86 = some (.iload_n 3) := by decide +kernel
theorem d209_87 : mm_dec q209 87 = some (.goto 5) := by decide +kernel
theorem d209_90 : mm_dec q209 90 = some (.iload 4) := by decide +kernel
theorem d209_92 : mm_dec q209 92 = some (.ireturn) := by decide +kernel
theorem d210_0 : mm_dec q210 0 = some (.aload_n 0) := by decide +kernel
theorem d210_1 : mm_dec q210 1 = some (.iload_n 1) := by decide +kernel
theorem d210_2 : mm_dec q210 2 = some (.invokevirtual 324) := by decide +kernel
theorem d210_5 : mm_dec q210 5 = some (.ifCond .eq 30) := by decide +kernel
theorem d210_8 : mm_dec q210 8 = some (.aload_n 0) := by decide +kernel
theorem d210_9 : mm_dec q210 9 = some (.getfield 58) := by decide +kernel
theorem d210_12 : mm_dec q210 12 = some (.iload_n 1) := by decide +kernel
theorem d210_13 : mm_dec q210 13 = some (.iaload) := by decide +kernel
theorem d210_14 : mm_dec q210 14 = some (.iconst (-1)) := by decide +kernel
theorem d210_15 : mm_dec q210 15 = some (.if_icmp .ne 20) := by decide +kernel
theorem d210_18 : mm_dec q210 18 = some (.aload_n 0) := by decide +kernel
theorem d210_19 : mm_dec q210 19 = some (.iload_n 2) := by decide +kernel
theorem d210_20 : mm_dec q210 20 = some (.invokevirtual 337) := by decide +kernel
theorem d210_23 : mm_dec q210 23 = some (.ifCond .eq 12) := by decide +kernel
theorem d210_26 : mm_dec q210 26 = some (.iload_n 3) := by decide +kernel
theorem d210_27 : mm_dec q210 27 = some (.iconst 0) := by decide +kernel
theorem d210_28 : mm_dec q210 28 = some (.iconst 1) := by decide +kernel
theorem d210_29 : mm_dec q210 29 = some (.invokestatic 218) := by decide +kernel
theorem d210_32 : mm_dec q210 32 = some (.ifCond .ne 5) := by decide +kernel
theorem d210_35 : mm_dec q210 35 = some (.iconst (-1)) := by decide +kernel
theorem d210_36 : mm_dec q210 36 = some (.ireturn) := by decide +kernel
theorem d210_37 : mm_dec q210 37 = some (.aload_n 0) := by decide +kernel
theorem d210_38 : mm_dec q210 38 = some (.getfield 49) := by decide +kernel
theorem d210_41 : mm_dec q210 41 = some (.iconst 4) := by decide +kernel
theorem d210_42 : mm_dec q210 42 = some (.iload_n 1) := by decide +kernel
theorem d210_43 : mm_dec q210 43 = some (.imul) := by decide +kernel
theorem d210_44 : mm_dec q210 44 = some (.iaload) := by decide +kernel
theorem d210_45 : mm_dec q210 45 = some (.istore 4) := by decide +kernel
theorem d210_47 : mm_dec q210 47 = some (.iconst (-1)) := by decide +kernel
theorem d210_48 : mm_dec q210 48 = some (.istore 5) := by decide +kernel
theorem d210_50 : mm_dec q210 50 = some (.iconst 0) := by decide +kernel
theorem d210_51 : mm_dec q210 51 = some (.istore 6) := by decide +kernel
theorem d210_53 : mm_dec q210 53 = some (.iconst 0) := by decide +kernel
theorem d210_54 : mm_dec q210 54 = some (.istore 7) := by decide +kernel
theorem d210_56 : mm_dec q210 56 = some (.iload 7) := by decide +kernel
theorem d210_58 : mm_dec q210 58 = some (.bipush 60) := by decide +kernel
theorem d210_60 : mm_dec q210 60 = some (.if_icmp .ge 48) := by decide +kernel
theorem d210_63 : mm_dec q210 63 = some (.aload_n 0) := by decide +kernel
theorem d210_64 : mm_dec q210 64 = some (.getfield 49) := by decide +kernel
theorem d210_67 : mm_dec q210 67 = some (.iconst 4) := by decide +kernel
theorem d210_68 : mm_dec q210 68 = some (.iload_n 1) := by decide +kernel
theorem d210_69 : mm_dec q210 69 = some (.imul) := by decide +kernel
theorem d210_70 : mm_dec q210 70 = some (.iload 7) := by decide +kernel
theorem d210_72 : mm_dec q210 72 = some (.iastore) := by decide +kernel
theorem d210_73 : mm_dec q210 73 = some (.aload_n 0) := by decide +kernel
theorem d210_74 : mm_dec q210 74 = some (.iconst 0) := by decide +kernel
theorem d210_75 : mm_dec q210 75 = some (.iload_n 2) := by decide +kernel
theorem d210_76 : mm_dec q210 76 = some (.invokevirtual 365) := by decide +kernel
theorem d210_79 : mm_dec q210 79 = some (.istore 8) := by decide +kernel
theorem d210_81 : mm_dec q210 81 = some (.iload 5) := by decide +kernel
theorem d210_83 : mm_dec q210 83 = some (.iconst (-1)) := by decide +kernel
theorem d210_84 : mm_dec q210 84 = some (.if_icmp .eq 10) := by decide +kernel
theorem d210_87 : mm_dec q210 87 = some (.iload 8) := by decide +kernel
theorem d210_89 : mm_dec q210 89 = some (.iload 6) := by decide +kernel
theorem d210_91 : mm_dec q210 91 = some (.if_icmp .ge 11) := by decide +kernel
theorem d210_94 : mm_dec q210 94 = some (.iload 7) := by decide +kernel
theorem d210_96 : mm_dec q210 96 = some (.istore 5) := by decide +kernel
theorem d210_98 : mm_dec q210 98 = some (.iload 8) := by decide +kernel
theorem d210_100 : mm_dec q210 100 = some (.istore 6) := by decide +kernel
theorem d210_102 : mm_dec q210 102 = some (.iinc 7 1) := by decide +kernel
theorem d210_105 : mm_dec q210 105 = some (.goto (-49)) := by decide +kernel
theorem d210_108 : mm_dec q210 108 = some (.aload_n 0) := by decide +kernel
theorem d210_109 : mm_dec q210 109 = some (.getfield 49) := by decide +kernel
theorem d210_112 : mm_dec q210 112 = some (.iconst 4) := by decide +kernel
theorem d210_113 : mm_dec q210 113 = some (.iload_n 1) := by decide +kernel
theorem d210_114 : mm_dec q210 114 = some (.imul) := by decide +kernel
theorem d210_115 : mm_dec q210 115 = some (.iload 4) := by decide +kernel
theorem d210_117 : mm_dec q210 117 = some (.iastore) := by decide +kernel
theorem d210_118 : mm_dec q210 118 = some (.iload_n 3) := by decide +kernel
theorem d210_119 : mm_dec q210 119 = some (.ifCond .ne 8) := by decide +kernel
theorem d210_122 : mm_dec q210 122 = some (.iload 5) := by decide +kernel
theorem d210_124 : mm_dec q210 124 = some (.goto 5) := by decide +kernel
theorem d210_127 : mm_dec q210 127 = some (.iload 6) := by decide +kernel
theorem d210_129 : mm_dec q210 129 = some (.ireturn) := by decide +kernel
theorem d211_0 : mm_dec q211 0 = some (.aload_n 0) := by decide +kernel
theorem d211_1 : mm_dec q211 1 = some (.iload_n 1) := by decide +kernel
theorem d211_2 : mm_dec q211 2 = some (.invokevirtual 327) := by decide +kernel
theorem d211_5 : mm_dec q211 5 = some (.ifCond .eq 20) := by decide +kernel
theorem d211_8 : mm_dec q211 8 = some (.aload_n 0) := by decide +kernel
theorem d211_9 : mm_dec q211 9 = some (.iload_n 2) := by decide +kernel
theorem d211_10 : mm_dec q211 10 = some (.invokevirtual 337) := by decide +kernel
theorem d211_13 : mm_dec q211 13 = some (.ifCond .eq 12) := by decide +kernel
theorem d211_16 : mm_dec q211 16 = some (.iload_n 3) := by decide +kernel
theorem d211_17 : mm_dec q211 17 = some (.iconst 0) := by decide +kernel
theorem d211_18 : mm_dec q211 18 = some (.iconst 1) := by decide +kernel
theorem d211_19 : mm_dec q211 19 = some (.invokestatic 218) := by decide +kernel
theorem d211_22 : mm_dec q211 22 = some (.ifCond .ne 5) := by decide +kernel
theorem d211_25 : mm_dec q211 25 = some (.iconst (-1)) := by decide +kernel
theorem d211_26 : mm_dec q211 26 = some (.ireturn) := by decide +kernel
theorem d211_27 : mm_dec q211 27 = some (.aload_n 0) := by decide +kernel
theorem d211_28 : mm_dec q211 28 = some (.invokevirtual 356) := by decide +kernel
theorem d211_31 : mm_dec q211 31 = some (.iconst (-1)) := by decide +kernel
theorem d211_32 : mm_dec q211 32 = some (.istore 4) := by decide +kernel
theorem d211_34 : mm_dec q211 34 = some (.iconst (-1)) := by decide +kernel
theorem d211_35 : mm_dec q211 35 = some (.istore 5) := by decide +kernel
theorem d211_37 : mm_dec q211 37 = some (.iconst 1) := by decide +kernel
theorem d211_38 : mm_dec q211 38 = some (.istore 6) := by decide +kernel
theorem d211_40 : mm_dec q211 40 = some (.iload 6) := by decide +kernel
theorem d211_42 : mm_dec q211 42 = some (.iload_n 2) := by decide +kernel
theorem d211_43 : mm_dec q211 43 = some (.if_icmp .gt 47) := by decide +kernel
theorem d211_46 : mm_dec q211 46 = some (.aload_n 0) := by decide +kernel
theorem d211_47 : mm_dec q211 47 = some (.iconst 0) := by decide +kernel
theorem d211_48 : mm_dec q211 48 = some (.invokevirtual 349) := by decide +kernel
theorem d211_51 : mm_dec q211 51 = some (.aload_n 0) := by decide +kernel
theorem d211_52 : mm_dec q211 52 = some (.getfield 61) := by decide +kernel
theorem d211_55 : mm_dec q211 55 = some (.iload_n 1) := by decide +kernel
theorem d211_56 : mm_dec q211 56 = some (.iaload) := by decide +kernel
theorem d211_57 : mm_dec q211 57 = some (.iload 4) := by decide +kernel
theorem d211_59 : mm_dec q211 59 = some (.if_icmp .le 8) := by decide +kernel
theorem d211_62 : mm_dec q211 62 = some (.iload 6) := by decide +kernel
theorem d211_64 : mm_dec q211 64 = some (.goto 5) := by decide +kernel
theorem d211_67 : mm_dec q211 67 = some (.iload 5) := by decide +kernel
theorem d211_69 : mm_dec q211 69 = some (.istore 5) := by decide +kernel
theorem d211_71 : mm_dec q211 71 = some (.iload 4) := by decide +kernel
theorem d211_73 : mm_dec q211 73 = some (.aload_n 0) := by decide +kernel
theorem d211_74 : mm_dec q211 74 = some (.getfield 61) := by decide +kernel
theorem d211_77 : mm_dec q211 77 = some (.iload_n 1) := by decide +kernel
theorem d211_78 : mm_dec q211 78 = some (.iaload) := by decide +kernel
theorem d211_79 : mm_dec q211 79 = some (.invokestatic 368) := by decide +kernel
theorem d211_82 : mm_dec q211 82 = some (.istore 4) := by decide +kernel
theorem d211_84 : mm_dec q211 84 = some (.iinc 6 1) := by decide +kernel
theorem d211_87 : mm_dec q211 87 = some (.goto (-47)) := by decide +kernel
theorem d211_90 : mm_dec q211 90 = some (.aload_n 0) := by decide +kernel
theorem d211_91 : mm_dec q211 91 = some (.invokevirtual 362) := by decide +kernel
theorem d211_94 : mm_dec q211 94 = some (.iload_n 3) := by decide +kernel
theorem d211_95 : mm_dec q211 95 = some (.ifCond .ne 8) := by decide +kernel
theorem d211_98 : mm_dec q211 98 = some (.iload 4) := by decide +kernel
theorem d211_100 : mm_dec q211 100 = some (.goto 5) := by decide +kernel
theorem d211_103 : mm_dec q211 103 = some (.iload 5) := by decide +kernel
theorem d211_105 : mm_dec q211 105 = some (.ireturn) := by decide +kernel
theorem d212_0 : mm_dec q212 0 = some (.aload_n 0) := by decide +kernel
theorem d212_1 : mm_dec q212 1 = some (.iload_n 1) := by decide +kernel
theorem d212_2 : mm_dec q212 2 = some (.invokevirtual 327) := by decide +kernel
theorem d212_5 : mm_dec q212 5 = some (.ifCond .ne 5) := by decide +kernel
theorem d212_8 : mm_dec q212 8 = some (.iconst (-1)) := by decide +kernel
theorem d212_9 : mm_dec q212 9 = some (.ireturn) := by decide +kernel
theorem d212_10 : mm_dec q212 10 = some (.aload_n 0) := by decide +kernel
theorem d212_11 : mm_dec q212 11 = some (.invokevirtual 356) := by decide +kernel
theorem d212_14 : mm_dec q212 14 = some (.iconst (-1)) := by decide +kernel
theorem d212_15 : mm_dec q212 15 = some (.istore_n 2) := by decide +kernel
theorem d212_16 : mm_dec q212 16 = some (.iconst 1) := by decide +kernel
theorem d212_17 : mm_dec q212 17 = some (.istore_n 3) := by decide +kernel
theorem d212_18 : mm_dec q212 18 = some (.iload_n 3) := by decide +kernel
theorem d212_19 : mm_dec q212 19 = some (.sipush 240) := by decide +kernel
theorem d212_22 : mm_dec q212 22 = some (.if_icmp .gt 34) := by decide +kernel
theorem d212_25 : mm_dec q212 25 = some (.iload_n 2) := by decide +kernel
theorem d212_26 : mm_dec q212 26 = some (.iconst (-1)) := by decide +kernel
theorem d212_27 : mm_dec q212 27 = some (.if_icmp .ne 29) := by decide +kernel
theorem d212_30 : mm_dec q212 30 = some (.aload_n 0) := by decide +kernel
theorem d212_31 : mm_dec q212 31 = some (.iconst 0) := by decide +kernel
theorem d212_32 : mm_dec q212 32 = some (.invokevirtual 349) := by decide +kernel
theorem d212_35 : mm_dec q212 35 = some (.aload_n 0) := by decide +kernel
theorem d212_36 : mm_dec q212 36 = some (.getfield 61) := by decide +kernel
theorem d212_39 : mm_dec q212 39 = some (.iload_n 1) := by decide +kernel
theorem d212_40 : mm_dec q212 40 = some (.iaload) := by decide +kernel
theorem d212_41 : mm_dec q212 41 = some (.ifCond .ne 7) := by decide +kernel
theorem d212_44 : mm_dec q212 44 = some (.iload_n 3) := by decide +kernel
theorem d212_45 : mm_dec q212 45 = some (.goto 4) := by decide +kernel
theorem d212_48 : mm_dec q212 48 = some (.iconst (-1)) := by decide +kernel
theorem d212_49 : mm_dec q212 49 = some (.istore_n 2) := by decide +kernel
theorem d212_50 : mm_dec q212 50 = some (.iinc 3 1) := by decide +kernel
theorem d212_53 : mm_dec q212 53 = some (.goto (-35)) := by decide +kernel
theorem d212_56 : mm_dec q212 56 = some (.aload_n 0) := by decide +kernel
theorem d212_57 : mm_dec q212 57 = some (.invokevirtual 362) := by decide +kernel
theorem d212_60 : mm_dec q212 60 = some (.iload_n 2) := by decide +kernel
theorem d212_61 : mm_dec q212 61 = some (.ireturn) := by decide +kernel
theorem d213_0 : mm_dec q213 0 = some (.aload_n 0) := by decide +kernel
theorem d213_1 : mm_dec q213 1 = some (.iload_n 1) := by decide +kernel
theorem d213_2 : mm_dec q213 2 = some (.invokevirtual 324) := by decide +kernel
theorem d213_5 : mm_dec q213 5 = some (.ifCond .eq 11) := by decide +kernel
theorem d213_8 : mm_dec q213 8 = some (.aload_n 0) := by decide +kernel
theorem d213_9 : mm_dec q213 9 = some (.iload_n 2) := by decide +kernel
theorem d213_10 : mm_dec q213 10 = some (.invokevirtual 337) := by decide +kernel
theorem d213_13 : mm_dec q213 13 = some (.ifCond .ne 5) := by decide +kernel
theorem d213_16 : mm_dec q213 16 = some (.iconst (-1)) := by decide +kernel
theorem d213_17 : mm_dec q213 17 = some (.ireturn) := by decide +kernel
theorem d213_18 : mm_dec q213 18 = some (.aload_n 0) := by decide +kernel
theorem d213_19 : mm_dec q213 19 = some (.invokevirtual 356) := by decide +kernel
theorem d213_22 : mm_dec q213 22 = some (.iconst 0) := by decide +kernel
theorem d213_23 : mm_dec q213 23 = some (.istore_n 3) := by decide +kernel
theorem d213_24 : mm_dec q213 24 = some (.iconst 0) := by decide +kernel
theorem d213_25 : mm_dec q213 25 = some (.istore 4) := by decide +kernel
theorem d213_27 : mm_dec q213 27 = some (.iload 4) := by decide +kernel
theorem d213_29 : mm_dec q213 29 = some (.iload_n 2) := by decide +kernel
theorem d213_30 : mm_dec q213 30 = some (.if_icmp .ge 79) := by decide +kernel
theorem d213_33 : mm_dec q213 33 = some (.aload_n 0) := by decide +kernel
theorem d213_34 : mm_dec q213 34 = some (.iload_n 1) := by decide +kernel
theorem d213_35 : mm_dec q213 35 = some (.invokevirtual 314) := by decide +kernel
theorem d213_38 : mm_dec q213 38 = some (.istore 5) := by decide +kernel
theorem d213_40 : mm_dec q213 40 = some (.iconst 0) := by decide +kernel
theorem d213_41 : mm_dec q213 41 = some (.istore 6) := by decide +kernel
theorem d213_43 : mm_dec q213 43 = some (.iload 6) := by decide +kernel
theorem d213_45 : mm_dec q213 45 = some (.aload_n 0) := by decide +kernel
theorem d213_46 : mm_dec q213 46 = some (.getfield 265) := by decide +kernel
theorem d213_49 : mm_dec q213 49 = some (.if_icmp .ge 36) := by decide +kernel
theorem d213_52 : mm_dec q213 52 = some (.iload 5) := by decide +kernel
theorem d213_54 : mm_dec q213 54 = some (.ifCond .eq 22) := by decide +kernel
theorem d213_57 : mm_dec q213 57 = some (.iload 6) := by decide +kernel
theorem d213_59 : mm_dec q213 59 = some (.iload_n 1) := by decide +kernel
theorem d213_60 : mm_dec q213 60 = some (.if_icmp .eq 12) := by decide +kernel
theorem d213_63 : mm_dec q213 63 = some (.aload_n 0) := by decide +kernel
theorem d213_64 : mm_dec q213 64 = some (.iload 6) := by decide +kernel
theorem d213_66 : mm_dec q213 66 = some (.invokevirtual 314) := by decide +kernel
theorem d213_69 : mm_dec q213 69 = some (.ifCond .ne 7) := by decide +kernel
theorem d213_72 : mm_dec q213 72 = some (.iconst 1) := by decide +kernel
theorem d213_73 : mm_dec q213 73 = some (.goto 4) := by decide +kernel
theorem d213_76 : mm_dec q213 76 = some (.iconst 0) := by decide +kernel
theorem d213_77 : mm_dec q213 77 = some (.istore 5) := by decide +kernel
theorem d213_79 : mm_dec q213 79 = some (.iinc 6 1) := by decide +kernel
theorem d213_82 : mm_dec q213 82 = some (.goto (-39)) := by decide +kernel
theorem d213_85 : mm_dec q213 85 = some (.iload_n 3) := by decide +kernel
theorem d213_86 : mm_dec q213 86 = some (.iload 5) := by decide +kernel
theorem d213_88 : mm_dec q213 88 = some (.ifCond .eq 7) := by decide +kernel
theorem d213_91 : mm_dec q213 91 = some (.iconst 1) := by decide +kernel
theorem d213_92 : mm_dec q213 92 = some (.goto 4) := by decide +kernel
theorem d213_95 : mm_dec q213 95 = some (.iconst 0) := by decide +kernel
theorem d213_96 : mm_dec q213 96 = some (.iadd) := by decide +kernel
theorem d213_97 : mm_dec q213 97 = some (.istore_n 3) := by decide +kernel
theorem d213_98 : mm_dec q213 98 = some (.aload_n 0) := by decide +kernel
theorem d213_99 : mm_dec q213 99 = some (.iconst 0) := by decide +kernel
theorem d213_100 : mm_dec q213 100 = some (.invokevirtual 349) := by decide +kernel
theorem d213_103 : mm_dec q213 103 = some (.iinc 4 1) := by decide +kernel
theorem d213_106 : mm_dec q213 106 = some (.goto (-79)) := by decide +kernel
theorem d213_109 : mm_dec q213 109 = some (.aload_n 0) := by decide +kernel
theorem d213_110 : mm_dec q213 110 = some (.invokevirtual 362) := by decide +kernel
theorem d213_113 : mm_dec q213 113 = some (.iload_n 3) := by decide +kernel
theorem d213_114 : mm_dec q213 114 = some (.ireturn) := by decide +kernel
theorem d214_0 : mm_dec q214 0 = some (.aload_n 0) := by decide +kernel
theorem d214_1 : mm_dec q214 1 = some (.iload_n 1) := by decide +kernel
theorem d214_2 : mm_dec q214 2 = some (.invokevirtual 327) := by decide +kernel
theorem d214_5 : mm_dec q214 5 = some (.ifCond .eq 7) := by decide +kernel
theorem d214_8 : mm_dec q214 8 = some (.iload_n 2) := by decide +kernel
theorem d214_9 : mm_dec q214 9 = some (.ifCond .ge 5) := by decide +kernel
theorem d214_12 : mm_dec q214 12 = some (.iconst (-1)) := by decide +kernel
theorem d214_13 : mm_dec q214 13 = some (.ireturn) := by decide +kernel
theorem d214_14 : mm_dec q214 14 = some (.aload_n 0) := by decide +kernel
theorem d214_15 : mm_dec q214 15 = some (.invokevirtual 356) := by decide +kernel
theorem d214_18 : mm_dec q214 18 = some (.aload_n 0) := by decide +kernel
theorem d214_19 : mm_dec q214 19 = some (.getfield 61) := by decide +kernel
theorem d214_22 : mm_dec q214 22 = some (.iload_n 1) := by decide +kernel
theorem d214_23 : mm_dec q214 23 = some (.iaload) := by decide +kernel
theorem d214_24 : mm_dec q214 24 = some (.istore_n 3) := by decide +kernel
theorem d214_25 : mm_dec q214 25 = some (.iconst 0) := by decide +kernel
theorem d214_26 : mm_dec q214 26 = some (.istore 4) := by decide +kernel
theorem d214_28 : mm_dec q214 28 = some (.iconst (-1)) := by decide +kernel
theorem d214_29 : mm_dec q214 29 = some (.istore 5) := by decide +kernel
theorem d214_31 : mm_dec q214 31 = some (.iconst 0) := by decide +kernel
theorem d214_32 : mm_dec q214 32 = some (.istore 6) := by decide +kernel
theorem d214_34 : mm_dec q214 34 = some (.iload 6) := by decide +kernel
theorem d214_36 : mm_dec q214 36 = some (.sipush 240) := by decide +kernel
theorem d214_39 : mm_dec q214 39 = some (.if_icmp .ge 113) := by decide +kernel
theorem d214_42 : mm_dec q214 42 = some (.iload 5) := by decide +kernel
theorem d214_44 : mm_dec q214 44 = some (.iconst (-1)) := by decide +kernel
theorem d214_45 : mm_dec q214 45 = some (.if_icmp .ne 107) := by decide +kernel
theorem d214_48 : mm_dec q214 48 = some (.aload_n 0) := by decide +kernel
theorem d214_49 : mm_dec q214 49 = some (.getfield 274) := by decide +kernel
theorem d214_52 : mm_dec q214 52 = some (.aload_n 0) := by decide +kernel
theorem d214_53 : mm_dec q214 53 = some (.getfield 55) := by decide +kernel
theorem d214_56 : mm_dec q214 56 = some (.iconst 3) := by decide +kernel
theorem d214_57 : mm_dec q214 57 = some (.iload_n 1) := by decide +kernel
theorem d214_58 : mm_dec q214 58 = some (.imul) := by decide +kernel
theorem d214_59 : mm_dec q214 59 = some (.iaload) := by decide +kernel
theorem d214_60 : mm_dec q214 60 = some (.irem) := by decide +kernel
theorem d214_61 : mm_dec q214 61 = some (.ifCond .ne 45) := by decide +kernel
theorem d214_64 : mm_dec q214 64 = some (.iload 4) := by decide +kernel
theorem d214_66 : mm_dec q214 66 = some (.iload_n 2) := by decide +kernel
theorem d214_67 : mm_dec q214 67 = some (.if_icmp .gt 39) := by decide +kernel
theorem d214_70 : mm_dec q214 70 = some (.aload_n 0) := by decide +kernel
theorem d214_71 : mm_dec q214 71 = some (.getfield 274) := by decide +kernel
theorem d214_74 : mm_dec q214 74 = some (.aload_n 0) := by decide +kernel
theorem d214_75 : mm_dec q214 75 = some (.getfield 55) := by decide +kernel
theorem d214_78 : mm_dec q214 78 = some (.iconst 3) := by decide +kernel
theorem d214_79 : mm_dec q214 79 = some (.iload_n 1) := by decide +kernel
theorem d214_80 : mm_dec q214 80 = some (.imul) := by decide +kernel
theorem d214_81 : mm_dec q214 81 = some (.iaload) := by decide +kernel
theorem d214_82 : mm_dec q214 82 = some (.idiv) := by decide +kernel
theorem d214_83 : mm_dec q214 83 = some (.bipush 12) := by decide +kernel
theorem d214_85 : mm_dec q214 85 = some (.irem) := by decide +kernel
theorem d214_86 : mm_dec q214 86 = some (.istore 7) := by decide +kernel
theorem d214_88 : mm_dec q214 88 = some (.iload_n 3) := by decide +kernel
theorem d214_89 : mm_dec q214 89 = some (.iload 7) := by decide +kernel
theorem d214_91 : mm_dec q214 91 = some (.ifCond .ne 8) := by decide +kernel
theorem d214_94 : mm_dec q214 94 = some (.bipush 12) := by decide +kernel
theorem d214_96 : mm_dec q214 96 = some (.goto 5) := by decide +kernel
theorem d214_99 : mm_dec q214 99 = some (.iload 7) := by decide +kernel
theorem d214_101 : mm_dec q214 101 = some (.iadd) := by decide +kernel
theorem d214_102 : mm_dec q214 102 = some (.istore_n 3) := by decide +kernel
theorem d214_103 : mm_dec q214 103 = some (.iinc 4 1) := by decide +kernel
theorem d214_106 : mm_dec q214 106 = some (.aload_n 0) := by decide +kernel
theorem d214_107 : mm_dec q214 107 = some (.iconst 0) := by decide +kernel
theorem d214_108 : mm_dec q214 108 = some (.invokevirtual 349) := by decide +kernel
theorem d214_111 : mm_dec q214 111 = some (.iload_n 3) := by decide +kernel
theorem d214_112 : mm_dec q214 112 = some (.aload_n 0) := by decide +kernel
theorem d214_113 : mm_dec q214 113 = some (.getfield 67) := by decide +kernel
theorem d214_116 : mm_dec q214 116 = some (.iload_n 1) := by decide +kernel
theorem d214_117 : mm_dec q214 117 = some (.baload) := by decide +kernel
theorem d214_118 : mm_dec q214 118 = some (.ifCond .eq 7) := by decide +kernel
theorem d214_121 : mm_dec q214 121 = some (.iconst 1) := by decide +kernel
theorem d214_122 : mm_dec q214 122 = some (.goto 4) := by decide +kernel
theorem d214_125 : mm_dec q214 125 = some (.iconst 0) := by decide +kernel
theorem d214_126 : mm_dec q214 126 = some (.isub) := by decide +kernel
theorem d214_127 : mm_dec q214 127 = some (.istore_n 3) := by decide +kernel
theorem d214_128 : mm_dec q214 128 = some (.iload 4) := by decide +kernel
theorem d214_130 : mm_dec q214 130 = some (.iload_n 2) := by decide +kernel
theorem d214_131 : mm_dec q214 131 = some (.if_icmp .le 12) := by decide +kernel
theorem d214_134 : mm_dec q214 134 = some (.iload_n 3) := by decide +kernel
theorem d214_135 : mm_dec q214 135 = some (.ifCond .ne 8) := by decide +kernel
theorem d214_138 : mm_dec q214 138 = some (.iload 6) := by decide +kernel
theorem d214_140 : mm_dec q214 140 = some (.goto 4) := by decide +kernel
theorem d214_143 : mm_dec q214 143 = some (.iconst (-1)) := by decide +kernel
theorem d214_144 : mm_dec q214 144 = some (.istore 5) := by decide +kernel
theorem d214_146 : mm_dec q214 146 = some (.iinc 6 1) := by decide +kernel
theorem d214_149 : mm_dec q214 149 = some (.goto (-115)) := by decide +kernel
theorem d214_152 : mm_dec q214 152 = some (.aload_n 0) := by decide +kernel
theorem d214_153 : mm_dec q214 153 = some (.invokevirtual 362) := by decide +kernel
theorem d214_156 : mm_dec q214 156 = some (.iload 5) := by decide +kernel
theorem d214_158 : mm_dec q214 158 = some (.ireturn) := by decide +kernel
theorem d215_0 : mm_dec q215 0 = some (.aload_n 0) := by decide +kernel
theorem d215_1 : mm_dec q215 1 = some (.iload_n 1) := by decide +kernel
theorem d215_2 : mm_dec q215 2 = some (.invokevirtual 337) := by decide +kernel
theorem d215_5 : mm_dec q215 5 = some (.ifCond .eq 19) := by decide +kernel
theorem d215_8 : mm_dec q215 8 = some (.aload_n 0) := by decide +kernel
theorem d215_9 : mm_dec q215 9 = some (.getfield 271) := by decide +kernel
theorem d215_12 : mm_dec q215 12 = some (.ifCond .eq 12) := by decide +kernel
theorem d215_15 : mm_dec q215 15 = some (.iload_n 2) := by decide +kernel
theorem d215_16 : mm_dec q215 16 = some (.iconst 0) := by decide +kernel
theorem d215_17 : mm_dec q215 17 = some (.iconst 1) := by decide +kernel
theorem d215_18 : mm_dec q215 18 = some (.invokestatic 218) := by decide +kernel
theorem d215_21 : mm_dec q215 21 = some (.ifCond .ne 5) := by decide +kernel
theorem d215_24 : mm_dec q215 24 = some (.iconst (-1)) := by decide +kernel
theorem d215_25 : mm_dec q215 25 = some (.ireturn) := by decide +kernel
theorem d215_26 : mm_dec q215 26 = some (.aload_n 0) := by decide +kernel
theorem d215_27 : mm_dec q215 27 = some (.getfield 52) := by decide +kernel
theorem d215_30 : mm_dec q215 30 = some (.iconst 3) := by decide +kernel
theorem d215_31 : mm_dec q215 31 = some (.iaload) := by decide +kernel
theorem d215_32 : mm_dec q215 32 = some (.istore_n 3) := by decide +kernel
theorem d215_33 : mm_dec q215 33 = some (.iconst (-1)) := by decide +kernel
theorem d215_34 : mm_dec q215 34 = some (.istore 4) := by decide +kernel
theorem d215_36 : mm_dec q215 36 = some (.iconst 0) := by decide +kernel
theorem d215_37 : mm_dec q215 37 = some (.istore 5) := by decide +kernel
theorem d215_39 : mm_dec q215 39 = some (.iconst 0) := by decide +kernel
theorem d215_40 : mm_dec q215 40 = some (.istore 6) := by decide +kernel
theorem d215_42 : mm_dec q215 42 = some (.iload 6) := by decide +kernel
theorem d215_44 : mm_dec q215 44 = some (.bipush 10) := by decide +kernel
theorem d215_46 : mm_dec q215 46 = some (.if_icmp .ge 46) := by decide +kernel
theorem d215_49 : mm_dec q215 49 = some (.aload_n 0) := by decide +kernel
theorem d215_50 : mm_dec q215 50 = some (.getfield 52) := by decide +kernel
theorem d215_53 : mm_dec q215 53 = some (.iconst 3) := by decide +kernel
theorem d215_54 : mm_dec q215 54 = some (.iload 6) := by decide +kernel
theorem d215_56 : mm_dec q215 56 = some (.iastore) := by decide +kernel
theorem d215_57 : mm_dec q215 57 = some (.aload_n 0) := by decide +kernel
theorem d215_58 : mm_dec q215 58 = some (.iconst 0) := by decide +kernel
theorem d215_59 : mm_dec q215 59 = some (.iload_n 1) := by decide +kernel
theorem d215_60 : mm_dec q215 60 = some (.invokevirtual 365) := by decide +kernel
theorem d215_63 : mm_dec q215 63 = some (.istore 7) := by decide +kernel
theorem d215_65 : mm_dec q215 65 = some (.iload 4) := by decide +kernel
theorem d215_67 : mm_dec q215 67 = some (.iconst (-1)) := by decide +kernel
theorem d215_68 : mm_dec q215 68 = some (.if_icmp .eq 10) := by decide +kernel
theorem d215_71 : mm_dec q215 71 = some (.iload 7) := by decide +kernel
theorem d215_73 : mm_dec q215 73 = some (.iload 5) := by decide +kernel
theorem d215_75 : mm_dec q215 75 = some (.if_icmp .ge 11) := by decide +kernel
theorem d215_78 : mm_dec q215 78 = some (.iload 6) := by decide +kernel
theorem d215_80 : mm_dec q215 80 = some (.istore 4) := by decide +kernel
theorem d215_82 : mm_dec q215 82 = some (.iload 7) := by decide +kernel
theorem d215_84 : mm_dec q215 84 = some (.istore 5) := by decide +kernel
theorem d215_86 : mm_dec q215 86 = some (.iinc 6 1) := by decide +kernel
theorem d215_89 : mm_dec q215 89 = some (.goto (-47)) := by decide +kernel
theorem d215_92 : mm_dec q215 92 = some (.aload_n 0) := by decide +kernel
theorem d215_93 : mm_dec q215 93 = some (.getfield 52) := by decide +kernel
theorem d215_96 : mm_dec q215 96 = some (.iconst 3) := by decide +kernel
theorem d215_97 : mm_dec q215 97 = some (.iload_n 3) := by decide +kernel
theorem d215_98 : mm_dec q215 98 = some (.iastore) := by decide +kernel
theorem d215_99 : mm_dec q215 99 = some (.iload_n 2) := by decide +kernel
theorem d215_100 : mm_dec q215 100 = some (.ifCond .ne 8) := by decide +kernel
theorem d215_103 : mm_dec q215 103 = some (.iload 4) := by decide +kernel
theorem d215_105 : mm_dec q215 105 = some (.goto 5) := by decide +kernel
theorem d215_108 : mm_dec q215 108 = some (.iload 5) := by decide +kernel
theorem d215_110 : mm_dec q215 110 = some (.ireturn) := by decide +kernel
theorem d216_0 : mm_dec q216 0 = some (.aload_n 0) := by decide +kernel
theorem d216_1 : mm_dec q216 1 = some (.getfield 265) := by decide +kernel
theorem d216_4 : mm_dec q216 4 = some (.ifCond .eq 22) := by decide +kernel
theorem d216_7 : mm_dec q216 7 = some (.iload_n 1) := by decide +kernel
theorem d216_8 : mm_dec q216 8 = some (.iconst 0) := by decide +kernel
theorem d216_9 : mm_dec q216 9 = some (.bipush 60) := by decide +kernel
theorem d216_11 : mm_dec q216 11 = some (.invokestatic 218) := by decide +kernel
theorem d216_14 : mm_dec q216 14 = some (.ifCond .eq 12) := by decide +kernel
theorem d216_17 : mm_dec q216 17 = some (.aload_n 0) := by decide +kernel
theorem d216_18 : mm_dec q216 18 = some (.getfield 280) := by decide +kernel
theorem d216_21 : mm_dec q216 21 = some (.bipush 20) := by decide +kernel
theorem d216_23 : mm_dec q216 23 = some (.if_icmp .ne 5) := by decide +kernel
theorem d216_26 : mm_dec q216 26 = some (.iconst (-1)) := by decide +kernel
theorem d216_27 : mm_dec q216 27 = some (.ireturn) := by decide +kernel
theorem d216_28 : mm_dec q216 28 = some (.aload_n 0) := by decide +kernel
theorem d216_29 : mm_dec q216 29 = some (.getfield 87) := by decide +kernel
theorem d216_32 : mm_dec q216 32 = some (.aload_n 0) := by decide +kernel
theorem d216_33 : mm_dec q216 33 = some (.getfield 280) := by decide +kernel
theorem d216_36 : mm_dec q216 36 = some (.iload_n 1) := by decide +kernel
theorem d216_37 : mm_dec q216 37 = some (.iastore) := by decide +kernel
theorem d216_38 : mm_dec q216 38 = some (.aload_n 0) := by decide +kernel
theorem d216_39 : mm_dec q216 39 = some (.getfield 90) := by decide +kernel
theorem d216_42 : mm_dec q216 42 = some (.aload_n 0) := by decide +kernel
theorem d216_43 : mm_dec q216 43 = some (.getfield 280) := by decide +kernel
theorem d216_46 : mm_dec q216 46 = some (.iload_n 2) := by decide +kernel
theorem d216_47 : mm_dec q216 47 = some (.bastore) := by decide +kernel
theorem d216_48 : mm_dec q216 48 = some (.aload_n 0) := by decide +kernel
theorem d216_49 : mm_dec q216 49 = some (.dup) := by decide +kernel
theorem d216_50 : mm_dec q216 50 = some (.getfield 280) := by decide +kernel
theorem d216_53 : mm_dec q216 53 = some (.iconst 1) := by decide +kernel
theorem d216_54 : mm_dec q216 54 = some (.iadd) := by decide +kernel
theorem d216_55 : mm_dec q216 55 = some (.putfield 280) := by decide +kernel
theorem d216_58 : mm_dec q216 58 = some (.aload_n 0) := by decide +kernel
theorem d216_59 : mm_dec q216 59 = some (.getfield 280) := by decide +kernel
theorem d216_62 : mm_dec q216 62 = some (.ireturn) := by decide +kernel
theorem d217_0 : mm_dec q217 0 = some (.iconst 0) := by decide +kernel
theorem d217_1 : mm_dec q217 1 = some (.istore_n 2) := by decide +kernel
theorem d217_2 : mm_dec q217 2 = some (.iload_n 2) := by decide +kernel
theorem d217_3 : mm_dec q217 3 = some (.aload_n 0) := by decide +kernel
theorem d217_4 : mm_dec q217 4 = some (.getfield 280) := by decide +kernel
theorem d217_7 : mm_dec q217 7 = some (.if_icmp .ge 33) := by decide +kernel
theorem d217_10 : mm_dec q217 10 = some (.aload_n 0) := by decide +kernel
theorem d217_11 : mm_dec q217 11 = some (.getfield 93) := by decide +kernel
theorem d217_14 : mm_dec q217 14 = some (.iload_n 1) := by decide +kernel
theorem d217_15 : mm_dec q217 15 = some (.aload_n 0) := by decide +kernel
theorem d217_16 : mm_dec q217 16 = some (.getfield 87) := by decide +kernel
theorem d217_19 : mm_dec q217 19 = some (.iload_n 2) := by decide +kernel
theorem d217_20 : mm_dec q217 20 = some (.iaload) := by decide +kernel
theorem d217_21 : mm_dec q217 21 = some (.iadd) := by decide +kernel
theorem d217_22 : mm_dec q217 22 = some (.baload) := by decide +kernel
theorem d217_23 : mm_dec q217 23 = some (.aload_n 0) := by decide +kernel
theorem d217_24 : mm_dec q217 24 = some (.getfield 90) := by decide +kernel
theorem d217_27 : mm_dec q217 27 = some (.iload_n 2) := by decide +kernel
theorem d217_28 : mm_dec q217 28 = some (.baload) := by decide +kernel
theorem d217_29 : mm_dec q217 29 = some (.if_icmp .eq 5) := by decide +kernel
theorem d217_32 : mm_dec q217 32 = some (.iconst 0) := by decide +kernel
theorem d217_33 : mm_dec q217 33 = some (.ireturn) := by decide +kernel
theorem d217_34 : mm_dec q217 34 = some (.iinc 2 1) := by decide +kernel
theorem d217_37 : mm_dec q217 37 = some (.goto (-35)) := by decide +kernel
theorem d217_40 : mm_dec q217 40 = some (.iconst 1) := by decide +kernel
theorem d217_41 : mm_dec q217 41 = some (.ireturn) := by decide +kernel
theorem d218_0 : mm_dec q218 0 = some (.aload_n 0) := by decide +kernel
theorem d218_1 : mm_dec q218 1 = some (.getfield 265) := by decide +kernel
theorem d218_4 : mm_dec q218 4 = some (.ifCond .eq 8) := by decide +kernel
theorem d218_7 : mm_dec q218 7 = some (.iload_n 1) := by decide +kernel
theorem d218_8 : mm_dec q218 8 = some (.iconst (-1)) := by decide +kernel
theorem d218_9 : mm_dec q218 9 = some (.if_icmp .ge 5) := by decide +kernel
theorem d218_12 : mm_dec q218 12 = some (.iconst (-1)) := by decide +kernel
theorem d218_13 : mm_dec q218 13 = some (.ireturn) := by decide +kernel
theorem d218_14 : mm_dec q218 14 = some (.aload_n 0) := by decide +kernel
theorem d218_15 : mm_dec q218 15 = some (.invokevirtual 356) := by decide +kernel
theorem d218_18 : mm_dec q218 18 = some (.aload_n 0) := by decide +kernel
theorem d218_19 : mm_dec q218 19 = some (.iconst 0) := by decide +kernel
theorem d218_20 : mm_dec q218 20 = some (.putfield 274) := by decide +kernel
theorem d218_23 : mm_dec q218 23 = some (.iconst 0) := by decide +kernel
theorem d218_24 : mm_dec q218 24 = some (.istore_n 2) := by decide +kernel
theorem d218_25 : mm_dec q218 25 = some (.iload_n 2) := by decide +kernel
theorem d218_26 : mm_dec q218 26 = some (.iconst 2) := by decide +kernel
theorem d218_27 : mm_dec q218 27 = some (.if_icmp .ge 16) := by decide +kernel
theorem d218_30 : mm_dec q218 30 = some (.aload_n 0) := by decide +kernel
theorem d218_31 : mm_dec q218 31 = some (.getfield 61) := by decide +kernel
theorem d218_34 : mm_dec q218 34 = some (.iload_n 2) := by decide +kernel
theorem d218_35 : mm_dec q218 35 = some (.iconst 0) := by decide +kernel
theorem d218_36 : mm_dec q218 36 = some (.iastore) := by decide +kernel
theorem d218_37 : mm_dec q218 37 = some (.iinc 2 1) := by decide +kernel
theorem d218_40 : mm_dec q218 40 = some (.goto (-15)) := by decide +kernel
theorem d218_43 : mm_dec q218 43 = some (.iconst 0) := by decide +kernel
theorem d218_44 : mm_dec q218 44 = some (.istore_n 2) := by decide +kernel
theorem d218_45 : mm_dec q218 45 = some (.iload_n 2) := by decide +kernel
theorem d218_46 : mm_dec q218 46 = some (.aload_n 0) := by decide +kernel
theorem d218_47 : mm_dec q218 47 = some (.getfield 93) := by decide +kernel
theorem d218_50 : mm_dec q218 50 = some (.arraylength) := by decide +kernel
theorem d218_51 : mm_dec q218 51 = some (.if_icmp .ge 26) := by decide +kernel
theorem d218_54 : mm_dec q218 54 = some (.aload_n 0) := by decide +kernel
theorem d218_55 : mm_dec q218 55 = some (.iconst 0) := by decide +kernel
theorem d218_56 : mm_dec q218 56 = some (.invokevirtual 349) := by decide +kernel
theorem d218_59 : mm_dec q218 59 = some (.aload_n 0) := by decide +kernel
theorem d218_60 : mm_dec q218 60 = some (.getfield 93) := by decide +kernel
theorem d218_63 : mm_dec q218 63 = some (.iload_n 2) := by decide +kernel
theorem d218_64 : mm_dec q218 64 = some (.aload_n 0) := by decide +kernel
theorem d218_65 : mm_dec q218 65 = some (.getfield 67) := by decide +kernel
theorem d218_68 : mm_dec q218 68 = some (.iconst 0) := by decide +kernel
theorem d218_69 : mm_dec q218 69 = some (.baload) := by decide +kernel
theorem d218_70 : mm_dec q218 70 = some (.bastore) := by decide +kernel
theorem d218_71 : mm_dec q218 71 = some (.iinc 2 1) := by decide +kernel
theorem d218_74 : mm_dec q218 74 = some (.goto (-29)) := by decide +kernel
theorem d218_77 : mm_dec q218 77 = some (.aload_n 0) := by decide +kernel
theorem d218_78 : mm_dec q218 78 = some (.invokevirtual 362) := by decide +kernel
theorem d218_81 : mm_dec q218 81 = some (.iconst 0) := by decide +kernel
theorem d218_82 : mm_dec q218 82 = some (.istore_n 2) := by decide +kernel
theorem d218_83 : mm_dec q218 83 = some (.iconst 0) := by decide +kernel
theorem d218_84 : mm_dec q218 84 = some (.istore_n 3) := by decide +kernel
theorem d218_85 : mm_dec q218 85 = some (.iload_n 3) := by decide +kernel
theorem d218_86 : mm_dec q218 86 = some (.sipush 480) := by decide +kernel
theorem d218_89 : mm_dec q218 89 = some (.if_icmp .ge 27) := by decide +kernel
theorem d218_92 : mm_dec q218 92 = some (.aload_n 0) := by decide +kernel
theorem d218_93 : mm_dec q218 93 = some (.iload_n 3) := by decide +kernel
theorem d218_94 : mm_dec q218 94 = some (.invokevirtual 379) := by decide +kernel
theorem d218_97 : mm_dec q218 97 = some (.ifCond .eq 13) := by decide +kernel
theorem d218_100 : mm_dec q218 100 = some (.iload_n 2) := by decide +kernel
theorem d218_101 : mm_dec q218 101 = some (.iload_n 1) := by decide +kernel
theorem d218_102 : mm_dec q218 102 = some (.if_icmp .ne 5) := by decide +kernel
theorem d218_105 : mm_dec q218 105 = some (.iload_n 3) := by decide +kernel
theorem d218_106 : mm_dec q218 106 = some (.ireturn) := by decide +kernel
theorem d218_107 : mm_dec q218 107 = some (.iinc 2 1) := by decide +kernel
theorem d218_110 : mm_dec q218 110 = some (.iinc 3 1) := by decide +kernel
theorem d218_113 : mm_dec q218 113 = some (.goto (-28)) := by decide +kernel
theorem d218_116 : mm_dec q218 116 = some (.iload_n 1) := by decide +kernel
theorem d218_117 : mm_dec q218 117 = some (.iconst (-1)) := by decide +kernel
theorem d218_118 : mm_dec q218 118 = some (.if_icmp .ne 7) := by decide +kernel
theorem d218_121 : mm_dec q218 121 = some (.iload_n 2) := by decide +kernel
theorem d218_122 : mm_dec q218 122 = some (.goto 4) := by decide +kernel
theorem d218_125 : mm_dec q218 125 = some (.iconst (-1)) := by decide +kernel
theorem d218_126 : mm_dec q218 126 = some (.ireturn) := by decide +kernel
theorem d219_0 : mm_dec q219 0 = some (.aload_n 0) := by decide +kernel
theorem d219_1 : mm_dec q219 1 = some (.iload_n 1) := by decide +kernel
theorem d219_2 : mm_dec q219 2 = some (.invokevirtual 324) := by decide +kernel
theorem d219_5 : mm_dec q219 5 = some (.ifCond .eq 18) := by decide +kernel
theorem d219_8 : mm_dec q219 8 = some (.aload_n 0) := by decide +kernel
theorem d219_9 : mm_dec q219 9 = some (.getfield 58) := by decide +kernel
theorem d219_12 : mm_dec q219 12 = some (.iload_n 1) := by decide +kernel
theorem d219_13 : mm_dec q219 13 = some (.iaload) := by decide +kernel
theorem d219_14 : mm_dec q219 14 = some (.iconst (-1)) := by decide +kernel
theorem d219_15 : mm_dec q219 15 = some (.if_icmp .ne 8) := by decide +kernel
theorem d219_18 : mm_dec q219 18 = some (.iload_n 2) := by decide +kernel
theorem d219_19 : mm_dec q219 19 = some (.iconst (-1)) := by decide +kernel
theorem d219_20 : mm_dec q219 20 = some (.if_icmp .ge 5) := by decide +kernel
theorem d219_23 : mm_dec q219 23 = some (.iconst (-1)) := by decide +kernel
theorem d219_24 : mm_dec q219 24 = some (.ireturn) := by decide +kernel
theorem d219_25 : mm_dec q219 25 = some (.aload_n 0) := by decide +kernel
theorem d219_26 : mm_dec q219 26 = some (.getfield 49) := by decide +kernel
theorem d219_29 : mm_dec q219 29 = some (.iconst 4) := by decide +kernel
theorem d219_30 : mm_dec q219 30 = some (.iload_n 1) := by decide +kernel
theorem d219_31 : mm_dec q219 31 = some (.imul) := by decide +kernel
theorem d219_32 : mm_dec q219 32 = some (.iaload) := by decide +kernel
theorem d219_33 : mm_dec q219 33 = some (.istore_n 3) := by decide +kernel
theorem d219_34 : mm_dec q219 34 = some (.iconst 0) := by decide +kernel
theorem d219_35 : mm_dec q219 35 = some (.istore 4) := by decide +kernel
theorem d219_37 : mm_dec q219 37 = some (.iconst (-1)) := by decide +kernel
theorem d219_38 : mm_dec q219 38 = some (.istore 5) := by decide +kernel
theorem d219_40 : mm_dec q219 40 = some (.iconst 0) := by decide +kernel
theorem d219_41 : mm_dec q219 41 = some (.istore 6) := by decide +kernel
theorem d219_43 : mm_dec q219 43 = some (.iload 6) := by decide +kernel
theorem d219_45 : mm_dec q219 45 = some (.bipush 60) := by decide +kernel
theorem d219_47 : mm_dec q219 47 = some (.if_icmp .ge 87) := by decide +kernel
theorem d219_50 : mm_dec q219 50 = some (.aload_n 0) := by decide +kernel
theorem d219_51 : mm_dec q219 51 = some (.getfield 49) := by decide +kernel
theorem d219_54 : mm_dec q219 54 = some (.iconst 4) := by decide +kernel
theorem d219_55 : mm_dec q219 55 = some (.iload_n 1) := by decide +kernel
theorem d219_56 : mm_dec q219 56 = some (.imul) := by decide +kernel
theorem d219_57 : mm_dec q219 57 = some (.iload 6) := by decide +kernel
theorem d219_59 : mm_dec q219 59 = some (.iastore) := by decide +kernel
theorem d219_60 : mm_dec q219 60 = some (.aload_n 0) := by decide +kernel
theorem d219_61 : mm_dec q219 61 = some (.invokevirtual 356) := by decide +kernel
theorem d219_64 : mm_dec q219 64 = some (.iconst 0) := by decide +kernel
theorem d219_65 : mm_dec q219 65 = some (.istore 7) := by decide +kernel
theorem d219_67 : mm_dec q219 67 = some (.iload 7) := by decide +kernel
theorem d219_69 : mm_dec q219 69 = some (.bipush 60) := by decide +kernel
theorem d219_71 : mm_dec q219 71 = some (.if_icmp .gt 27) := by decide +kernel
theorem d219_74 : mm_dec q219 74 = some (.aload_n 0) := by decide +kernel
theorem d219_75 : mm_dec q219 75 = some (.iconst 0) := by decide +kernel
theorem d219_76 : mm_dec q219 76 = some (.invokevirtual 349) := by decide +kernel
theorem d219_79 : mm_dec q219 79 = some (.aload_n 0) := by decide +kernel
theorem d219_80 : mm_dec q219 80 = some (.getfield 93) := by decide +kernel
theorem d219_83 : mm_dec q219 83 = some (.iload 7) := by decide +kernel
theorem d219_85 : mm_dec q219 85 = some (.aload_n 0) := by decide +kernel
theorem d219_86 : mm_dec q219 86 = some (.getfield 67) := by decide +kernel
theorem d219_89 : mm_dec q219 89 = some (.iconst 0) := by decide +kernel
theorem d219_90 : mm_dec q219 90 = some (.baload) := by decide +kernel
theorem d219_91 : mm_dec q219 91 = some (.bastore) := by decide +kernel
theorem d219_92 : mm_dec q219 92 = some (.iinc 7 1) := by decide +kernel
theorem d219_95 : mm_dec q219 95 = some (.goto (-28)) := by decide +kernel
theorem d219_98 : mm_dec q219 98 = some (.aload_n 0) := by decide +kernel
theorem d219_99 : mm_dec q219 99 = some (.invokevirtual 362) := by decide +kernel
theorem d219_102 : mm_dec q219 102 = some (.aload_n 0) := by decide +kernel
theorem d219_103 : mm_dec q219 103 = some (.iconst 0) := by decide +kernel
theorem d219_104 : mm_dec q219 104 = some (.invokevirtual 379) := by decide +kernel
theorem d219_107 : mm_dec q219 107 = some (.ifCond .eq 21) := by decide +kernel
theorem d219_110 : mm_dec q219 110 = some (.iload 4) := by decide +kernel
theorem d219_112 : mm_dec q219 112 = some (.iload_n 2) := by decide +kernel
theorem d219_113 : mm_dec q219 113 = some (.if_icmp .ne 8) := by decide +kernel
theorem d219_116 : mm_dec q219 116 = some (.iload 6) := by decide +kernel
theorem d219_118 : mm_dec q219 118 = some (.goto 5) := by decide +kernel
theorem d219_121 : mm_dec q219 121 = some (.iload 5) := by decide +kernel
theorem d219_123 : mm_dec q219 123 = some (.istore 5) := by decide +kernel
theorem d219_125 : mm_dec q219 125 = some (.iinc 4 1) := by decide +kernel
theorem d219_128 : mm_dec q219 128 = some (.iinc 6 1) := by decide +kernel
theorem d219_131 : mm_dec q219 131 = some (.goto (-88)) := by decide +kernel
theorem d219_134 : mm_dec q219 134 = some (.aload_n 0) := by decide +kernel
theorem d219_135 : mm_dec q219 135 = some (.getfield 49) := by decide +kernel
theorem d219_138 : mm_dec q219 138 = some (.iconst 4) := by decide +kernel
theorem d219_139 : mm_dec q219 139 = some (.iload_n 1) := by decide +kernel
theorem d219_140 : mm_dec q219 140 = some (.imul) := by decide +kernel
theorem d219_141 : mm_dec q219 141 = some (.iload_n 3) := by decide +kernel
theorem d219_142 : mm_dec q219 142 = some (.iastore) := by decide +kernel
theorem d219_143 : mm_dec q219 143 = some (.iload_n 2) := by decide +kernel
theorem d219_144 : mm_dec q219 144 = some (.iconst (-1)) := by decide +kernel
theorem d219_145 : mm_dec q219 145 = some (.if_icmp .ne 8) := by decide +kernel
theorem d219_148 : mm_dec q219 148 = some (.iload 4) := by decide +kernel
theorem d219_150 : mm_dec q219 150 = some (.goto 5) := by decide +kernel
theorem d219_153 : mm_dec q219 153 = some (.iload 5) := by decide +kernel
theorem d219_155 : mm_dec q219 155 = some (.ireturn) := by decide +kernel
theorem d220_0 : mm_dec q220 0 = some (.lload_n 3) := by decide +kernel
theorem d220_1 : mm_dec q220 1 = some (.lconst 0) := by decide +kernel
theorem d220_2 : mm_dec q220 2 = some (.lcmp) := by decide +kernel
theorem d220_3 : mm_dec q220 3 = some (.ifCond .ne 5) := by decide +kernel
theorem d220_6 : mm_dec q220 6 = some (.lconst 0) := by decide +kernel
theorem d220_7 : mm_dec q220 7 = some (.lreturn) := by decide +kernel
theorem d220_8 : mm_dec q220 8 = some (.iload_n 1) := by decide +kernel
theorem d220_9 : mm_dec q220 9 = some (.iload_n 2) := by decide +kernel
theorem d220_10 : mm_dec q220 10 = some (.if_icmp .ne 18) := by decide +kernel
theorem d220_13 : mm_dec q220 13 = some (.aload_n 0) := by decide +kernel
theorem d220_14 : mm_dec q220 14 = some (.getfield 61) := by decide +kernel
theorem d220_17 : mm_dec q220 17 = some (.iconst 0) := by decide +kernel
theorem d220_18 : mm_dec q220 18 = some (.iaload) := by decide +kernel
theorem d220_19 : mm_dec q220 19 = some (.ifCond .ne 7) := by decide +kernel
theorem d220_22 : mm_dec q220 22 = some (.lload_n 3) := by decide +kernel
theorem d220_23 : mm_dec q220 23 = some (.goto 4) := by decide +kernel
theorem d220_26 : mm_dec q220 26 = some (.lconst 0) := by decide +kernel
theorem d220_27 : mm_dec q220 27 = some (.lreturn) := by decide +kernel
theorem d220_28 : mm_dec q220 28 = some (.iconst 0) := by decide +kernel
theorem d220_29 : mm_dec q220 29 = some (.istore 5) := by decide +kernel
theorem d220_31 : mm_dec q220 31 = some (.iload 5) := by decide +kernel
theorem d220_33 : mm_dec q220 33 = some (.iconst 2) := by decide +kernel
theorem d220_34 : mm_dec q220 34 = some (.if_icmp .ge 27) := by decide +kernel
theorem d220_37 : mm_dec q220 37 = some (.aload_n 0) := by decide +kernel
theorem d220_38 : mm_dec q220 38 = some (.getfield 96) := by decide +kernel
theorem d220_41 : mm_dec q220 41 = some (.iconst 2) := by decide +kernel
theorem d220_42 : mm_dec q220 42 = some (.iload_n 1) := by decide +kernel
theorem d220_43 : mm_dec q220 43 = some (.imul) := by decide +kernel
theorem d220_44 : mm_dec q220 44 = some (.iload 5) := by decide +kernel
theorem d220_46 : mm_dec q220 46 = some (.iadd) := by decide +kernel
theorem d220_47 : mm_dec q220 47 = some (.aload_n 0) := by decide +kernel
theorem d220_48 : mm_dec q220 48 = some (.getfield 61) := by decide +kernel
theorem d220_51 : mm_dec q220 51 = some (.iload 5) := by decide +kernel
theorem d220_53 : mm_dec q220 53 = some (.iaload) := by decide +kernel
theorem d220_54 : mm_dec q220 54 = some (.iastore) := by decide +kernel
theorem d220_55 : mm_dec q220 55 = some (.iinc 5 1) := by decide +kernel
theorem d220_58 : mm_dec q220 58 = some (.goto (-27)) := by decide +kernel
theorem d220_61 : mm_dec q220 61 = some (.lload_n 3) := by decide +kernel
theorem d220_62 : mm_dec q220 62 = some (.aload_n 0) := by decide +kernel
theorem d220_63 : mm_dec q220 63 = some (.getfield 330) := by decide +kernel
theorem d220_66 : mm_dec q220 66 = some (.i2l) := by decide +kernel
theorem d220_67 : mm_dec q220 67 = some (.lmul) := by decide +kernel
theorem d220_68 : mm_dec q220 68 = some (.ldc2_w 347) := by decide +kernel
theorem d220_71 : mm_dec q220 71 = some (.ldiv) := by decide +kernel
theorem d220_72 : mm_dec q220 72 = some (.lstore 5) := by decide +kernel
theorem d220_74 : mm_dec q220 74 = some (.lconst 0) := by decide +kernel
theorem d220_75 : mm_dec q220 75 = some (.lstore 7) := by decide +kernel
theorem d220_77 : mm_dec q220 77 = some (.iconst 0) := by decide +kernel
theorem d220_78 : mm_dec q220 78 = some (.istore 9) := by decide +kernel
theorem d220_80 : mm_dec q220 80 = some (.iload 9) := by decide +kernel
theorem d220_82 : mm_dec q220 82 = some (.iconst 2) := by decide +kernel
theorem d220_83 : mm_dec q220 83 = some (.if_icmp .ge 93) := by decide +kernel
theorem d220_86 : mm_dec q220 86 = some (.aload_n 0) := by decide +kernel
theorem d220_87 : mm_dec q220 87 = some (.iload 9) := by decide +kernel
theorem d220_89 : mm_dec q220 89 = some (.ifCond .ne 7) := by decide +kernel
theorem d220_92 : mm_dec q220 92 = some (.iconst 1) := by decide +kernel
theorem d220_93 : mm_dec q220 93 = some (.goto 4) := by decide +kernel
theorem d220_96 : mm_dec q220 96 = some (.iconst 0) := by decide +kernel
theorem d220_97 : mm_dec q220 97 = some (.invokevirtual 349) := by decide +kernel
theorem d220_100 : mm_dec q220 100 = some (.lload 7) := by decide +kernel
theorem d220_102 : mm_dec q220 102 = some (.aload_n 0) := by decide +kernel
theorem d220_103 : mm_dec q220 103 = some (.iload_n 1) := by decide +kernel
theorem d220_104 : mm_dec q220 104 = some (.iconst 1) := by decide +kernel
theorem d220_105 : mm_dec q220 105 = some (.iadd) := by decide +kernel
theorem d220_106 : mm_dec q220 106 = some (.iload_n 2) := by decide +kernel
theorem d220_107 : mm_dec q220 107 = some (.iload 9) := by decide +kernel
theorem d220_109 : mm_dec q220 109 = some (.ifCond .ne 8) := by decide +kernel
theorem d220_112 : mm_dec q220 112 = some (.lload 5) := by decide +kernel
theorem d220_114 : mm_dec q220 114 = some (.goto 7) := by decide +kernel
theorem d220_117 : mm_dec q220 117 = some (.lload_n 3) := by decide +kernel
theorem d220_118 : mm_dec q220 118 = some (.lload 5) := by decide +kernel
theorem d220_120 : mm_dec q220 120 = some (.lsub) := by decide +kernel
theorem d220_121 : mm_dec q220 121 = some (.invokevirtual 382) := by decide +kernel
theorem d220_124 : mm_dec q220 124 = some (.ladd) := by decide +kernel
theorem d220_125 : mm_dec q220 125 = some (.lstore 7) := by decide +kernel
theorem d220_127 : mm_dec q220 127 = some (.iconst 0) := by decide +kernel
theorem d220_128 : mm_dec q220 128 = some (.istore 10) := by decide +kernel
theorem d220_130 : mm_dec q220 130 = some (.iload 10) := by decide +kernel
theorem d220_132 : mm_dec q220 132 = some (.iconst 2) := by decide +kernel
theorem d220_133 : mm_dec q220 133 = some (.if_icmp .ge 27) := by decide +kernel
theorem d220_136 : mm_dec q220 136 = some (.aload_n 0) := by decide +kernel
theorem d220_137 : mm_dec q220 137 = some (.getfield 61) := by decide +kernel
theorem d220_140 : mm_dec q220 140 = some (.iload 10) := by decide +kernel
theorem d220_142 : mm_dec q220 142 = some (.aload_n 0) := by decide +kernel
theorem d220_143 : mm_dec q220 143 = some (.getfield 96) := by decide +kernel
theorem d220_146 : mm_dec q220 146 = some (.iconst 2) := by decide +kernel
theorem d220_147 : mm_dec q220 147 = some (.iload_n 1) := by decide +kernel
theorem d220_148 : mm_dec q220 148 = some (.imul) := by decide +kernel
theorem d220_149 : mm_dec q220 149 = some (.iload 10) := by decide +kernel
theorem d220_151 : mm_dec q220 151 = some (.iadd) := by decide +kernel
theorem d220_152 : mm_dec q220 152 = some (.iaload) := by decide +kernel
theorem d220_153 : mm_dec q220 153 = some (.iastore) := by decide +kernel
theorem d220_154 : mm_dec q220 154 = some (.iinc 10 1) := by decide +kernel
theorem d220_157 : mm_dec q220 157 = some (.goto (-27)) := by decide +kernel
theorem d220_160 : mm_dec q220 160 = some (.aload_n 0) := by decide +kernel
theorem d220_161 : mm_dec q220 161 = some (.dup) := by decide +kernel
theorem d220_162 : mm_dec q220 162 = some (.getfield 274) := by decide +kernel
theorem d220_165 : mm_dec q220 165 = some (.iconst 1) := by decide +kernel
theorem d220_166 : mm_dec q220 166 = some (.isub) := by decide +kernel
theorem d220_167 : mm_dec q220 167 = some (.putfield 274) := by decide +kernel
theorem d220_170 : mm_dec q220 170 = some (.iinc 9 1) := by decide +kernel
theorem d220_173 : mm_dec q220 173 = some (.goto (-93)) := by decide +kernel
theorem d220_176 : mm_dec q220 176 = some (.lload 7) := by decide +kernel
theorem d220_178 : mm_dec q220 178 = some (.lreturn) := by decide +kernel
theorem d221_0 : mm_dec q221 0 = some (.aload_n 0) := by decide +kernel
theorem d221_1 : mm_dec q221 1 = some (.getfield 265) := by decide +kernel
theorem d221_4 : mm_dec q221 4 = some (.ifCond .eq 13) := by decide +kernel
theorem d221_7 : mm_dec q221 7 = some (.iload_n 1) := by decide +kernel
theorem d221_8 : mm_dec q221 8 = some (.iconst 1) := by decide +kernel
theorem d221_9 : mm_dec q221 9 = some (.bipush 10) := by decide +kernel
theorem d221_11 : mm_dec q221 11 = some (.invokestatic 218) := by decide +kernel
theorem d221_14 : mm_dec q221 14 = some (.ifCond .ne 5) := by decide +kernel
theorem d221_17 : mm_dec q221 17 = some (.iconst (-1)) := by decide +kernel
theorem d221_18 : mm_dec q221 18 = some (.ireturn) := by decide +kernel
theorem d221_19 : mm_dec q221 19 = some (.aload_n 0) := by decide +kernel
theorem d221_20 : mm_dec q221 20 = some (.invokevirtual 356) := by decide +kernel
theorem d221_23 : mm_dec q221 23 = some (.aload_n 0) := by decide +kernel
theorem d221_24 : mm_dec q221 24 = some (.iconst 0) := by decide +kernel
theorem d221_25 : mm_dec q221 25 = some (.iload_n 1) := by decide +kernel
theorem d221_26 : mm_dec q221 26 = some (.ldc2_w 386) := by decide +kernel
theorem d221_29 : mm_dec q221 29 = some (.invokevirtual 382) := by decide +kernel
theorem d221_32 : mm_dec q221 32 = some (.lstore_n 2) := by decide +kernel
theorem d221_33 : mm_dec q221 33 = some (.aload_n 0) := by decide +kernel
theorem d221_34 : mm_dec q221 34 = some (.invokevirtual 362) := by decide +kernel
theorem d221_37 : mm_dec q221 37 = some (.lload_n 2) := by decide +kernel
theorem d221_38 : mm_dec q221 38 = some (.l2i) := by decide +kernel
theorem d221_39 : mm_dec q221 39 = some (.ireturn) := by decide +kernel
theorem d222_0 : mm_dec q222 0 = some (.aload_n 0) := by decide +kernel
theorem d222_1 : mm_dec q222 1 = some (.getfield 265) := by decide +kernel
theorem d222_4 : mm_dec q222 4 = some (.ifCond .ne 5) := by decide +kernel
theorem d222_7 : mm_dec q222 7 = some (.iconst (-1)) := by decide +kernel
theorem d222_8 : mm_dec q222 8 = some (.ireturn) := by decide +kernel
theorem d222_9 : mm_dec q222 9 = some (.iconst 0) := by decide +kernel
theorem d222_10 : mm_dec q222 10 = some (.istore_n 1) := by decide +kernel
theorem d222_11 : mm_dec q222 11 = some (.iload_n 1) := by decide +kernel
theorem d222_12 : mm_dec q222 12 = some (.iconst 2) := by decide +kernel
theorem d222_13 : mm_dec q222 13 = some (.if_icmp .ge 39) := by decide +kernel
theorem d222_16 : mm_dec q222 16 = some (.aload_n 0) := by decide +kernel
theorem d222_17 : mm_dec q222 17 = some (.getfield 99) := by decide +kernel
theorem d222_20 : mm_dec q222 20 = some (.iconst 2) := by decide +kernel
theorem d222_21 : mm_dec q222 21 = some (.iload_n 1) := by decide +kernel
theorem d222_22 : mm_dec q222 22 = some (.imul) := by decide +kernel
theorem d222_23 : mm_dec q222 23 = some (.aload_n 0) := by decide +kernel
theorem d222_24 : mm_dec q222 24 = some (.getfield 61) := by decide +kernel
theorem d222_27 : mm_dec q222 27 = some (.iload_n 1) := by decide +kernel
theorem d222_28 : mm_dec q222 28 = some (.iaload) := by decide +kernel
theorem d222_29 : mm_dec q222 29 = some (.iastore) := by decide +kernel
theorem d222_30 : mm_dec q222 30 = some (.aload_n 0) := by decide +kernel
theorem d222_31 : mm_dec q222 31 = some (.getfield 99) := by decide +kernel
theorem d222_34 : mm_dec q222 34 = some (.iconst 2) := by decide +kernel
theorem d222_35 : mm_dec q222 35 = some (.iload_n 1) := by decide +kernel
theorem d222_36 : mm_dec q222 36 = some (.imul) := by decide +kernel
theorem d222_37 : mm_dec q222 37 = some (.iconst 1) := by decide +kernel
theorem d222_38 : mm_dec q222 38 = some (.iadd) := by decide +kernel
theorem d222_39 : mm_dec q222 39 = some (.aload_n 0) := by decide +kernel
theorem d222_40 : mm_dec q222 40 = some (.getfield 64) := by decide +kernel
theorem d222_43 : mm_dec q222 43 = some (.iload_n 1) := by decide +kernel
theorem d222_44 : mm_dec q222 44 = some (.iaload) := by decide +kernel
theorem d222_45 : mm_dec q222 45 = some (.iastore) := by decide +kernel
theorem d222_46 : mm_dec q222 46 = some (.iinc 1 1) := by decide +kernel
theorem d222_49 : mm_dec q222 49 = some (.goto (-38)) := by decide +kernel
theorem d222_52 : mm_dec q222 52 = some (.aload_n 0) := by decide +kernel
theorem d222_53 : mm_dec q222 53 = some (.aload_n 0) := by decide +kernel
theorem d222_54 : mm_dec q222 54 = some (.getfield 274) := by decide +kernel
theorem d222_57 : mm_dec q222 57 = some (.putfield 388) := by decide +kernel
theorem d222_60 : mm_dec q222 60 = some (.aload_n 0) := by decide +kernel
theorem d222_61 : mm_dec q222 61 = some (.aload_n 0) := by decide +kernel
theorem d222_62 : mm_dec q222 62 = some (.getfield 333) := by decide +kernel
theorem d222_65 : mm_dec q222 65 = some (.putfield 391) := by decide +kernel
theorem d222_68 : mm_dec q222 68 = some (.aload_n 0) := by decide +kernel
theorem d222_69 : mm_dec q222 69 = some (.iconst 1) := by decide +kernel
theorem d222_70 : mm_dec q222 70 = some (.putfield 283) := by decide +kernel
theorem d222_73 : mm_dec q222 73 = some (.aload_n 0) := by decide +kernel
theorem d222_74 : mm_dec q222 74 = some (.getfield 274) := by decide +kernel
theorem d222_77 : mm_dec q222 77 = some (.ireturn) := by decide +kernel
theorem d223_0 : mm_dec q223 0 = some (.aload_n 0) := by decide +kernel
theorem d223_1 : mm_dec q223 1 = some (.getfield 283) := by decide +kernel
theorem d223_4 : mm_dec q223 4 = some (.ifCond .ne 5) := by decide +kernel
theorem d223_7 : mm_dec q223 7 = some (.iconst (-1)) := by decide +kernel
theorem d223_8 : mm_dec q223 8 = some (.ireturn) := by decide +kernel
theorem d223_9 : mm_dec q223 9 = some (.iconst 0) := by decide +kernel
theorem d223_10 : mm_dec q223 10 = some (.istore_n 1) := by decide +kernel
theorem d223_11 : mm_dec q223 11 = some (.iload_n 1) := by decide +kernel
theorem d223_12 : mm_dec q223 12 = some (.iconst 2) := by decide +kernel
theorem d223_13 : mm_dec q223 13 = some (.if_icmp .ge 39) := by decide +kernel
theorem d223_16 : mm_dec q223 16 = some (.aload_n 0) := by decide +kernel
theorem d223_17 : mm_dec q223 17 = some (.getfield 61) := by decide +kernel
theorem d223_20 : mm_dec q223 20 = some (.iload_n 1) := by decide +kernel
theorem d223_21 : mm_dec q223 21 = some (.aload_n 0) := by decide +kernel
theorem d223_22 : mm_dec q223 22 = some (.getfield 99) := by decide +kernel
theorem d223_25 : mm_dec q223 25 = some (.iconst 2) := by decide +kernel
theorem d223_26 : mm_dec q223 26 = some (.iload_n 1) := by decide +kernel
theorem d223_27 : mm_dec q223 27 = some (.imul) := by decide +kernel
theorem d223_28 : mm_dec q223 28 = some (.iaload) := by decide +kernel
theorem d223_29 : mm_dec q223 29 = some (.iastore) := by decide +kernel
theorem d223_30 : mm_dec q223 30 = some (.aload_n 0) := by decide +kernel
theorem d223_31 : mm_dec q223 31 = some (.getfield 64) := by decide +kernel
theorem d223_34 : mm_dec q223 34 = some (.iload_n 1) := by decide +kernel
theorem d223_35 : mm_dec q223 35 = some (.aload_n 0) := by decide +kernel
theorem d223_36 : mm_dec q223 36 = some (.getfield 99) := by decide +kernel
theorem d223_39 : mm_dec q223 39 = some (.iconst 2) := by decide +kernel
theorem d223_40 : mm_dec q223 40 = some (.iload_n 1) := by decide +kernel
theorem d223_41 : mm_dec q223 41 = some (.imul) := by decide +kernel
theorem d223_42 : mm_dec q223 42 = some (.iconst 1) := by decide +kernel
theorem d223_43 : mm_dec q223 43 = some (.iadd) := by decide +kernel
theorem d223_44 : mm_dec q223 44 = some (.iaload) := by decide +kernel
theorem d223_45 : mm_dec q223 45 = some (.iastore) := by decide +kernel
theorem d223_46 : mm_dec q223 46 = some (.iinc 1 1) := by decide +kernel
theorem d223_49 : mm_dec q223 49 = some (.goto (-38)) := by decide +kernel
theorem d223_52 : mm_dec q223 52 = some (.aload_n 0) := by decide +kernel
theorem d223_53 : mm_dec q223 53 = some (.aload_n 0) := by decide +kernel
theorem d223_54 : mm_dec q223 54 = some (.getfield 388) := by decide +kernel
theorem d223_57 : mm_dec q223 57 = some (.putfield 274) := by decide +kernel
theorem d223_60 : mm_dec q223 60 = some (.aload_n 0) := by decide +kernel
theorem d223_61 : mm_dec q223 61 = some (.aload_n 0) := by decide +kernel
theorem d223_62 : mm_dec q223 62 = some (.getfield 391) := by decide +kernel
theorem d223_65 : mm_dec q223 65 = some (.putfield 333) := by decide +kernel
theorem d223_68 : mm_dec q223 68 = some (.aload_n 0) := by decide +kernel
theorem d223_69 : mm_dec q223 69 = some (.iconst 0) := by decide +kernel
theorem d223_70 : mm_dec q223 70 = some (.putfield 277) := by decide +kernel
theorem d223_73 : mm_dec q223 73 = some (.aload_n 0) := by decide +kernel
theorem d223_74 : mm_dec q223 74 = some (.getfield 274) := by decide +kernel
theorem d223_77 : mm_dec q223 77 = some (.ireturn) := by decide +kernel
theorem d224_0 : mm_dec q224 0 = some (.iload_n 1) := by decide +kernel
theorem d224_1 : mm_dec q224 1 = some (.tableswitch 111 0 7 #[47, 52, 57, 62, 67, 72, 101, 106]) := by decide +kernel
theorem d224_48 : mm_dec q224 48 = some (.aload_n 0) := by decide +kernel
theorem d224_49 : mm_dec q224 49 = some (.getfield 265) := by decide +kernel
theorem d224_52 : mm_dec q224 52 = some (.ireturn) := by decide +kernel
theorem d224_53 : mm_dec q224 53 = some (.aload_n 0) := by decide +kernel
theorem d224_54 : mm_dec q224 54 = some (.getfield 268) := by decide +kernel
theorem d224_57 : mm_dec q224 57 = some (.ireturn) := by decide +kernel
theorem d224_58 : mm_dec q224 58 = some (.aload_n 0) := by decide +kernel
theorem d224_59 : mm_dec q224 59 = some (.getfield 289) := by decide +kernel
theorem d224_62 : mm_dec q224 62 = some (.ireturn) := by decide +kernel
theorem d224_63 : mm_dec q224 63 = some (.aload_n 0) := by decide +kernel
theorem d224_64 : mm_dec q224 64 = some (.getfield 110) := by decide +kernel
theorem d224_67 : mm_dec q224 67 = some (.ireturn) := by decide +kernel
theorem d224_68 : mm_dec q224 68 = some (.aload_n 0) := by decide +kernel
theorem d224_69 : mm_dec q224 69 = some (.getfield 274) := by decide +kernel
theorem d224_72 : mm_dec q224 72 = some (.ireturn) := by decide +kernel
theorem d224_73 : mm_dec q224 73 = some (.aload_n 0) := by decide +kernel
theorem d224_74 : mm_dec q224 74 = some (.getfield 265) := by decide +kernel
theorem d224_77 : mm_dec q224 77 = some (.ifCond .ne 7) := by decide +kernel
theorem d224_80 : mm_dec q224 80 = some (.iconst 0) := by decide +kernel
theorem d224_81 : mm_dec q224 81 = some (.goto 20) := by decide +kernel
theorem d224_84 : mm_dec q224 84 = some (.aload_n 0) := by decide +kernel
theorem d224_85 : mm_dec q224 85 = some (.getfield 271) := by decide +kernel
theorem d224_88 : mm_dec q224 88 = some (.ifCond .eq 12) := by decide +kernel
theorem d224_91 : mm_dec q224 91 = some (.aload_n 0) := by decide +kernel
theorem d224_92 : mm_dec q224 92 = some (.getfield 52) := by decide +kernel
theorem d224_95 : mm_dec q224 95 = some (.iconst 3) := by decide +kernel
theorem d224_96 : mm_dec q224 96 = some (.iaload) := by decide +kernel
theorem d224_97 : mm_dec q224 97 = some (.goto 4) := by decide +kernel
theorem d224_100 : mm_dec q224 100 = some (.iconst (-1)) := by decide +kernel
theorem d224_101 : mm_dec q224 101 = some (.ireturn) := by decide +kernel
theorem d224_102 : mm_dec q224 102 = some (.aload_n 0) := by decide +kernel
theorem d224_103 : mm_dec q224 103 = some (.getfield 280) := by decide +kernel
theorem d224_106 : mm_dec q224 106 = some (.ireturn) := by decide +kernel
theorem d224_107 : mm_dec q224 107 = some (.aload_n 0) := by decide +kernel
theorem d224_108 : mm_dec q224 108 = some (.getfield 277) := by decide +kernel
theorem d224_111 : mm_dec q224 111 = some (.ireturn) := by decide +kernel
theorem d224_112 : mm_dec q224 112 = some (.ldc_w 378) := by decide +kernel
theorem d224_115 : mm_dec q224 115 = some (.ireturn) := by decide +kernel
theorem d225_0 : mm_dec q225 0 = some (.iload_n 0) := by decide +kernel
theorem d225_1 : mm_dec q225 1 = some (.iload_n 0) := by decide +kernel
theorem d225_2 : mm_dec q225 2 = some (.iconst 1) := by decide +kernel
theorem d225_3 : mm_dec q225 3 = some (.iushr) := by decide +kernel
theorem d225_4 : mm_dec q225 4 = some (.ldc_w 265) := by decide +kernel
theorem d225_7 : mm_dec q225 7 = some (.iand) := by decide +kernel
theorem d225_8 : mm_dec q225 8 = some (.isub) := by decide +kernel
theorem d225_9 : mm_dec q225 9 = some (.istore_n 0) := by decide +kernel
theorem d225_10 : mm_dec q225 10 = some (.iload_n 0) := by decide +kernel
theorem d225_11 : mm_dec q225 11 = some (.ldc_w 266) := by decide +kernel
theorem d225_14 : mm_dec q225 14 = some (.iand) := by decide +kernel
theorem d225_15 : mm_dec q225 15 = some (.iload_n 0) := by decide +kernel
theorem d225_16 : mm_dec q225 16 = some (.iconst 2) := by decide +kernel
theorem d225_17 : mm_dec q225 17 = some (.iushr) := by decide +kernel
theorem d225_18 : mm_dec q225 18 = some (.ldc_w 266) := by decide +kernel
theorem d225_21 : mm_dec q225 21 = some (.iand) := by decide +kernel
theorem d225_22 : mm_dec q225 22 = some (.iadd) := by decide +kernel
theorem d225_23 : mm_dec q225 23 = some (.istore_n 0) := by decide +kernel
theorem d225_24 : mm_dec q225 24 = some (.iload_n 0) := by decide +kernel
theorem d225_25 : mm_dec q225 25 = some (.iload_n 0) := by decide +kernel
theorem d225_26 : mm_dec q225 26 = some (.iconst 4) := by decide +kernel
theorem d225_27 : mm_dec q225 27 = some (.iushr) := by decide +kernel
theorem d225_28 : mm_dec q225 28 = some (.iadd) := by decide +kernel
theorem d225_29 : mm_dec q225 29 = some (.ldc_w 267) := by decide +kernel
theorem d225_32 : mm_dec q225 32 = some (.iand) := by decide +kernel
theorem d225_33 : mm_dec q225 33 = some (.istore_n 0) := by decide +kernel
theorem d225_34 : mm_dec q225 34 = some (.iload_n 0) := by decide +kernel
theorem d225_35 : mm_dec q225 35 = some (.iload_n 0) := by decide +kernel
theorem d225_36 : mm_dec q225 36 = some (.bipush 8) := by decide +kernel
theorem d225_38 : mm_dec q225 38 = some (.iushr) := by decide +kernel
theorem d225_39 : mm_dec q225 39 = some (.iadd) := by decide +kernel
theorem d225_40 : mm_dec q225 40 = some (.istore_n 0) := by decide +kernel
theorem d225_41 : mm_dec q225 41 = some (.iload_n 0) := by decide +kernel
theorem d225_42 : mm_dec q225 42 = some (.iload_n 0) := by decide +kernel
theorem d225_43 : mm_dec q225 43 = some (.bipush 16) := by decide +kernel
theorem d225_45 : mm_dec q225 45 = some (.iushr) := by decide +kernel
theorem d225_46 : mm_dec q225 46 = some (.iadd) := by decide +kernel
theorem d225_47 : mm_dec q225 47 = some (.istore_n 0) := by decide +kernel
theorem d225_48 : mm_dec q225 48 = some (.iload_n 0) := by decide +kernel
theorem d225_49 : mm_dec q225 49 = some (.bipush 63) := by decide +kernel
theorem d225_51 : mm_dec q225 51 = some (.iand) := by decide +kernel
theorem d225_52 : mm_dec q225 52 = some (.ireturn) := by decide +kernel
theorem d226_0 : mm_dec q226 0 = some (.iload_n 0) := by decide +kernel
theorem d226_1 : mm_dec q226 1 = some (.iload_n 1) := by decide +kernel
theorem d226_2 : mm_dec q226 2 = some (.irem) := by decide +kernel
theorem d226_3 : mm_dec q226 3 = some (.istore_n 2) := by decide +kernel
theorem d226_4 : mm_dec q226 4 = some (.iload_n 0) := by decide +kernel
theorem d226_5 : mm_dec q226 5 = some (.iload_n 1) := by decide +kernel
theorem d226_6 : mm_dec q226 6 = some (.ixor) := by decide +kernel
theorem d226_7 : mm_dec q226 7 = some (.ifCond .ge 11) := by decide +kernel
theorem d226_10 : mm_dec q226 10 = some (.iload_n 2) := by decide +kernel
theorem d226_11 : mm_dec q226 11 = some (.ifCond .eq 7) := by decide +kernel
theorem d226_14 : mm_dec q226 14 = some (.iload_n 2) := by decide +kernel
theorem d226_15 : mm_dec q226 15 = some (.iload_n 1) := by decide +kernel
theorem d226_16 : mm_dec q226 16 = some (.iadd) := by decide +kernel
theorem d226_17 : mm_dec q226 17 = some (.ireturn) := by decide +kernel
theorem d226_18 : mm_dec q226 18 = some (.iload_n 2) := by decide +kernel
theorem d226_19 : mm_dec q226 19 = some (.ireturn) := by decide +kernel
theorem d227_0 : mm_dec q227 0 = some (.iload_n 0) := by decide +kernel
theorem d227_1 : mm_dec q227 1 = some (.iload_n 1) := by decide +kernel
theorem d227_2 : mm_dec q227 2 = some (.if_icmp .lt 7) := by decide +kernel
theorem d227_5 : mm_dec q227 5 = some (.iload_n 0) := by decide +kernel
theorem d227_6 : mm_dec q227 6 = some (.goto 4) := by decide +kernel
theorem d227_9 : mm_dec q227 9 = some (.iload_n 1) := by decide +kernel
theorem d227_10 : mm_dec q227 10 = some (.ireturn) := by decide +kernel
theorem d228_0 : mm_dec q228 0 = some (.lload_n 0) := by decide +kernel
theorem d228_1 : mm_dec q228 1 = some (.lload_n 2) := by decide +kernel
theorem d228_2 : mm_dec q228 2 = some (.lcmp) := by decide +kernel
theorem d228_3 : mm_dec q228 3 = some (.ifCond .lt 7) := by decide +kernel
theorem d228_6 : mm_dec q228 6 = some (.lload_n 0) := by decide +kernel
theorem d228_7 : mm_dec q228 7 = some (.goto 4) := by decide +kernel
theorem d228_10 : mm_dec q228 10 = some (.lload_n 2) := by decide +kernel
theorem d228_11 : mm_dec q228 11 = some (.lreturn) := by decide +kernel
theorem d229_0 : mm_dec q229 0 = some (.iload_n 0) := by decide +kernel
theorem d229_1 : mm_dec q229 1 = some (.iload_n 1) := by decide +kernel
theorem d229_2 : mm_dec q229 2 = some (.if_icmp .gt 7) := by decide +kernel
theorem d229_5 : mm_dec q229 5 = some (.iload_n 0) := by decide +kernel
theorem d229_6 : mm_dec q229 6 = some (.goto 4) := by decide +kernel
theorem d229_9 : mm_dec q229 9 = some (.iload_n 1) := by decide +kernel
theorem d229_10 : mm_dec q229 10 = some (.ireturn) := by decide +kernel
theorem d230_0 : mm_dec q230 0 = some (.lload_n 0) := by decide +kernel
theorem d230_1 : mm_dec q230 1 = some (.lload_n 2) := by decide +kernel
theorem d230_2 : mm_dec q230 2 = some (.lcmp) := by decide +kernel
theorem d230_3 : mm_dec q230 3 = some (.ifCond .gt 7) := by decide +kernel
theorem d230_6 : mm_dec q230 6 = some (.lload_n 0) := by decide +kernel
theorem d230_7 : mm_dec q230 7 = some (.goto 4) := by decide +kernel
theorem d230_10 : mm_dec q230 10 = some (.lload_n 2) := by decide +kernel
theorem d230_11 : mm_dec q230 11 = some (.lreturn) := by decide +kernel
