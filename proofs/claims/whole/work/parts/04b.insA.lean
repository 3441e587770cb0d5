theorem i_X0_init_0 : ins MX0_init 0 = some (.aload_n 0) := by decide +kernel
theorem i_X0_init_1 : ins MX0_init 1 = some (.invokespecial 3) := by decide +kernel
theorem i_X0_init_4 : ins MX0_init 4 = some (.aload_n 0) := by decide +kernel
theorem i_X0_init_5 : ins MX0_init 5 = some (.bipush 64) := by decide +kernel
theorem i_X0_init_7 : ins MX0_init 7 = some (.newarray .int) := by decide +kernel
theorem i_X0_init_9 : ins MX0_init 9 = some (.putfield 9) := by decide +kernel
theorem i_X0_init_12 : ins MX0_init 12 = some (.return_) := by decide +kernel
theorem i_X0_isOrder_0 : ins MX0_isOrder 0 = some (.iload_n 0) := by decide +kernel
theorem i_X0_isOrder_1 : ins MX0_isOrder 1 = some (.ifCond .lt 10) := by decide +kernel
theorem i_X0_isOrder_4 : ins MX0_isOrder 4 = some (.iload_n 0) := by decide +kernel
theorem i_X0_isOrder_5 : ins MX0_isOrder 5 = some (.sipush 255) := by decide +kernel
theorem i_X0_isOrder_8 : ins MX0_isOrder 8 = some (.if_icmp .le 5) := by decide +kernel
theorem i_X0_isOrder_11 : ins MX0_isOrder 11 = some (.iconst 0) := by decide +kernel
theorem i_X0_isOrder_12 : ins MX0_isOrder 12 = some (.ireturn) := by decide +kernel
theorem i_X0_isOrder_13 : ins MX0_isOrder 13 = some (.iconst 0) := by decide +kernel
theorem i_X0_isOrder_14 : ins MX0_isOrder 14 = some (.istore_n 1) := by decide +kernel
theorem i_X0_isOrder_15 : ins MX0_isOrder 15 = some (.iconst 0) := by decide +kernel
theorem i_X0_isOrder_16 : ins MX0_isOrder 16 = some (.istore_n 2) := by decide +kernel
theorem i_X0_isOrder_17 : ins MX0_isOrder 17 = some (.iload_n 2) := by decide +kernel
theorem i_X0_isOrder_18 : ins MX0_isOrder 18 = some (.iconst 4) := by decide +kernel
theorem i_X0_isOrder_19 : ins MX0_isOrder 19 = some (.if_icmp .ge 19) := by decide +kernel
theorem i_X0_isOrder_22 : ins MX0_isOrder 22 = some (.iload_n 1) := by decide +kernel
theorem i_X0_isOrder_23 : ins MX0_isOrder 23 = some (.iconst 1) := by decide +kernel
theorem i_X0_isOrder_24 : ins MX0_isOrder 24 = some (.iload_n 0) := by decide +kernel
theorem i_X0_isOrder_25 : ins MX0_isOrder 25 = some (.iload_n 2) := by decide +kernel
theorem i_X0_isOrder_26 : ins MX0_isOrder 26 = some (.invokestatic 15) := by decide +kernel
theorem i_X0_isOrder_29 : ins MX0_isOrder 29 = some (.ishl) := by decide +kernel
theorem i_X0_isOrder_30 : ins MX0_isOrder 30 = some (.ior) := by decide +kernel
theorem i_X0_isOrder_31 : ins MX0_isOrder 31 = some (.istore_n 1) := by decide +kernel
theorem i_X0_isOrder_32 : ins MX0_isOrder 32 = some (.iinc 2 1) := by decide +kernel
theorem i_X0_isOrder_35 : ins MX0_isOrder 35 = some (.goto (-18)) := by decide +kernel
theorem i_X0_isOrder_38 : ins MX0_isOrder 38 = some (.iload_n 1) := by decide +kernel
theorem i_X0_isOrder_39 : ins MX0_isOrder 39 = some (.bipush 15) := by decide +kernel
theorem i_X0_isOrder_41 : ins MX0_isOrder 41 = some (.if_icmp .ne 7) := by decide +kernel
theorem i_X0_isOrder_44 : ins MX0_isOrder 44 = some (.iconst 1) := by decide +kernel
theorem i_X0_isOrder_45 : ins MX0_isOrder 45 = some (.goto 4) := by decide +kernel
theorem i_X0_isOrder_48 : ins MX0_isOrder 48 = some (.iconst 0) := by decide +kernel
theorem i_X0_isOrder_49 : ins MX0_isOrder 49 = some (.ireturn) := by decide +kernel
theorem i_X0_columnAt_0 : ins MX0_columnAt 0 = some (.iload_n 0) := by decide +kernel
theorem i_X0_columnAt_1 : ins MX0_columnAt 1 = some (.iconst 2) := by decide +kernel
theorem i_X0_columnAt_2 : ins MX0_columnAt 2 = some (.iconst 3) := by decide +kernel
theorem i_X0_columnAt_3 : ins MX0_columnAt 3 = some (.iload_n 1) := by decide +kernel
theorem i_X0_columnAt_4 : ins MX0_columnAt 4 = some (.isub) := by decide +kernel
theorem i_X0_columnAt_5 : ins MX0_columnAt 5 = some (.imul) := by decide +kernel
theorem i_X0_columnAt_6 : ins MX0_columnAt 6 = some (.ishr) := by decide +kernel
theorem i_X0_columnAt_7 : ins MX0_columnAt 7 = some (.iconst 3) := by decide +kernel
theorem i_X0_columnAt_8 : ins MX0_columnAt 8 = some (.iand) := by decide +kernel
theorem i_X0_columnAt_9 : ins MX0_columnAt 9 = some (.ireturn) := by decide +kernel
theorem i_X0_arrange_0 : ins MX0_arrange 0 = some (.aload_n 0) := by decide +kernel
theorem i_X0_arrange_1 : ins MX0_arrange 1 = some (.aload_n 1) := by decide +kernel
theorem i_X0_arrange_2 : ins MX0_arrange 2 = some (.invokevirtual 19) := by decide +kernel
theorem i_X0_arrange_5 : ins MX0_arrange 5 = some (.aload_n 0) := by decide +kernel
theorem i_X0_arrange_6 : ins MX0_arrange 6 = some (.aload_n 1) := by decide +kernel
theorem i_X0_arrange_7 : ins MX0_arrange 7 = some (.iconst 0) := by decide +kernel
theorem i_X0_arrange_8 : ins MX0_arrange 8 = some (.aload_n 0) := by decide +kernel
theorem i_X0_arrange_9 : ins MX0_arrange 9 = some (.getfield 23) := by decide +kernel
theorem i_X0_arrange_12 : ins MX0_arrange 12 = some (.iload_n 2) := by decide +kernel
theorem i_X0_arrange_13 : ins MX0_arrange 13 = some (.iconst 0) := by decide +kernel
theorem i_X0_arrange_14 : ins MX0_arrange 14 = some (.invokestatic 15) := by decide +kernel
theorem i_X0_arrange_17 : ins MX0_arrange 17 = some (.iconst 0) := by decide +kernel
theorem i_X0_arrange_18 : ins MX0_arrange 18 = some (.invokevirtual 27) := by decide +kernel
theorem i_X0_arrange_21 : ins MX0_arrange 21 = some (.iconst 1) := by decide +kernel
theorem i_X0_arrange_22 : ins MX0_arrange 22 = some (.istore 4) := by decide +kernel
theorem i_X0_arrange_24 : ins MX0_arrange 24 = some (.iload 4) := by decide +kernel
theorem i_X0_arrange_26 : ins MX0_arrange 26 = some (.iconst 4) := by decide +kernel
theorem i_X0_arrange_27 : ins MX0_arrange 27 = some (.if_icmp .ge 83) := by decide +kernel
theorem i_X0_arrange_30 : ins MX0_arrange 30 = some (.iconst 0) := by decide +kernel
theorem i_X0_arrange_31 : ins MX0_arrange 31 = some (.istore 5) := by decide +kernel
theorem i_X0_arrange_33 : ins MX0_arrange 33 = some (.iconst 0) := by decide +kernel
theorem i_X0_arrange_34 : ins MX0_arrange 34 = some (.istore 6) := by decide +kernel
theorem i_X0_arrange_36 : ins MX0_arrange 36 = some (.iload 6) := by decide +kernel
theorem i_X0_arrange_38 : ins MX0_arrange 38 = some (.aload_n 0) := by decide +kernel
theorem i_X0_arrange_39 : ins MX0_arrange 39 = some (.getfield 23) := by decide +kernel
theorem i_X0_arrange_42 : ins MX0_arrange 42 = some (.if_icmp .ge 62) := by decide +kernel
theorem i_X0_arrange_45 : ins MX0_arrange 45 = some (.aload_n 0) := by decide +kernel
theorem i_X0_arrange_46 : ins MX0_arrange 46 = some (.aload_n 1) := by decide +kernel
theorem i_X0_arrange_47 : ins MX0_arrange 47 = some (.iload 6) := by decide +kernel
theorem i_X0_arrange_49 : ins MX0_arrange 49 = some (.iload_n 2) := by decide +kernel
theorem i_X0_arrange_50 : ins MX0_arrange 50 = some (.iload 4) := by decide +kernel
theorem i_X0_arrange_52 : ins MX0_arrange 52 = some (.invokevirtual 31) := by decide +kernel
theorem i_X0_arrange_55 : ins MX0_arrange 55 = some (.istore 7) := by decide +kernel
theorem i_X0_arrange_57 : ins MX0_arrange 57 = some (.aload_n 0) := by decide +kernel
theorem i_X0_arrange_58 : ins MX0_arrange 58 = some (.aload_n 1) := by decide +kernel
theorem i_X0_arrange_59 : ins MX0_arrange 59 = some (.iload 6) := by decide +kernel
theorem i_X0_arrange_61 : ins MX0_arrange 61 = some (.iload 7) := by decide +kernel
theorem i_X0_arrange_63 : ins MX0_arrange 63 = some (.iload_n 2) := by decide +kernel
theorem i_X0_arrange_64 : ins MX0_arrange 64 = some (.iload 4) := by decide +kernel
theorem i_X0_arrange_66 : ins MX0_arrange 66 = some (.invokestatic 15) := by decide +kernel
theorem i_X0_arrange_69 : ins MX0_arrange 69 = some (.iload 5) := by decide +kernel
theorem i_X0_arrange_71 : ins MX0_arrange 71 = some (.invokevirtual 27) := by decide +kernel
theorem i_X0_arrange_74 : ins MX0_arrange 74 = some (.iload_n 3) := by decide +kernel
theorem i_X0_arrange_75 : ins MX0_arrange 75 = some (.ifCond .eq 12) := by decide +kernel
theorem i_X0_arrange_78 : ins MX0_arrange 78 = some (.iload 5) := by decide +kernel
theorem i_X0_arrange_80 : ins MX0_arrange 80 = some (.ifCond .ne 7) := by decide +kernel
theorem i_X0_arrange_83 : ins MX0_arrange 83 = some (.iconst 1) := by decide +kernel
theorem i_X0_arrange_84 : ins MX0_arrange 84 = some (.goto 4) := by decide +kernel
theorem i_X0_arrange_87 : ins MX0_arrange 87 = some (.iconst 0) := by decide +kernel
theorem i_X0_arrange_88 : ins MX0_arrange 88 = some (.istore 5) := by decide +kernel
theorem i_X0_arrange_90 : ins MX0_arrange 90 = some (.iload 7) := by decide +kernel
theorem i_X0_arrange_92 : ins MX0_arrange 92 = some (.iload 6) := by decide +kernel
theorem i_X0_arrange_94 : ins MX0_arrange 94 = some (.iconst 1) := by decide +kernel
theorem i_X0_arrange_95 : ins MX0_arrange 95 = some (.iadd) := by decide +kernel
theorem i_X0_arrange_96 : ins MX0_arrange 96 = some (.invokestatic 35) := by decide +kernel
theorem i_X0_arrange_99 : ins MX0_arrange 99 = some (.istore 6) := by decide +kernel
theorem i_X0_arrange_101 : ins MX0_arrange 101 = some (.goto (-65)) := by decide +kernel
theorem i_X0_arrange_104 : ins MX0_arrange 104 = some (.iinc 4 1) := by decide +kernel
theorem i_X0_arrange_107 : ins MX0_arrange 107 = some (.goto (-83)) := by decide +kernel
theorem i_X0_arrange_110 : ins MX0_arrange 110 = some (.return_) := by decide +kernel
theorem i_X0_layByLine_0 : ins MX0_layByLine 0 = some (.aload_n 0) := by decide +kernel
theorem i_X0_layByLine_1 : ins MX0_layByLine 1 = some (.iconst 0) := by decide +kernel
theorem i_X0_layByLine_2 : ins MX0_layByLine 2 = some (.putfield 23) := by decide +kernel
theorem i_X0_layByLine_5 : ins MX0_layByLine 5 = some (.aload_n 1) := by decide +kernel
theorem i_X0_layByLine_6 : ins MX0_layByLine 6 = some (.invokevirtual 40) := by decide +kernel
theorem i_X0_layByLine_9 : ins MX0_layByLine 9 = some (.istore_n 2) := by decide +kernel
theorem i_X0_layByLine_10 : ins MX0_layByLine 10 = some (.iconst 0) := by decide +kernel
theorem i_X0_layByLine_11 : ins MX0_layByLine 11 = some (.istore_n 3) := by decide +kernel
theorem i_X0_layByLine_12 : ins MX0_layByLine 12 = some (.iload_n 3) := by decide +kernel
theorem i_X0_layByLine_13 : ins MX0_layByLine 13 = some (.bipush 64) := by decide +kernel
theorem i_X0_layByLine_15 : ins MX0_layByLine 15 = some (.if_icmp .ge 56) := by decide +kernel
theorem i_X0_layByLine_18 : ins MX0_layByLine 18 = some (.aload_n 1) := by decide +kernel
theorem i_X0_layByLine_19 : ins MX0_layByLine 19 = some (.iload_n 3) := by decide +kernel
theorem i_X0_layByLine_20 : ins MX0_layByLine 20 = some (.invokevirtual 45) := by decide +kernel
theorem i_X0_layByLine_23 : ins MX0_layByLine 23 = some (.ifCond .eq 26) := by decide +kernel
theorem i_X0_layByLine_26 : ins MX0_layByLine 26 = some (.aload_n 0) := by decide +kernel
theorem i_X0_layByLine_27 : ins MX0_layByLine 27 = some (.getfield 9) := by decide +kernel
theorem i_X0_layByLine_30 : ins MX0_layByLine 30 = some (.aload_n 0) := by decide +kernel
theorem i_X0_layByLine_31 : ins MX0_layByLine 31 = some (.getfield 23) := by decide +kernel
theorem i_X0_layByLine_34 : ins MX0_layByLine 34 = some (.iload_n 3) := by decide +kernel
theorem i_X0_layByLine_35 : ins MX0_layByLine 35 = some (.iastore) := by decide +kernel
theorem i_X0_layByLine_36 : ins MX0_layByLine 36 = some (.aload_n 0) := by decide +kernel
theorem i_X0_layByLine_37 : ins MX0_layByLine 37 = some (.dup) := by decide +kernel
theorem i_X0_layByLine_38 : ins MX0_layByLine 38 = some (.getfield 23) := by decide +kernel
theorem i_X0_layByLine_41 : ins MX0_layByLine 41 = some (.iconst 1) := by decide +kernel
theorem i_X0_layByLine_42 : ins MX0_layByLine 42 = some (.iadd) := by decide +kernel
theorem i_X0_layByLine_43 : ins MX0_layByLine 43 = some (.putfield 23) := by decide +kernel
theorem i_X0_layByLine_46 : ins MX0_layByLine 46 = some (.goto 19) := by decide +kernel
theorem i_X0_layByLine_49 : ins MX0_layByLine 49 = some (.iload_n 2) := by decide +kernel
theorem i_X0_layByLine_50 : ins MX0_layByLine 50 = some (.bipush 64) := by decide +kernel
theorem i_X0_layByLine_52 : ins MX0_layByLine 52 = some (.if_icmp .ge 13) := by decide +kernel
theorem i_X0_layByLine_55 : ins MX0_layByLine 55 = some (.aload_n 0) := by decide +kernel
theorem i_X0_layByLine_56 : ins MX0_layByLine 56 = some (.getfield 9) := by decide +kernel
theorem i_X0_layByLine_59 : ins MX0_layByLine 59 = some (.iload_n 2) := by decide +kernel
theorem i_X0_layByLine_60 : ins MX0_layByLine 60 = some (.iload_n 3) := by decide +kernel
theorem i_X0_layByLine_61 : ins MX0_layByLine 61 = some (.iastore) := by decide +kernel
theorem i_X0_layByLine_62 : ins MX0_layByLine 62 = some (.iinc 2 1) := by decide +kernel
theorem i_X0_layByLine_65 : ins MX0_layByLine 65 = some (.iinc 3 1) := by decide +kernel
theorem i_X0_layByLine_68 : ins MX0_layByLine 68 = some (.goto (-56)) := by decide +kernel
theorem i_X0_layByLine_71 : ins MX0_layByLine 71 = some (.return_) := by decide +kernel
theorem i_X0_runEnd_0 : ins MX0_runEnd 0 = some (.iload_n 2) := by decide +kernel
theorem i_X0_runEnd_1 : ins MX0_runEnd 1 = some (.iconst 1) := by decide +kernel
theorem i_X0_runEnd_2 : ins MX0_runEnd 2 = some (.iadd) := by decide +kernel
theorem i_X0_runEnd_3 : ins MX0_runEnd 3 = some (.istore 5) := by decide +kernel
theorem i_X0_runEnd_5 : ins MX0_runEnd 5 = some (.iload 5) := by decide +kernel
theorem i_X0_runEnd_7 : ins MX0_runEnd 7 = some (.aload_n 0) := by decide +kernel
theorem i_X0_runEnd_8 : ins MX0_runEnd 8 = some (.getfield 23) := by decide +kernel
theorem i_X0_runEnd_11 : ins MX0_runEnd 11 = some (.if_icmp .ge 32) := by decide +kernel
theorem i_X0_runEnd_14 : ins MX0_runEnd 14 = some (.aload_n 1) := by decide +kernel
theorem i_X0_runEnd_15 : ins MX0_runEnd 15 = some (.aload_n 0) := by decide +kernel
theorem i_X0_runEnd_16 : ins MX0_runEnd 16 = some (.getfield 9) := by decide +kernel
theorem i_X0_runEnd_19 : ins MX0_runEnd 19 = some (.iload_n 2) := by decide +kernel
theorem i_X0_runEnd_20 : ins MX0_runEnd 20 = some (.iaload) := by decide +kernel
theorem i_X0_runEnd_21 : ins MX0_runEnd 21 = some (.aload_n 0) := by decide +kernel
theorem i_X0_runEnd_22 : ins MX0_runEnd 22 = some (.getfield 9) := by decide +kernel
theorem i_X0_runEnd_25 : ins MX0_runEnd 25 = some (.iload 5) := by decide +kernel
theorem i_X0_runEnd_27 : ins MX0_runEnd 27 = some (.iaload) := by decide +kernel
theorem i_X0_runEnd_28 : ins MX0_runEnd 28 = some (.iload_n 3) := by decide +kernel
theorem i_X0_runEnd_29 : ins MX0_runEnd 29 = some (.iload 4) := by decide +kernel
theorem i_X0_runEnd_31 : ins MX0_runEnd 31 = some (.invokestatic 49) := by decide +kernel
theorem i_X0_runEnd_34 : ins MX0_runEnd 34 = some (.ifCond .eq 9) := by decide +kernel
theorem i_X0_runEnd_37 : ins MX0_runEnd 37 = some (.iinc 5 1) := by decide +kernel
theorem i_X0_runEnd_40 : ins MX0_runEnd 40 = some (.goto (-35)) := by decide +kernel
theorem i_X0_runEnd_43 : ins MX0_runEnd 43 = some (.iload 5) := by decide +kernel
theorem i_X0_runEnd_45 : ins MX0_runEnd 45 = some (.ireturn) := by decide +kernel
theorem i_X0_alike_0 : ins MX0_alike 0 = some (.iconst 0) := by decide +kernel
theorem i_X0_alike_1 : ins MX0_alike 1 = some (.istore 5) := by decide +kernel
theorem i_X0_alike_3 : ins MX0_alike 3 = some (.iload 5) := by decide +kernel
theorem i_X0_alike_5 : ins MX0_alike 5 = some (.iload 4) := by decide +kernel
theorem i_X0_alike_7 : ins MX0_alike 7 = some (.if_icmp .ge 36) := by decide +kernel
theorem i_X0_alike_10 : ins MX0_alike 10 = some (.iload_n 3) := by decide +kernel
theorem i_X0_alike_11 : ins MX0_alike 11 = some (.iload 5) := by decide +kernel
theorem i_X0_alike_13 : ins MX0_alike 13 = some (.invokestatic 15) := by decide +kernel
theorem i_X0_alike_16 : ins MX0_alike 16 = some (.istore 6) := by decide +kernel
theorem i_X0_alike_18 : ins MX0_alike 18 = some (.aload_n 0) := by decide +kernel
theorem i_X0_alike_19 : ins MX0_alike 19 = some (.iload_n 1) := by decide +kernel
theorem i_X0_alike_20 : ins MX0_alike 20 = some (.iload 6) := by decide +kernel
theorem i_X0_alike_22 : ins MX0_alike 22 = some (.invokevirtual 53) := by decide +kernel
theorem i_X0_alike_25 : ins MX0_alike 25 = some (.aload_n 0) := by decide +kernel
theorem i_X0_alike_26 : ins MX0_alike 26 = some (.iload_n 2) := by decide +kernel
theorem i_X0_alike_27 : ins MX0_alike 27 = some (.iload 6) := by decide +kernel
theorem i_X0_alike_29 : ins MX0_alike 29 = some (.invokevirtual 53) := by decide +kernel
theorem i_X0_alike_32 : ins MX0_alike 32 = some (.if_icmp .eq 5) := by decide +kernel
theorem i_X0_alike_35 : ins MX0_alike 35 = some (.iconst 0) := by decide +kernel
theorem i_X0_alike_36 : ins MX0_alike 36 = some (.ireturn) := by decide +kernel
theorem i_X0_alike_37 : ins MX0_alike 37 = some (.iinc 5 1) := by decide +kernel
theorem i_X0_alike_40 : ins MX0_alike 40 = some (.goto (-37)) := by decide +kernel
theorem i_X0_alike_43 : ins MX0_alike 43 = some (.iconst 1) := by decide +kernel
theorem i_X0_alike_44 : ins MX0_alike 44 = some (.ireturn) := by decide +kernel
theorem i_X0_sortRun_0 : ins MX0_sortRun 0 = some (.iload_n 2) := by decide +kernel
theorem i_X0_sortRun_1 : ins MX0_sortRun 1 = some (.iconst 1) := by decide +kernel
theorem i_X0_sortRun_2 : ins MX0_sortRun 2 = some (.iadd) := by decide +kernel
theorem i_X0_sortRun_3 : ins MX0_sortRun 3 = some (.istore 6) := by decide +kernel
theorem i_X0_sortRun_5 : ins MX0_sortRun 5 = some (.iload 6) := by decide +kernel
theorem i_X0_sortRun_7 : ins MX0_sortRun 7 = some (.iload_n 3) := by decide +kernel
theorem i_X0_sortRun_8 : ins MX0_sortRun 8 = some (.if_icmp .ge 94) := by decide +kernel
theorem i_X0_sortRun_11 : ins MX0_sortRun 11 = some (.aload_n 0) := by decide +kernel
theorem i_X0_sortRun_12 : ins MX0_sortRun 12 = some (.getfield 9) := by decide +kernel
theorem i_X0_sortRun_15 : ins MX0_sortRun 15 = some (.iload 6) := by decide +kernel
theorem i_X0_sortRun_17 : ins MX0_sortRun 17 = some (.iaload) := by decide +kernel
theorem i_X0_sortRun_18 : ins MX0_sortRun 18 = some (.istore 7) := by decide +kernel
theorem i_X0_sortRun_20 : ins MX0_sortRun 20 = some (.aload_n 1) := by decide +kernel
theorem i_X0_sortRun_21 : ins MX0_sortRun 21 = some (.iload 7) := by decide +kernel
theorem i_X0_sortRun_23 : ins MX0_sortRun 23 = some (.iload 4) := by decide +kernel
theorem i_X0_sortRun_25 : ins MX0_sortRun 25 = some (.invokevirtual 53) := by decide +kernel
theorem i_X0_sortRun_28 : ins MX0_sortRun 28 = some (.istore 8) := by decide +kernel
theorem i_X0_sortRun_30 : ins MX0_sortRun 30 = some (.iload 6) := by decide +kernel
theorem i_X0_sortRun_32 : ins MX0_sortRun 32 = some (.istore 9) := by decide +kernel
theorem i_X0_sortRun_34 : ins MX0_sortRun 34 = some (.iload 9) := by decide +kernel
theorem i_X0_sortRun_36 : ins MX0_sortRun 36 = some (.iload_n 2) := by decide +kernel
theorem i_X0_sortRun_37 : ins MX0_sortRun 37 = some (.if_icmp .le 50) := by decide +kernel
theorem i_X0_sortRun_40 : ins MX0_sortRun 40 = some (.aload_n 1) := by decide +kernel
theorem i_X0_sortRun_41 : ins MX0_sortRun 41 = some (.aload_n 0) := by decide +kernel
theorem i_X0_sortRun_42 : ins MX0_sortRun 42 = some (.getfield 9) := by decide +kernel
theorem i_X0_sortRun_45 : ins MX0_sortRun 45 = some (.iload 9) := by decide +kernel
theorem i_X0_sortRun_47 : ins MX0_sortRun 47 = some (.iconst 1) := by decide +kernel
theorem i_X0_sortRun_48 : ins MX0_sortRun 48 = some (.isub) := by decide +kernel
theorem i_X0_sortRun_49 : ins MX0_sortRun 49 = some (.iaload) := by decide +kernel
theorem i_X0_sortRun_50 : ins MX0_sortRun 50 = some (.iload 4) := by decide +kernel
theorem i_X0_sortRun_52 : ins MX0_sortRun 52 = some (.invokevirtual 53) := by decide +kernel
theorem i_X0_sortRun_55 : ins MX0_sortRun 55 = some (.iload 8) := by decide +kernel
theorem i_X0_sortRun_57 : ins MX0_sortRun 57 = some (.iload 5) := by decide +kernel
theorem i_X0_sortRun_59 : ins MX0_sortRun 59 = some (.invokestatic 56) := by decide +kernel
theorem i_X0_sortRun_62 : ins MX0_sortRun 62 = some (.ifCond .eq 25) := by decide +kernel
theorem i_X0_sortRun_65 : ins MX0_sortRun 65 = some (.aload_n 0) := by decide +kernel
theorem i_X0_sortRun_66 : ins MX0_sortRun 66 = some (.getfield 9) := by decide +kernel
theorem i_X0_sortRun_69 : ins MX0_sortRun 69 = some (.iload 9) := by decide +kernel
theorem i_X0_sortRun_71 : ins MX0_sortRun 71 = some (.aload_n 0) := by decide +kernel
theorem i_X0_sortRun_72 : ins MX0_sortRun 72 = some (.getfield 9) := by decide +kernel
theorem i_X0_sortRun_75 : ins MX0_sortRun 75 = some (.iload 9) := by decide +kernel
theorem i_X0_sortRun_77 : ins MX0_sortRun 77 = some (.iconst 1) := by decide +kernel
theorem i_X0_sortRun_78 : ins MX0_sortRun 78 = some (.isub) := by decide +kernel
theorem i_X0_sortRun_79 : ins MX0_sortRun 79 = some (.iaload) := by decide +kernel
theorem i_X0_sortRun_80 : ins MX0_sortRun 80 = some (.iastore) := by decide +kernel
theorem i_X0_sortRun_81 : ins MX0_sortRun 81 = some (.iinc 9 (-1)) := by decide +kernel
theorem i_X0_sortRun_84 : ins MX0_sortRun 84 = some (.goto (-50)) := by decide +kernel
theorem i_X0_sortRun_87 : ins MX0_sortRun 87 = some (.aload_n 0) := by decide +kernel
theorem i_X0_sortRun_88 : ins MX0_sortRun 88 = some (.getfield 9) := by decide +kernel
theorem i_X0_sortRun_91 : ins MX0_sortRun 91 = some (.iload 9) := by decide +kernel
theorem i_X0_sortRun_93 : ins MX0_sortRun 93 = some (.iload 7) := by decide +kernel
theorem i_X0_sortRun_95 : ins MX0_sortRun 95 = some (.iastore) := by decide +kernel
theorem i_X0_sortRun_96 : ins MX0_sortRun 96 = some (.iinc 6 1) := by decide +kernel
theorem i_X0_sortRun_99 : ins MX0_sortRun 99 = some (.goto (-94)) := by decide +kernel
theorem i_X0_sortRun_102 : ins MX0_sortRun 102 = some (.return_) := by decide +kernel
theorem i_X0_isBehind_0 : ins MX0_isBehind 0 = some (.iload_n 2) := by decide +kernel
theorem i_X0_isBehind_1 : ins MX0_isBehind 1 = some (.ifCond .eq 16) := by decide +kernel
theorem i_X0_isBehind_4 : ins MX0_isBehind 4 = some (.iload_n 0) := by decide +kernel
theorem i_X0_isBehind_5 : ins MX0_isBehind 5 = some (.iload_n 1) := by decide +kernel
theorem i_X0_isBehind_6 : ins MX0_isBehind 6 = some (.if_icmp .ge 7) := by decide +kernel
theorem i_X0_isBehind_9 : ins MX0_isBehind 9 = some (.iconst 1) := by decide +kernel
theorem i_X0_isBehind_10 : ins MX0_isBehind 10 = some (.goto 17) := by decide +kernel
theorem i_X0_isBehind_13 : ins MX0_isBehind 13 = some (.iconst 0) := by decide +kernel
theorem i_X0_isBehind_14 : ins MX0_isBehind 14 = some (.goto 13) := by decide +kernel
theorem i_X0_isBehind_17 : ins MX0_isBehind 17 = some (.iload_n 0) := by decide +kernel
theorem i_X0_isBehind_18 : ins MX0_isBehind 18 = some (.iload_n 1) := by decide +kernel
theorem i_X0_isBehind_19 : ins MX0_isBehind 19 = some (.if_icmp .le 7) := by decide +kernel
theorem i_X0_isBehind_22 : ins MX0_isBehind 22 = some (.iconst 1) := by decide +kernel
theorem i_X0_isBehind_23 : ins MX0_isBehind 23 = some (.goto 4) := by decide +kernel
theorem i_X0_isBehind_26 : ins MX0_isBehind 26 = some (.iconst 0) := by decide +kernel
theorem i_X0_isBehind_27 : ins MX0_isBehind 27 = some (.ireturn) := by decide +kernel
theorem i_X1_init_0 : ins MX1_init 0 = some (.aload_n 0) := by decide +kernel
theorem i_X1_init_1 : ins MX1_init 1 = some (.invokespecial 3) := by decide +kernel
theorem i_X1_init_4 : ins MX1_init 4 = some (.aload_n 0) := by decide +kernel
theorem i_X1_init_5 : ins MX1_init 5 = some (.iconst 5) := by decide +kernel
theorem i_X1_init_6 : ins MX1_init 6 = some (.newarray .int) := by decide +kernel
theorem i_X1_init_8 : ins MX1_init 8 = some (.putfield 9) := by decide +kernel
theorem i_X1_init_11 : ins MX1_init 11 = some (.aload_n 0) := by decide +kernel
theorem i_X1_init_12 : ins MX1_init 12 = some (.iconst 5) := by decide +kernel
theorem i_X1_init_13 : ins MX1_init 13 = some (.newarray .int) := by decide +kernel
theorem i_X1_init_15 : ins MX1_init 15 = some (.putfield 15) := by decide +kernel
theorem i_X1_init_18 : ins MX1_init 18 = some (.aload_n 0) := by decide +kernel
theorem i_X1_init_19 : ins MX1_init 19 = some (.iconst 5) := by decide +kernel
theorem i_X1_init_20 : ins MX1_init 20 = some (.newarray .int) := by decide +kernel
theorem i_X1_init_22 : ins MX1_init 22 = some (.putfield 18) := by decide +kernel
theorem i_X1_init_25 : ins MX1_init 25 = some (.aload_n 0) := by decide +kernel
theorem i_X1_init_26 : ins MX1_init 26 = some (.iconst 5) := by decide +kernel
theorem i_X1_init_27 : ins MX1_init 27 = some (.newarray .int) := by decide +kernel
theorem i_X1_init_29 : ins MX1_init 29 = some (.putfield 21) := by decide +kernel
theorem i_X1_init_32 : ins MX1_init 32 = some (.aload_n 0) := by decide +kernel
theorem i_X1_init_33 : ins MX1_init 33 = some (.bipush 32) := by decide +kernel
theorem i_X1_init_35 : ins MX1_init 35 = some (.newarray .long) := by decide +kernel
theorem i_X1_init_37 : ins MX1_init 37 = some (.putfield 24) := by decide +kernel
theorem i_X1_init_40 : ins MX1_init 40 = some (.aload_n 0) := by decide +kernel
theorem i_X1_init_41 : ins MX1_init 41 = some (.bipush 16) := by decide +kernel
theorem i_X1_init_43 : ins MX1_init 43 = some (.invokevirtual 28) := by decide +kernel
theorem i_X1_init_46 : ins MX1_init 46 = some (.return_) := by decide +kernel
theorem i_X1_resize_0 : ins MX1_resize 0 = some (.aload_n 0) := by decide +kernel
theorem i_X1_resize_1 : ins MX1_resize 1 = some (.iload_n 1) := by decide +kernel
theorem i_X1_resize_2 : ins MX1_resize 2 = some (.putfield 32) := by decide +kernel
theorem i_X1_resize_5 : ins MX1_resize 5 = some (.aload_n 0) := by decide +kernel
theorem i_X1_resize_6 : ins MX1_resize 6 = some (.iconst 0) := by decide +kernel
theorem i_X1_resize_7 : ins MX1_resize 7 = some (.putfield 36) := by decide +kernel
theorem i_X1_resize_10 : ins MX1_resize 10 = some (.aload_n 0) := by decide +kernel
theorem i_X1_resize_11 : ins MX1_resize 11 = some (.iconst 1) := by decide +kernel
theorem i_X1_resize_12 : ins MX1_resize 12 = some (.putfield 39) := by decide +kernel
theorem i_X1_resize_15 : ins MX1_resize 15 = some (.aload_n 0) := by decide +kernel
theorem i_X1_resize_16 : ins MX1_resize 16 = some (.getfield 9) := by decide +kernel
theorem i_X1_resize_19 : ins MX1_resize 19 = some (.iconst 0) := by decide +kernel
theorem i_X1_resize_20 : ins MX1_resize 20 = some (.iload_n 1) := by decide +kernel
theorem i_X1_resize_21 : ins MX1_resize 21 = some (.iastore) := by decide +kernel
theorem i_X1_resize_22 : ins MX1_resize 22 = some (.aload_n 0) := by decide +kernel
theorem i_X1_resize_23 : ins MX1_resize 23 = some (.invokevirtual 42) := by decide +kernel
theorem i_X1_resize_26 : ins MX1_resize 26 = some (.return_) := by decide +kernel
theorem i_X1_has_0 : ins MX1_has 0 = some (.iload_n 1) := by decide +kernel
theorem i_X1_has_1 : ins MX1_has 1 = some (.ifCond .lt 15) := by decide +kernel
theorem i_X1_has_4 : ins MX1_has 4 = some (.iload_n 1) := by decide +kernel
theorem i_X1_has_5 : ins MX1_has 5 = some (.aload_n 0) := by decide +kernel
theorem i_X1_has_6 : ins MX1_has 6 = some (.getfield 32) := by decide +kernel
theorem i_X1_has_9 : ins MX1_has 9 = some (.if_icmp .ge 7) := by decide +kernel
theorem i_X1_has_12 : ins MX1_has 12 = some (.iconst 1) := by decide +kernel
theorem i_X1_has_13 : ins MX1_has 13 = some (.goto 4) := by decide +kernel
theorem i_X1_has_16 : ins MX1_has 16 = some (.iconst 0) := by decide +kernel
theorem i_X1_has_17 : ins MX1_has 17 = some (.ireturn) := by decide +kernel
theorem i_X1_numberFrom_0 : ins MX1_numberFrom 0 = some (.iload_n 1) := by decide +kernel
theorem i_X1_numberFrom_1 : ins MX1_numberFrom 1 = some (.aload_n 0) := by decide +kernel
theorem i_X1_numberFrom_2 : ins MX1_numberFrom 2 = some (.getfield 32) := by decide +kernel
theorem i_X1_numberFrom_5 : ins MX1_numberFrom 5 = some (.iconst 2) := by decide +kernel
theorem i_X1_numberFrom_6 : ins MX1_numberFrom 6 = some (.invokestatic 45) := by decide +kernel
theorem i_X1_numberFrom_9 : ins MX1_numberFrom 9 = some (.irem) := by decide +kernel
theorem i_X1_numberFrom_10 : ins MX1_numberFrom 10 = some (.ireturn) := by decide +kernel
theorem i_X1_isTorn_0 : ins MX1_isTorn 0 = some (.aload_n 0) := by decide +kernel
theorem i_X1_isTorn_1 : ins MX1_isTorn 1 = some (.getfield 51) := by decide +kernel
theorem i_X1_isTorn_4 : ins MX1_isTorn 4 = some (.iload_n 1) := by decide +kernel
theorem i_X1_isTorn_5 : ins MX1_isTorn 5 = some (.lushr) := by decide +kernel
theorem i_X1_isTorn_6 : ins MX1_isTorn 6 = some (.lconst 1) := by decide +kernel
theorem i_X1_isTorn_7 : ins MX1_isTorn 7 = some (.land) := by decide +kernel
theorem i_X1_isTorn_8 : ins MX1_isTorn 8 = some (.lconst 0) := by decide +kernel
theorem i_X1_isTorn_9 : ins MX1_isTorn 9 = some (.lcmp) := by decide +kernel
theorem i_X1_isTorn_10 : ins MX1_isTorn 10 = some (.ifCond .eq 7) := by decide +kernel
theorem i_X1_isTorn_13 : ins MX1_isTorn 13 = some (.iconst 1) := by decide +kernel
theorem i_X1_isTorn_14 : ins MX1_isTorn 14 = some (.goto 4) := by decide +kernel
theorem i_X1_isTorn_17 : ins MX1_isTorn 17 = some (.iconst 0) := by decide +kernel
theorem i_X1_isTorn_18 : ins MX1_isTorn 18 = some (.ireturn) := by decide +kernel
theorem i_X1_slicesOf_0 : ins MX1_slicesOf 0 = some (.aload_n 0) := by decide +kernel
theorem i_X1_slicesOf_1 : ins MX1_slicesOf 1 = some (.iload_n 1) := by decide +kernel
theorem i_X1_slicesOf_2 : ins MX1_slicesOf 2 = some (.invokevirtual 55) := by decide +kernel
theorem i_X1_slicesOf_5 : ins MX1_slicesOf 5 = some (.ifCond .eq 12) := by decide +kernel
theorem i_X1_slicesOf_8 : ins MX1_slicesOf 8 = some (.aload_n 0) := by decide +kernel
theorem i_X1_slicesOf_9 : ins MX1_slicesOf 9 = some (.getfield 24) := by decide +kernel
theorem i_X1_slicesOf_12 : ins MX1_slicesOf 12 = some (.iload_n 1) := by decide +kernel
theorem i_X1_slicesOf_13 : ins MX1_slicesOf 13 = some (.laload) := by decide +kernel
theorem i_X1_slicesOf_14 : ins MX1_slicesOf 14 = some (.goto 4) := by decide +kernel
theorem i_X1_slicesOf_17 : ins MX1_slicesOf 17 = some (.lconst 0) := by decide +kernel
theorem i_X1_slicesOf_18 : ins MX1_slicesOf 18 = some (.lreturn) := by decide +kernel
theorem i_X1_redesign_0 : ins MX1_redesign 0 = some (.aload_n 0) := by decide +kernel
theorem i_X1_redesign_1 : ins MX1_redesign 1 = some (.lload_n 2) := by decide +kernel
theorem i_X1_redesign_2 : ins MX1_redesign 2 = some (.invokevirtual 59) := by decide +kernel
theorem i_X1_redesign_5 : ins MX1_redesign 5 = some (.istore 4) := by decide +kernel
theorem i_X1_redesign_7 : ins MX1_redesign 7 = some (.iload 4) := by decide +kernel
theorem i_X1_redesign_9 : ins MX1_redesign 9 = some (.iconst (-1)) := by decide +kernel
theorem i_X1_redesign_10 : ins MX1_redesign 10 = some (.if_icmp .eq 17) := by decide +kernel
theorem i_X1_redesign_13 : ins MX1_redesign 13 = some (.aload_n 0) := by decide +kernel
theorem i_X1_redesign_14 : ins MX1_redesign 14 = some (.aload_n 0) := by decide +kernel
theorem i_X1_redesign_15 : ins MX1_redesign 15 = some (.getfield 15) := by decide +kernel
theorem i_X1_redesign_18 : ins MX1_redesign 18 = some (.iload 4) := by decide +kernel
theorem i_X1_redesign_20 : ins MX1_redesign 20 = some (.iload_n 1) := by decide +kernel
theorem i_X1_redesign_21 : ins MX1_redesign 21 = some (.invokevirtual 63) := by decide +kernel
theorem i_X1_redesign_24 : ins MX1_redesign 24 = some (.ifCond .ne 5) := by decide +kernel
theorem i_X1_redesign_27 : ins MX1_redesign 27 = some (.iconst 0) := by decide +kernel
theorem i_X1_redesign_28 : ins MX1_redesign 28 = some (.ireturn) := by decide +kernel
theorem i_X1_redesign_29 : ins MX1_redesign 29 = some (.aload_n 0) := by decide +kernel
theorem i_X1_redesign_30 : ins MX1_redesign 30 = some (.iload_n 1) := by decide +kernel
theorem i_X1_redesign_31 : ins MX1_redesign 31 = some (.putfield 36) := by decide +kernel
theorem i_X1_redesign_34 : ins MX1_redesign 34 = some (.aload_n 0) := by decide +kernel
theorem i_X1_redesign_35 : ins MX1_redesign 35 = some (.iload 4) := by decide +kernel
theorem i_X1_redesign_37 : ins MX1_redesign 37 = some (.putfield 39) := by decide +kernel
theorem i_X1_redesign_40 : ins MX1_redesign 40 = some (.iconst 0) := by decide +kernel
theorem i_X1_redesign_41 : ins MX1_redesign 41 = some (.istore 5) := by decide +kernel
theorem i_X1_redesign_43 : ins MX1_redesign 43 = some (.iload 5) := by decide +kernel
theorem i_X1_redesign_45 : ins MX1_redesign 45 = some (.iload 4) := by decide +kernel
theorem i_X1_redesign_47 : ins MX1_redesign 47 = some (.if_icmp .ge 23) := by decide +kernel
theorem i_X1_redesign_50 : ins MX1_redesign 50 = some (.aload_n 0) := by decide +kernel
theorem i_X1_redesign_51 : ins MX1_redesign 51 = some (.getfield 9) := by decide +kernel
theorem i_X1_redesign_54 : ins MX1_redesign 54 = some (.iload 5) := by decide +kernel
theorem i_X1_redesign_56 : ins MX1_redesign 56 = some (.aload_n 0) := by decide +kernel
theorem i_X1_redesign_57 : ins MX1_redesign 57 = some (.getfield 15) := by decide +kernel
theorem i_X1_redesign_60 : ins MX1_redesign 60 = some (.iload 5) := by decide +kernel
theorem i_X1_redesign_62 : ins MX1_redesign 62 = some (.iaload) := by decide +kernel
theorem i_X1_redesign_63 : ins MX1_redesign 63 = some (.iastore) := by decide +kernel
theorem i_X1_redesign_64 : ins MX1_redesign 64 = some (.iinc 5 1) := by decide +kernel
theorem i_X1_redesign_67 : ins MX1_redesign 67 = some (.goto (-24)) := by decide +kernel
theorem i_X1_redesign_70 : ins MX1_redesign 70 = some (.aload_n 0) := by decide +kernel
theorem i_X1_redesign_71 : ins MX1_redesign 71 = some (.invokevirtual 42) := by decide +kernel
theorem i_X1_redesign_74 : ins MX1_redesign 74 = some (.iconst 1) := by decide +kernel
theorem i_X1_redesign_75 : ins MX1_redesign 75 = some (.ireturn) := by decide +kernel
theorem i_X1_takeTold_0 : ins MX1_takeTold 0 = some (.lload_n 1) := by decide +kernel
theorem i_X1_takeTold_1 : ins MX1_takeTold 1 = some (.lconst 0) := by decide +kernel
theorem i_X1_takeTold_2 : ins MX1_takeTold 2 = some (.lcmp) := by decide +kernel
theorem i_X1_takeTold_3 : ins MX1_takeTold 3 = some (.ifCond .gt 5) := by decide +kernel
theorem i_X1_takeTold_6 : ins MX1_takeTold 6 = some (.iconst (-1)) := by decide +kernel
theorem i_X1_takeTold_7 : ins MX1_takeTold 7 = some (.ireturn) := by decide +kernel
theorem i_X1_takeTold_8 : ins MX1_takeTold 8 = some (.lload_n 1) := by decide +kernel
theorem i_X1_takeTold_9 : ins MX1_takeTold 9 = some (.lstore_n 3) := by decide +kernel
theorem i_X1_takeTold_10 : ins MX1_takeTold 10 = some (.iconst 0) := by decide +kernel
theorem i_X1_takeTold_11 : ins MX1_takeTold 11 = some (.istore 5) := by decide +kernel
theorem i_X1_takeTold_13 : ins MX1_takeTold 13 = some (.iconst 0) := by decide +kernel
theorem i_X1_takeTold_14 : ins MX1_takeTold 14 = some (.istore 6) := by decide +kernel
theorem i_X1_takeTold_16 : ins MX1_takeTold 16 = some (.iload 6) := by decide +kernel
theorem i_X1_takeTold_18 : ins MX1_takeTold 18 = some (.iconst 5) := by decide +kernel
theorem i_X1_takeTold_19 : ins MX1_takeTold 19 = some (.if_icmp .ge 59) := by decide +kernel
theorem i_X1_takeTold_22 : ins MX1_takeTold 22 = some (.lload_n 3) := by decide +kernel
theorem i_X1_takeTold_23 : ins MX1_takeTold 23 = some (.lconst 0) := by decide +kernel
theorem i_X1_takeTold_24 : ins MX1_takeTold 24 = some (.lcmp) := by decide +kernel
theorem i_X1_takeTold_25 : ins MX1_takeTold 25 = some (.ifCond .le 53) := by decide +kernel
theorem i_X1_takeTold_28 : ins MX1_takeTold 28 = some (.lload_n 3) := by decide +kernel
theorem i_X1_takeTold_29 : ins MX1_takeTold 29 = some (.ldc2_w 67) := by decide +kernel
theorem i_X1_takeTold_32 : ins MX1_takeTold 32 = some (.lrem) := by decide +kernel
theorem i_X1_takeTold_33 : ins MX1_takeTold 33 = some (.l2i) := by decide +kernel
theorem i_X1_takeTold_34 : ins MX1_takeTold 34 = some (.istore 7) := by decide +kernel
theorem i_X1_takeTold_36 : ins MX1_takeTold 36 = some (.iload 7) := by decide +kernel
theorem i_X1_takeTold_38 : ins MX1_takeTold 38 = some (.iconst 2) := by decide +kernel
theorem i_X1_takeTold_39 : ins MX1_takeTold 39 = some (.if_icmp .lt 10) := by decide +kernel
theorem i_X1_takeTold_42 : ins MX1_takeTold 42 = some (.iload 7) := by decide +kernel
theorem i_X1_takeTold_44 : ins MX1_takeTold 44 = some (.bipush 32) := by decide +kernel
theorem i_X1_takeTold_46 : ins MX1_takeTold 46 = some (.if_icmp .le 5) := by decide +kernel
theorem i_X1_takeTold_49 : ins MX1_takeTold 49 = some (.iconst (-1)) := by decide +kernel
theorem i_X1_takeTold_50 : ins MX1_takeTold 50 = some (.ireturn) := by decide +kernel
theorem i_X1_takeTold_51 : ins MX1_takeTold 51 = some (.aload_n 0) := by decide +kernel
theorem i_X1_takeTold_52 : ins MX1_takeTold 52 = some (.getfield 15) := by decide +kernel
theorem i_X1_takeTold_55 : ins MX1_takeTold 55 = some (.iload 6) := by decide +kernel
theorem i_X1_takeTold_57 : ins MX1_takeTold 57 = some (.iload 7) := by decide +kernel
theorem i_X1_takeTold_59 : ins MX1_takeTold 59 = some (.iastore) := by decide +kernel
theorem i_X1_takeTold_60 : ins MX1_takeTold 60 = some (.lload_n 3) := by decide +kernel
theorem i_X1_takeTold_61 : ins MX1_takeTold 61 = some (.ldc2_w 67) := by decide +kernel
theorem i_X1_takeTold_64 : ins MX1_takeTold 64 = some (.ldiv) := by decide +kernel
theorem i_X1_takeTold_65 : ins MX1_takeTold 65 = some (.lstore_n 3) := by decide +kernel
theorem i_X1_takeTold_66 : ins MX1_takeTold 66 = some (.iload 6) := by decide +kernel
theorem i_X1_takeTold_68 : ins MX1_takeTold 68 = some (.iconst 1) := by decide +kernel
theorem i_X1_takeTold_69 : ins MX1_takeTold 69 = some (.iadd) := by decide +kernel
theorem i_X1_takeTold_70 : ins MX1_takeTold 70 = some (.istore 5) := by decide +kernel
theorem i_X1_takeTold_72 : ins MX1_takeTold 72 = some (.iinc 6 1) := by decide +kernel
theorem i_X1_takeTold_75 : ins MX1_takeTold 75 = some (.goto (-59)) := by decide +kernel
theorem i_X1_takeTold_78 : ins MX1_takeTold 78 = some (.lload_n 3) := by decide +kernel
theorem i_X1_takeTold_79 : ins MX1_takeTold 79 = some (.lconst 0) := by decide +kernel
theorem i_X1_takeTold_80 : ins MX1_takeTold 80 = some (.lcmp) := by decide +kernel
theorem i_X1_takeTold_81 : ins MX1_takeTold 81 = some (.ifCond .ne 8) := by decide +kernel
theorem i_X1_takeTold_84 : ins MX1_takeTold 84 = some (.iload 5) := by decide +kernel
theorem i_X1_takeTold_86 : ins MX1_takeTold 86 = some (.goto 4) := by decide +kernel
theorem i_X1_takeTold_89 : ins MX1_takeTold 89 = some (.iconst (-1)) := by decide +kernel
theorem i_X1_takeTold_90 : ins MX1_takeTold 90 = some (.ireturn) := by decide +kernel
theorem i_X1_isDesign_0 : ins MX1_isDesign 0 = some (.iconst 0) := by decide +kernel
theorem i_X1_isDesign_1 : ins MX1_isDesign 1 = some (.istore 4) := by decide +kernel
theorem i_X1_isDesign_3 : ins MX1_isDesign 3 = some (.iconst 0) := by decide +kernel
theorem i_X1_isDesign_4 : ins MX1_isDesign 4 = some (.istore 5) := by decide +kernel
theorem i_X1_isDesign_6 : ins MX1_isDesign 6 = some (.iload 5) := by decide +kernel
theorem i_X1_isDesign_8 : ins MX1_isDesign 8 = some (.iload_n 2) := by decide +kernel
theorem i_X1_isDesign_9 : ins MX1_isDesign 9 = some (.if_icmp .ge 22) := by decide +kernel
theorem i_X1_isDesign_12 : ins MX1_isDesign 12 = some (.iload 4) := by decide +kernel
theorem i_X1_isDesign_14 : ins MX1_isDesign 14 = some (.iload_n 3) := by decide +kernel
theorem i_X1_isDesign_15 : ins MX1_isDesign 15 = some (.aload_n 1) := by decide +kernel
theorem i_X1_isDesign_16 : ins MX1_isDesign 16 = some (.iload 5) := by decide +kernel
theorem i_X1_isDesign_18 : ins MX1_isDesign 18 = some (.iaload) := by decide +kernel
theorem i_X1_isDesign_19 : ins MX1_isDesign 19 = some (.invokestatic 69) := by decide +kernel
theorem i_X1_isDesign_22 : ins MX1_isDesign 22 = some (.iadd) := by decide +kernel
theorem i_X1_isDesign_23 : ins MX1_isDesign 23 = some (.istore 4) := by decide +kernel
theorem i_X1_isDesign_25 : ins MX1_isDesign 25 = some (.iinc 5 1) := by decide +kernel
theorem i_X1_isDesign_28 : ins MX1_isDesign 28 = some (.goto (-22)) := by decide +kernel
theorem i_X1_isDesign_31 : ins MX1_isDesign 31 = some (.iload 4) := by decide +kernel
theorem i_X1_isDesign_33 : ins MX1_isDesign 33 = some (.bipush 64) := by decide +kernel
theorem i_X1_isDesign_35 : ins MX1_isDesign 35 = some (.if_icmp .gt 19) := by decide +kernel
theorem i_X1_isDesign_38 : ins MX1_isDesign 38 = some (.aload_n 1) := by decide +kernel
theorem i_X1_isDesign_39 : ins MX1_isDesign 39 = some (.iload_n 2) := by decide +kernel
theorem i_X1_isDesign_40 : ins MX1_isDesign 40 = some (.aload_n 0) := by decide +kernel
theorem i_X1_isDesign_41 : ins MX1_isDesign 41 = some (.getfield 32) := by decide +kernel
theorem i_X1_isDesign_44 : ins MX1_isDesign 44 = some (.invokestatic 74) := by decide +kernel
theorem i_X1_isDesign_47 : ins MX1_isDesign 47 = some (.ifCond .eq 7) := by decide +kernel
theorem i_X1_isDesign_50 : ins MX1_isDesign 50 = some (.iconst 1) := by decide +kernel
theorem i_X1_isDesign_51 : ins MX1_isDesign 51 = some (.goto 4) := by decide +kernel
theorem i_X1_isDesign_54 : ins MX1_isDesign 54 = some (.iconst 0) := by decide +kernel
theorem i_X1_isDesign_55 : ins MX1_isDesign 55 = some (.ireturn) := by decide +kernel
theorem i_X1_settle_0 : ins MX1_settle 0 = some (.aload_n 0) := by decide +kernel
theorem i_X1_settle_1 : ins MX1_settle 1 = some (.lconst 0) := by decide +kernel
theorem i_X1_settle_2 : ins MX1_settle 2 = some (.putfield 51) := by decide +kernel
theorem i_X1_settle_5 : ins MX1_settle 5 = some (.aload_n 0) := by decide +kernel
theorem i_X1_settle_6 : ins MX1_settle 6 = some (.iconst 0) := by decide +kernel
theorem i_X1_settle_7 : ins MX1_settle 7 = some (.putfield 77) := by decide +kernel
theorem i_X1_settle_10 : ins MX1_settle 10 = some (.iconst 1) := by decide +kernel
theorem i_X1_settle_11 : ins MX1_settle 11 = some (.istore_n 1) := by decide +kernel
theorem i_X1_settle_12 : ins MX1_settle 12 = some (.iconst 0) := by decide +kernel
theorem i_X1_settle_13 : ins MX1_settle 13 = some (.istore_n 2) := by decide +kernel
theorem i_X1_settle_14 : ins MX1_settle 14 = some (.iload_n 2) := by decide +kernel
theorem i_X1_settle_15 : ins MX1_settle 15 = some (.aload_n 0) := by decide +kernel
theorem i_X1_settle_16 : ins MX1_settle 16 = some (.getfield 39) := by decide +kernel
theorem i_X1_settle_19 : ins MX1_settle 19 = some (.if_icmp .ge 57) := by decide +kernel
theorem i_X1_settle_22 : ins MX1_settle 22 = some (.aload_n 0) := by decide +kernel
theorem i_X1_settle_23 : ins MX1_settle 23 = some (.getfield 18) := by decide +kernel
theorem i_X1_settle_26 : ins MX1_settle 26 = some (.iload_n 2) := by decide +kernel
theorem i_X1_settle_27 : ins MX1_settle 27 = some (.iload_n 1) := by decide +kernel
theorem i_X1_settle_28 : ins MX1_settle 28 = some (.iastore) := by decide +kernel
theorem i_X1_settle_29 : ins MX1_settle 29 = some (.aload_n 0) := by decide +kernel
theorem i_X1_settle_30 : ins MX1_settle 30 = some (.getfield 21) := by decide +kernel
theorem i_X1_settle_33 : ins MX1_settle 33 = some (.iload_n 2) := by decide +kernel
theorem i_X1_settle_34 : ins MX1_settle 34 = some (.aload_n 0) := by decide +kernel
theorem i_X1_settle_35 : ins MX1_settle 35 = some (.getfield 77) := by decide +kernel
theorem i_X1_settle_38 : ins MX1_settle 38 = some (.iastore) := by decide +kernel
theorem i_X1_settle_39 : ins MX1_settle 39 = some (.iload_n 1) := by decide +kernel
theorem i_X1_settle_40 : ins MX1_settle 40 = some (.aload_n 0) := by decide +kernel
theorem i_X1_settle_41 : ins MX1_settle 41 = some (.getfield 9) := by decide +kernel
theorem i_X1_settle_44 : ins MX1_settle 44 = some (.iload_n 2) := by decide +kernel
theorem i_X1_settle_45 : ins MX1_settle 45 = some (.iaload) := by decide +kernel
theorem i_X1_settle_46 : ins MX1_settle 46 = some (.imul) := by decide +kernel
theorem i_X1_settle_47 : ins MX1_settle 47 = some (.istore_n 1) := by decide +kernel
theorem i_X1_settle_48 : ins MX1_settle 48 = some (.aload_n 0) := by decide +kernel
theorem i_X1_settle_49 : ins MX1_settle 49 = some (.dup) := by decide +kernel
theorem i_X1_settle_50 : ins MX1_settle 50 = some (.getfield 77) := by decide +kernel
theorem i_X1_settle_53 : ins MX1_settle 53 = some (.aload_n 0) := by decide +kernel
theorem i_X1_settle_54 : ins MX1_settle 54 = some (.getfield 36) := by decide +kernel
theorem i_X1_settle_57 : ins MX1_settle 57 = some (.aload_n 0) := by decide +kernel
theorem i_X1_settle_58 : ins MX1_settle 58 = some (.getfield 9) := by decide +kernel
theorem i_X1_settle_61 : ins MX1_settle 61 = some (.iload_n 2) := by decide +kernel
theorem i_X1_settle_62 : ins MX1_settle 62 = some (.iaload) := by decide +kernel
theorem i_X1_settle_63 : ins MX1_settle 63 = some (.invokestatic 69) := by decide +kernel
theorem i_X1_settle_66 : ins MX1_settle 66 = some (.iadd) := by decide +kernel
theorem i_X1_settle_67 : ins MX1_settle 67 = some (.putfield 77) := by decide +kernel
theorem i_X1_settle_70 : ins MX1_settle 70 = some (.iinc 2 1) := by decide +kernel
theorem i_X1_settle_73 : ins MX1_settle 73 = some (.goto (-59)) := by decide +kernel
theorem i_X1_settle_76 : ins MX1_settle 76 = some (.iconst 0) := by decide +kernel
theorem i_X1_settle_77 : ins MX1_settle 77 = some (.istore_n 2) := by decide +kernel
theorem i_X1_settle_78 : ins MX1_settle 78 = some (.iload_n 2) := by decide +kernel
theorem i_X1_settle_79 : ins MX1_settle 79 = some (.aload_n 0) := by decide +kernel
theorem i_X1_settle_80 : ins MX1_settle 80 = some (.getfield 32) := by decide +kernel
theorem i_X1_settle_83 : ins MX1_settle 83 = some (.if_icmp .ge 20) := by decide +kernel
theorem i_X1_settle_86 : ins MX1_settle 86 = some (.aload_n 0) := by decide +kernel
theorem i_X1_settle_87 : ins MX1_settle 87 = some (.getfield 24) := by decide +kernel
theorem i_X1_settle_90 : ins MX1_settle 90 = some (.iload_n 2) := by decide +kernel
theorem i_X1_settle_91 : ins MX1_settle 91 = some (.aload_n 0) := by decide +kernel
theorem i_X1_settle_92 : ins MX1_settle 92 = some (.iload_n 2) := by decide +kernel
theorem i_X1_settle_93 : ins MX1_settle 93 = some (.invokevirtual 80) := by decide +kernel
theorem i_X1_settle_96 : ins MX1_settle 96 = some (.lastore) := by decide +kernel
theorem i_X1_settle_97 : ins MX1_settle 97 = some (.iinc 2 1) := by decide +kernel
theorem i_X1_settle_100 : ins MX1_settle 100 = some (.goto (-22)) := by decide +kernel
theorem i_X1_settle_103 : ins MX1_settle 103 = some (.return_) := by decide +kernel
theorem i_X1_figureOf_0 : ins MX1_figureOf 0 = some (.iload_n 1) := by decide +kernel
theorem i_X1_figureOf_1 : ins MX1_figureOf 1 = some (.aload_n 0) := by decide +kernel
theorem i_X1_figureOf_2 : ins MX1_figureOf 2 = some (.getfield 18) := by decide +kernel
theorem i_X1_figureOf_5 : ins MX1_figureOf 5 = some (.iload_n 2) := by decide +kernel
theorem i_X1_figureOf_6 : ins MX1_figureOf 6 = some (.iaload) := by decide +kernel
theorem i_X1_figureOf_7 : ins MX1_figureOf 7 = some (.iconst 1) := by decide +kernel
theorem i_X1_figureOf_8 : ins MX1_figureOf 8 = some (.invokestatic 45) := by decide +kernel
theorem i_X1_figureOf_11 : ins MX1_figureOf 11 = some (.idiv) := by decide +kernel
theorem i_X1_figureOf_12 : ins MX1_figureOf 12 = some (.aload_n 0) := by decide +kernel
theorem i_X1_figureOf_13 : ins MX1_figureOf 13 = some (.getfield 9) := by decide +kernel
theorem i_X1_figureOf_16 : ins MX1_figureOf 16 = some (.iload_n 2) := by decide +kernel
theorem i_X1_figureOf_17 : ins MX1_figureOf 17 = some (.iaload) := by decide +kernel
theorem i_X1_figureOf_18 : ins MX1_figureOf 18 = some (.iconst 2) := by decide +kernel
theorem i_X1_figureOf_19 : ins MX1_figureOf 19 = some (.invokestatic 45) := by decide +kernel
theorem i_X1_figureOf_22 : ins MX1_figureOf 22 = some (.irem) := by decide +kernel
theorem i_X1_figureOf_23 : ins MX1_figureOf 23 = some (.ireturn) := by decide +kernel
theorem i_X1_slicesByFigures_0 : ins MX1_slicesByFigures 0 = some (.lconst 0) := by decide +kernel
theorem i_X1_slicesByFigures_1 : ins MX1_slicesByFigures 1 = some (.lstore_n 2) := by decide +kernel
theorem i_X1_slicesByFigures_2 : ins MX1_slicesByFigures 2 = some (.iconst 0) := by decide +kernel
theorem i_X1_slicesByFigures_3 : ins MX1_slicesByFigures 3 = some (.istore 4) := by decide +kernel
theorem i_X1_slicesByFigures_5 : ins MX1_slicesByFigures 5 = some (.iload 4) := by decide +kernel
theorem i_X1_slicesByFigures_7 : ins MX1_slicesByFigures 7 = some (.aload_n 0) := by decide +kernel
theorem i_X1_slicesByFigures_8 : ins MX1_slicesByFigures 8 = some (.getfield 39) := by decide +kernel
theorem i_X1_slicesByFigures_11 : ins MX1_slicesByFigures 11 = some (.if_icmp .ge 41) := by decide +kernel
theorem i_X1_slicesByFigures_14 : ins MX1_slicesByFigures 14 = some (.lload_n 2) := by decide +kernel
theorem i_X1_slicesByFigures_15 : ins MX1_slicesByFigures 15 = some (.aload_n 0) := by decide +kernel
theorem i_X1_slicesByFigures_16 : ins MX1_slicesByFigures 16 = some (.getfield 36) := by decide +kernel
theorem i_X1_slicesByFigures_19 : ins MX1_slicesByFigures 19 = some (.aload_n 0) := by decide +kernel
theorem i_X1_slicesByFigures_20 : ins MX1_slicesByFigures 20 = some (.getfield 9) := by decide +kernel
theorem i_X1_slicesByFigures_23 : ins MX1_slicesByFigures 23 = some (.iload 4) := by decide +kernel
theorem i_X1_slicesByFigures_25 : ins MX1_slicesByFigures 25 = some (.iaload) := by decide +kernel
theorem i_X1_slicesByFigures_26 : ins MX1_slicesByFigures 26 = some (.aload_n 0) := by decide +kernel
theorem i_X1_slicesByFigures_27 : ins MX1_slicesByFigures 27 = some (.iload_n 1) := by decide +kernel
theorem i_X1_slicesByFigures_28 : ins MX1_slicesByFigures 28 = some (.iload 4) := by decide +kernel
theorem i_X1_slicesByFigures_30 : ins MX1_slicesByFigures 30 = some (.invokevirtual 84) := by decide +kernel
theorem i_X1_slicesByFigures_33 : ins MX1_slicesByFigures 33 = some (.invokestatic 87) := by decide +kernel
theorem i_X1_slicesByFigures_36 : ins MX1_slicesByFigures 36 = some (.aload_n 0) := by decide +kernel
theorem i_X1_slicesByFigures_37 : ins MX1_slicesByFigures 37 = some (.getfield 21) := by decide +kernel
theorem i_X1_slicesByFigures_40 : ins MX1_slicesByFigures 40 = some (.iload 4) := by decide +kernel
theorem i_X1_slicesByFigures_42 : ins MX1_slicesByFigures 42 = some (.iaload) := by decide +kernel
theorem i_X1_slicesByFigures_43 : ins MX1_slicesByFigures 43 = some (.lshl) := by decide +kernel
theorem i_X1_slicesByFigures_44 : ins MX1_slicesByFigures 44 = some (.lor) := by decide +kernel
theorem i_X1_slicesByFigures_45 : ins MX1_slicesByFigures 45 = some (.lstore_n 2) := by decide +kernel
theorem i_X1_slicesByFigures_46 : ins MX1_slicesByFigures 46 = some (.iinc 4 1) := by decide +kernel
theorem i_X1_slicesByFigures_49 : ins MX1_slicesByFigures 49 = some (.goto (-44)) := by decide +kernel
theorem i_X1_slicesByFigures_52 : ins MX1_slicesByFigures 52 = some (.lload_n 2) := by decide +kernel
theorem i_X1_slicesByFigures_53 : ins MX1_slicesByFigures 53 = some (.lreturn) := by decide +kernel
theorem i_X1_readForEqual_0 : ins MX1_readForEqual 0 = some (.aload_n 0) := by decide +kernel
theorem i_X1_readForEqual_1 : ins MX1_readForEqual 1 = some (.iload_n 1) := by decide +kernel
theorem i_X1_readForEqual_2 : ins MX1_readForEqual 2 = some (.invokevirtual 55) := by decide +kernel
theorem i_X1_readForEqual_5 : ins MX1_readForEqual 5 = some (.ifCond .ne 5) := by decide +kernel
theorem i_X1_readForEqual_8 : ins MX1_readForEqual 8 = some (.lconst 0) := by decide +kernel
theorem i_X1_readForEqual_9 : ins MX1_readForEqual 9 = some (.lreturn) := by decide +kernel
theorem i_X1_readForEqual_10 : ins MX1_readForEqual 10 = some (.lconst 0) := by decide +kernel
theorem i_X1_readForEqual_11 : ins MX1_readForEqual 11 = some (.lstore_n 2) := by decide +kernel
theorem i_X1_readForEqual_12 : ins MX1_readForEqual 12 = some (.iconst 0) := by decide +kernel
theorem i_X1_readForEqual_13 : ins MX1_readForEqual 13 = some (.istore 4) := by decide +kernel
theorem i_X1_readForEqual_15 : ins MX1_readForEqual 15 = some (.iload 4) := by decide +kernel
theorem i_X1_readForEqual_17 : ins MX1_readForEqual 17 = some (.aload_n 0) := by decide +kernel
theorem i_X1_readForEqual_18 : ins MX1_readForEqual 18 = some (.getfield 39) := by decide +kernel
theorem i_X1_readForEqual_21 : ins MX1_readForEqual 21 = some (.if_icmp .ge 41) := by decide +kernel
theorem i_X1_readForEqual_24 : ins MX1_readForEqual 24 = some (.lload_n 2) := by decide +kernel
theorem i_X1_readForEqual_25 : ins MX1_readForEqual 25 = some (.aload_n 0) := by decide +kernel
theorem i_X1_readForEqual_26 : ins MX1_readForEqual 26 = some (.getfield 36) := by decide +kernel
theorem i_X1_readForEqual_29 : ins MX1_readForEqual 29 = some (.aload_n 0) := by decide +kernel
theorem i_X1_readForEqual_30 : ins MX1_readForEqual 30 = some (.getfield 9) := by decide +kernel
theorem i_X1_readForEqual_33 : ins MX1_readForEqual 33 = some (.iload 4) := by decide +kernel
theorem i_X1_readForEqual_35 : ins MX1_readForEqual 35 = some (.iaload) := by decide +kernel
theorem i_X1_readForEqual_36 : ins MX1_readForEqual 36 = some (.aload_n 0) := by decide +kernel
theorem i_X1_readForEqual_37 : ins MX1_readForEqual 37 = some (.iload_n 1) := by decide +kernel
theorem i_X1_readForEqual_38 : ins MX1_readForEqual 38 = some (.iload 4) := by decide +kernel
theorem i_X1_readForEqual_40 : ins MX1_readForEqual 40 = some (.invokevirtual 84) := by decide +kernel
theorem i_X1_readForEqual_43 : ins MX1_readForEqual 43 = some (.invokestatic 91) := by decide +kernel
theorem i_X1_readForEqual_46 : ins MX1_readForEqual 46 = some (.aload_n 0) := by decide +kernel
theorem i_X1_readForEqual_47 : ins MX1_readForEqual 47 = some (.getfield 21) := by decide +kernel
theorem i_X1_readForEqual_50 : ins MX1_readForEqual 50 = some (.iload 4) := by decide +kernel
theorem i_X1_readForEqual_52 : ins MX1_readForEqual 52 = some (.iaload) := by decide +kernel
theorem i_X1_readForEqual_53 : ins MX1_readForEqual 53 = some (.lshl) := by decide +kernel
theorem i_X1_readForEqual_54 : ins MX1_readForEqual 54 = some (.lor) := by decide +kernel
theorem i_X1_readForEqual_55 : ins MX1_readForEqual 55 = some (.lstore_n 2) := by decide +kernel
theorem i_X1_readForEqual_56 : ins MX1_readForEqual 56 = some (.iinc 4 1) := by decide +kernel
theorem i_X1_readForEqual_59 : ins MX1_readForEqual 59 = some (.goto (-44)) := by decide +kernel
theorem i_X1_readForEqual_62 : ins MX1_readForEqual 62 = some (.lload_n 2) := by decide +kernel
theorem i_X1_readForEqual_63 : ins MX1_readForEqual 63 = some (.lreturn) := by decide +kernel
theorem i_X1_readForBelow_0 : ins MX1_readForBelow 0 = some (.aload_n 0) := by decide +kernel
theorem i_X1_readForBelow_1 : ins MX1_readForBelow 1 = some (.iload_n 1) := by decide +kernel
theorem i_X1_readForBelow_2 : ins MX1_readForBelow 2 = some (.invokevirtual 55) := by decide +kernel
theorem i_X1_readForBelow_5 : ins MX1_readForBelow 5 = some (.ifCond .ne 5) := by decide +kernel
theorem i_X1_readForBelow_8 : ins MX1_readForBelow 8 = some (.lconst 0) := by decide +kernel
theorem i_X1_readForBelow_9 : ins MX1_readForBelow 9 = some (.lreturn) := by decide +kernel
theorem i_X1_readForBelow_10 : ins MX1_readForBelow 10 = some (.lconst 0) := by decide +kernel
theorem i_X1_readForBelow_11 : ins MX1_readForBelow 11 = some (.lstore_n 2) := by decide +kernel
theorem i_X1_readForBelow_12 : ins MX1_readForBelow 12 = some (.iconst 0) := by decide +kernel
theorem i_X1_readForBelow_13 : ins MX1_readForBelow 13 = some (.istore 4) := by decide +kernel
theorem i_X1_readForBelow_15 : ins MX1_readForBelow 15 = some (.iload 4) := by decide +kernel
theorem i_X1_readForBelow_17 : ins MX1_readForBelow 17 = some (.aload_n 0) := by decide +kernel
theorem i_X1_readForBelow_18 : ins MX1_readForBelow 18 = some (.getfield 39) := by decide +kernel
theorem i_X1_readForBelow_21 : ins MX1_readForBelow 21 = some (.if_icmp .ge 76) := by decide +kernel
theorem i_X1_readForBelow_24 : ins MX1_readForBelow 24 = some (.aload_n 0) := by decide +kernel
theorem i_X1_readForBelow_25 : ins MX1_readForBelow 25 = some (.iload_n 1) := by decide +kernel
theorem i_X1_readForBelow_26 : ins MX1_readForBelow 26 = some (.iload 4) := by decide +kernel
theorem i_X1_readForBelow_28 : ins MX1_readForBelow 28 = some (.invokevirtual 84) := by decide +kernel
theorem i_X1_readForBelow_31 : ins MX1_readForBelow 31 = some (.istore 5) := by decide +kernel
theorem i_X1_readForBelow_33 : ins MX1_readForBelow 33 = some (.aload_n 0) := by decide +kernel
theorem i_X1_readForBelow_34 : ins MX1_readForBelow 34 = some (.getfield 36) := by decide +kernel
theorem i_X1_readForBelow_37 : ins MX1_readForBelow 37 = some (.aload_n 0) := by decide +kernel
theorem i_X1_readForBelow_38 : ins MX1_readForBelow 38 = some (.getfield 9) := by decide +kernel
theorem i_X1_readForBelow_41 : ins MX1_readForBelow 41 = some (.iload 4) := by decide +kernel
theorem i_X1_readForBelow_43 : ins MX1_readForBelow 43 = some (.iaload) := by decide +kernel
theorem i_X1_readForBelow_44 : ins MX1_readForBelow 44 = some (.iload 5) := by decide +kernel
theorem i_X1_readForBelow_46 : ins MX1_readForBelow 46 = some (.invokestatic 94) := by decide +kernel
theorem i_X1_readForBelow_49 : ins MX1_readForBelow 49 = some (.lstore 6) := by decide +kernel
theorem i_X1_readForBelow_51 : ins MX1_readForBelow 51 = some (.lload_n 2) := by decide +kernel
theorem i_X1_readForBelow_52 : ins MX1_readForBelow 52 = some (.lconst 0) := by decide +kernel
theorem i_X1_readForBelow_53 : ins MX1_readForBelow 53 = some (.lcmp) := by decide +kernel
theorem i_X1_readForBelow_54 : ins MX1_readForBelow 54 = some (.ifCond .eq 24) := by decide +kernel
theorem i_X1_readForBelow_57 : ins MX1_readForBelow 57 = some (.lload 6) := by decide +kernel
theorem i_X1_readForBelow_59 : ins MX1_readForBelow 59 = some (.aload_n 0) := by decide +kernel
theorem i_X1_readForBelow_60 : ins MX1_readForBelow 60 = some (.getfield 36) := by decide +kernel
theorem i_X1_readForBelow_63 : ins MX1_readForBelow 63 = some (.aload_n 0) := by decide +kernel
theorem i_X1_readForBelow_64 : ins MX1_readForBelow 64 = some (.getfield 9) := by decide +kernel
theorem i_X1_readForBelow_67 : ins MX1_readForBelow 67 = some (.iload 4) := by decide +kernel
theorem i_X1_readForBelow_69 : ins MX1_readForBelow 69 = some (.iaload) := by decide +kernel
theorem i_X1_readForBelow_70 : ins MX1_readForBelow 70 = some (.iload 5) := by decide +kernel
theorem i_X1_readForBelow_72 : ins MX1_readForBelow 72 = some (.invokestatic 91) := by decide +kernel
theorem i_X1_readForBelow_75 : ins MX1_readForBelow 75 = some (.lor) := by decide +kernel
theorem i_X1_readForBelow_76 : ins MX1_readForBelow 76 = some (.lstore 6) := by decide +kernel
theorem i_X1_readForBelow_78 : ins MX1_readForBelow 78 = some (.lload_n 2) := by decide +kernel
theorem i_X1_readForBelow_79 : ins MX1_readForBelow 79 = some (.lload 6) := by decide +kernel
theorem i_X1_readForBelow_81 : ins MX1_readForBelow 81 = some (.aload_n 0) := by decide +kernel
theorem i_X1_readForBelow_82 : ins MX1_readForBelow 82 = some (.getfield 21) := by decide +kernel
theorem i_X1_readForBelow_85 : ins MX1_readForBelow 85 = some (.iload 4) := by decide +kernel
theorem i_X1_readForBelow_87 : ins MX1_readForBelow 87 = some (.iaload) := by decide +kernel
theorem i_X1_readForBelow_88 : ins MX1_readForBelow 88 = some (.lshl) := by decide +kernel
theorem i_X1_readForBelow_89 : ins MX1_readForBelow 89 = some (.lor) := by decide +kernel
theorem i_X1_readForBelow_90 : ins MX1_readForBelow 90 = some (.lstore_n 2) := by decide +kernel
theorem i_X1_readForBelow_91 : ins MX1_readForBelow 91 = some (.iinc 4 1) := by decide +kernel
theorem i_X1_readForBelow_94 : ins MX1_readForBelow 94 = some (.goto (-79)) := by decide +kernel
theorem i_X1_readForBelow_97 : ins MX1_readForBelow 97 = some (.lload_n 2) := by decide +kernel
theorem i_X1_readForBelow_98 : ins MX1_readForBelow 98 = some (.lreturn) := by decide +kernel
theorem i_X1_designCost_0 : ins MX1_designCost 0 = some (.iconst 0) := by decide +kernel
theorem i_X1_designCost_1 : ins MX1_designCost 1 = some (.istore_n 3) := by decide +kernel
theorem i_X1_designCost_2 : ins MX1_designCost 2 = some (.iconst 0) := by decide +kernel
theorem i_X1_designCost_3 : ins MX1_designCost 3 = some (.istore 4) := by decide +kernel
theorem i_X1_designCost_5 : ins MX1_designCost 5 = some (.iload 4) := by decide +kernel
theorem i_X1_designCost_7 : ins MX1_designCost 7 = some (.aload_n 0) := by decide +kernel
theorem i_X1_designCost_8 : ins MX1_designCost 8 = some (.getfield 39) := by decide +kernel
theorem i_X1_designCost_11 : ins MX1_designCost 11 = some (.if_icmp .ge 39) := by decide +kernel
theorem i_X1_designCost_14 : ins MX1_designCost 14 = some (.iload_n 3) := by decide +kernel
theorem i_X1_designCost_15 : ins MX1_designCost 15 = some (.aload_n 0) := by decide +kernel
theorem i_X1_designCost_16 : ins MX1_designCost 16 = some (.getfield 36) := by decide +kernel
theorem i_X1_designCost_19 : ins MX1_designCost 19 = some (.aload_n 0) := by decide +kernel
theorem i_X1_designCost_20 : ins MX1_designCost 20 = some (.getfield 9) := by decide +kernel
theorem i_X1_designCost_23 : ins MX1_designCost 23 = some (.iload 4) := by decide +kernel
theorem i_X1_designCost_25 : ins MX1_designCost 25 = some (.iaload) := by decide +kernel
theorem i_X1_designCost_26 : ins MX1_designCost 26 = some (.aload_n 0) := by decide +kernel
theorem i_X1_designCost_27 : ins MX1_designCost 27 = some (.getfield 18) := by decide +kernel
theorem i_X1_designCost_30 : ins MX1_designCost 30 = some (.iload 4) := by decide +kernel
theorem i_X1_designCost_32 : ins MX1_designCost 32 = some (.iaload) := by decide +kernel
theorem i_X1_designCost_33 : ins MX1_designCost 33 = some (.aload_n 0) := by decide +kernel
theorem i_X1_designCost_34 : ins MX1_designCost 34 = some (.getfield 32) := by decide +kernel
theorem i_X1_designCost_37 : ins MX1_designCost 37 = some (.iload_n 1) := by decide +kernel
theorem i_X1_designCost_38 : ins MX1_designCost 38 = some (.iload_n 2) := by decide +kernel
theorem i_X1_designCost_39 : ins MX1_designCost 39 = some (.invokestatic 97) := by decide +kernel
theorem i_X1_designCost_42 : ins MX1_designCost 42 = some (.iadd) := by decide +kernel
theorem i_X1_designCost_43 : ins MX1_designCost 43 = some (.istore_n 3) := by decide +kernel
theorem i_X1_designCost_44 : ins MX1_designCost 44 = some (.iinc 4 1) := by decide +kernel
theorem i_X1_designCost_47 : ins MX1_designCost 47 = some (.goto (-42)) := by decide +kernel
theorem i_X1_designCost_50 : ins MX1_designCost 50 = some (.iload_n 3) := by decide +kernel
theorem i_X1_designCost_51 : ins MX1_designCost 51 = some (.ireturn) := by decide +kernel
theorem i_X2_roomOf_0 : ins MX2_roomOf 0 = some (.iload_n 0) := by decide +kernel
theorem i_X2_roomOf_1 : ins MX2_roomOf 1 = some (.ifCond .ne 12) := by decide +kernel
theorem i_X2_roomOf_4 : ins MX2_roomOf 4 = some (.iload_n 1) := by decide +kernel
theorem i_X2_roomOf_5 : ins MX2_roomOf 5 = some (.iconst 2) := by decide +kernel
theorem i_X2_roomOf_6 : ins MX2_roomOf 6 = some (.if_icmp .le 7) := by decide +kernel
theorem i_X2_roomOf_9 : ins MX2_roomOf 9 = some (.iload_n 1) := by decide +kernel
theorem i_X2_roomOf_10 : ins MX2_roomOf 10 = some (.goto 6) := by decide +kernel
theorem i_X2_roomOf_13 : ins MX2_roomOf 13 = some (.iload_n 1) := by decide +kernel
theorem i_X2_roomOf_14 : ins MX2_roomOf 14 = some (.iconst 1) := by decide +kernel
theorem i_X2_roomOf_15 : ins MX2_roomOf 15 = some (.isub) := by decide +kernel
theorem i_X2_roomOf_16 : ins MX2_roomOf 16 = some (.ireturn) := by decide +kernel
theorem i_X2_slicesOfFigure_0 : ins MX2_slicesOfFigure 0 = some (.iload_n 0) := by decide +kernel
theorem i_X2_slicesOfFigure_1 : ins MX2_slicesOfFigure 1 = some (.iconst 1) := by decide +kernel
theorem i_X2_slicesOfFigure_2 : ins MX2_slicesOfFigure 2 = some (.if_icmp .ne 19) := by decide +kernel
theorem i_X2_slicesOfFigure_5 : ins MX2_slicesOfFigure 5 = some (.iload_n 1) := by decide +kernel
theorem i_X2_slicesOfFigure_6 : ins MX2_slicesOfFigure 6 = some (.iconst 1) := by decide +kernel
theorem i_X2_slicesOfFigure_7 : ins MX2_slicesOfFigure 7 = some (.isub) := by decide +kernel
theorem i_X2_slicesOfFigure_8 : ins MX2_slicesOfFigure 8 = some (.invokestatic 9) := by decide +kernel
theorem i_X2_slicesOfFigure_11 : ins MX2_slicesOfFigure 11 = some (.iload_n 2) := by decide +kernel
theorem i_X2_slicesOfFigure_12 : ins MX2_slicesOfFigure 12 = some (.invokestatic 9) := by decide +kernel
theorem i_X2_slicesOfFigure_15 : ins MX2_slicesOfFigure 15 = some (.ldc2_w 13) := by decide +kernel
theorem i_X2_slicesOfFigure_18 : ins MX2_slicesOfFigure 18 = some (.lxor) := by decide +kernel
theorem i_X2_slicesOfFigure_19 : ins MX2_slicesOfFigure 19 = some (.land) := by decide +kernel
theorem i_X2_slicesOfFigure_20 : ins MX2_slicesOfFigure 20 = some (.lreturn) := by decide +kernel
theorem i_X2_slicesOfFigure_21 : ins MX2_slicesOfFigure 21 = some (.iload_n 1) := by decide +kernel
theorem i_X2_slicesOfFigure_22 : ins MX2_slicesOfFigure 22 = some (.iconst 2) := by decide +kernel
theorem i_X2_slicesOfFigure_23 : ins MX2_slicesOfFigure 23 = some (.if_icmp .ne 8) := by decide +kernel
theorem i_X2_slicesOfFigure_26 : ins MX2_slicesOfFigure 26 = some (.iload_n 2) := by decide +kernel
theorem i_X2_slicesOfFigure_27 : ins MX2_slicesOfFigure 27 = some (.i2l) := by decide +kernel
theorem i_X2_slicesOfFigure_28 : ins MX2_slicesOfFigure 28 = some (.goto 6) := by decide +kernel
theorem i_X2_slicesOfFigure_31 : ins MX2_slicesOfFigure 31 = some (.lconst 1) := by decide +kernel
theorem i_X2_slicesOfFigure_32 : ins MX2_slicesOfFigure 32 = some (.iload_n 2) := by decide +kernel
theorem i_X2_slicesOfFigure_33 : ins MX2_slicesOfFigure 33 = some (.lshl) := by decide +kernel
theorem i_X2_slicesOfFigure_34 : ins MX2_slicesOfFigure 34 = some (.lreturn) := by decide +kernel
theorem i_X2_readForFigure_0 : ins MX2_readForFigure 0 = some (.iload_n 0) := by decide +kernel
theorem i_X2_readForFigure_1 : ins MX2_readForFigure 1 = some (.ifCond .ne 16) := by decide +kernel
theorem i_X2_readForFigure_4 : ins MX2_readForFigure 4 = some (.iload_n 1) := by decide +kernel
theorem i_X2_readForFigure_5 : ins MX2_readForFigure 5 = some (.iconst 2) := by decide +kernel
theorem i_X2_readForFigure_6 : ins MX2_readForFigure 6 = some (.if_icmp .ne 7) := by decide +kernel
theorem i_X2_readForFigure_9 : ins MX2_readForFigure 9 = some (.lconst 1) := by decide +kernel
theorem i_X2_readForFigure_10 : ins MX2_readForFigure 10 = some (.goto 6) := by decide +kernel
theorem i_X2_readForFigure_13 : ins MX2_readForFigure 13 = some (.lconst 1) := by decide +kernel
theorem i_X2_readForFigure_14 : ins MX2_readForFigure 14 = some (.iload_n 2) := by decide +kernel
theorem i_X2_readForFigure_15 : ins MX2_readForFigure 15 = some (.lshl) := by decide +kernel
theorem i_X2_readForFigure_16 : ins MX2_readForFigure 16 = some (.lreturn) := by decide +kernel
theorem i_X2_readForFigure_17 : ins MX2_readForFigure 17 = some (.iload_n 2) := by decide +kernel
theorem i_X2_readForFigure_18 : ins MX2_readForFigure 18 = some (.ifCond .ne 5) := by decide +kernel
theorem i_X2_readForFigure_21 : ins MX2_readForFigure 21 = some (.lconst 1) := by decide +kernel
theorem i_X2_readForFigure_22 : ins MX2_readForFigure 22 = some (.lreturn) := by decide +kernel
theorem i_X2_readForFigure_23 : ins MX2_readForFigure 23 = some (.iload_n 2) := by decide +kernel
theorem i_X2_readForFigure_24 : ins MX2_readForFigure 24 = some (.iload_n 1) := by decide +kernel
theorem i_X2_readForFigure_25 : ins MX2_readForFigure 25 = some (.iconst 1) := by decide +kernel
theorem i_X2_readForFigure_26 : ins MX2_readForFigure 26 = some (.isub) := by decide +kernel
theorem i_X2_readForFigure_27 : ins MX2_readForFigure 27 = some (.if_icmp .ne 11) := by decide +kernel
theorem i_X2_readForFigure_30 : ins MX2_readForFigure 30 = some (.lconst 1) := by decide +kernel
theorem i_X2_readForFigure_31 : ins MX2_readForFigure 31 = some (.iload_n 2) := by decide +kernel
theorem i_X2_readForFigure_32 : ins MX2_readForFigure 32 = some (.iconst 1) := by decide +kernel
theorem i_X2_readForFigure_33 : ins MX2_readForFigure 33 = some (.isub) := by decide +kernel
theorem i_X2_readForFigure_34 : ins MX2_readForFigure 34 = some (.lshl) := by decide +kernel
theorem i_X2_readForFigure_35 : ins MX2_readForFigure 35 = some (.goto 10) := by decide +kernel
theorem i_X2_readForFigure_38 : ins MX2_readForFigure 38 = some (.ldc2_w 15) := by decide +kernel
theorem i_X2_readForFigure_41 : ins MX2_readForFigure 41 = some (.iload_n 2) := by decide +kernel
theorem i_X2_readForFigure_42 : ins MX2_readForFigure 42 = some (.iconst 1) := by decide +kernel
theorem i_X2_readForFigure_43 : ins MX2_readForFigure 43 = some (.isub) := by decide +kernel
theorem i_X2_readForFigure_44 : ins MX2_readForFigure 44 = some (.lshl) := by decide +kernel
theorem i_X2_readForFigure_45 : ins MX2_readForFigure 45 = some (.lreturn) := by decide +kernel
theorem i_X2_readBelowFigure_0 : ins MX2_readBelowFigure 0 = some (.iload_n 2) := by decide +kernel
theorem i_X2_readBelowFigure_1 : ins MX2_readBelowFigure 1 = some (.ifCond .ne 5) := by decide +kernel
theorem i_X2_readBelowFigure_4 : ins MX2_readBelowFigure 4 = some (.lconst 0) := by decide +kernel
theorem i_X2_readBelowFigure_5 : ins MX2_readBelowFigure 5 = some (.lreturn) := by decide +kernel
theorem i_X2_readBelowFigure_6 : ins MX2_readBelowFigure 6 = some (.iload_n 0) := by decide +kernel
theorem i_X2_readBelowFigure_7 : ins MX2_readBelowFigure 7 = some (.iconst 1) := by decide +kernel
theorem i_X2_readBelowFigure_8 : ins MX2_readBelowFigure 8 = some (.if_icmp .ne 9) := by decide +kernel
theorem i_X2_readBelowFigure_11 : ins MX2_readBelowFigure 11 = some (.lconst 1) := by decide +kernel
theorem i_X2_readBelowFigure_12 : ins MX2_readBelowFigure 12 = some (.iload_n 2) := by decide +kernel
theorem i_X2_readBelowFigure_13 : ins MX2_readBelowFigure 13 = some (.iconst 1) := by decide +kernel
theorem i_X2_readBelowFigure_14 : ins MX2_readBelowFigure 14 = some (.isub) := by decide +kernel
theorem i_X2_readBelowFigure_15 : ins MX2_readBelowFigure 15 = some (.lshl) := by decide +kernel
theorem i_X2_readBelowFigure_16 : ins MX2_readBelowFigure 16 = some (.lreturn) := by decide +kernel
theorem i_X2_readBelowFigure_17 : ins MX2_readBelowFigure 17 = some (.iload_n 1) := by decide +kernel
theorem i_X2_readBelowFigure_18 : ins MX2_readBelowFigure 18 = some (.iconst 2) := by decide +kernel
theorem i_X2_readBelowFigure_19 : ins MX2_readBelowFigure 19 = some (.if_icmp .ne 5) := by decide +kernel
theorem i_X2_readBelowFigure_22 : ins MX2_readBelowFigure 22 = some (.lconst 1) := by decide +kernel
theorem i_X2_readBelowFigure_23 : ins MX2_readBelowFigure 23 = some (.lreturn) := by decide +kernel
theorem i_X2_readBelowFigure_24 : ins MX2_readBelowFigure 24 = some (.iconst 2) := by decide +kernel
theorem i_X2_readBelowFigure_25 : ins MX2_readBelowFigure 25 = some (.iload_n 2) := by decide +kernel
theorem i_X2_readBelowFigure_26 : ins MX2_readBelowFigure 26 = some (.imul) := by decide +kernel
theorem i_X2_readBelowFigure_27 : ins MX2_readBelowFigure 27 = some (.iload_n 1) := by decide +kernel
theorem i_X2_readBelowFigure_28 : ins MX2_readBelowFigure 28 = some (.if_icmp .le 19) := by decide +kernel
theorem i_X2_readBelowFigure_31 : ins MX2_readBelowFigure 31 = some (.iload_n 1) := by decide +kernel
theorem i_X2_readBelowFigure_32 : ins MX2_readBelowFigure 32 = some (.invokestatic 9) := by decide +kernel
theorem i_X2_readBelowFigure_35 : ins MX2_readBelowFigure 35 = some (.iload_n 2) := by decide +kernel
theorem i_X2_readBelowFigure_36 : ins MX2_readBelowFigure 36 = some (.invokestatic 9) := by decide +kernel
theorem i_X2_readBelowFigure_39 : ins MX2_readBelowFigure 39 = some (.ldc2_w 13) := by decide +kernel
theorem i_X2_readBelowFigure_42 : ins MX2_readBelowFigure 42 = some (.lxor) := by decide +kernel
theorem i_X2_readBelowFigure_43 : ins MX2_readBelowFigure 43 = some (.land) := by decide +kernel
theorem i_X2_readBelowFigure_44 : ins MX2_readBelowFigure 44 = some (.goto 7) := by decide +kernel
theorem i_X2_readBelowFigure_47 : ins MX2_readBelowFigure 47 = some (.iload_n 2) := by decide +kernel
theorem i_X2_readBelowFigure_48 : ins MX2_readBelowFigure 48 = some (.invokestatic 9) := by decide +kernel
theorem i_X2_readBelowFigure_51 : ins MX2_readBelowFigure 51 = some (.lreturn) := by decide +kernel
theorem i_X2_costOf_0 : ins MX2_costOf 0 = some (.iconst 0) := by decide +kernel
theorem i_X2_costOf_1 : ins MX2_costOf 1 = some (.istore 6) := by decide +kernel
theorem i_X2_costOf_3 : ins MX2_costOf 3 = some (.iconst 0) := by decide +kernel
theorem i_X2_costOf_4 : ins MX2_costOf 4 = some (.istore 7) := by decide +kernel
theorem i_X2_costOf_6 : ins MX2_costOf 6 = some (.iconst 0) := by decide +kernel
theorem i_X2_costOf_7 : ins MX2_costOf 7 = some (.istore 8) := by decide +kernel
theorem i_X2_costOf_9 : ins MX2_costOf 9 = some (.iload_n 2) := by decide +kernel
theorem i_X2_costOf_10 : ins MX2_costOf 10 = some (.iconst 1) := by decide +kernel
theorem i_X2_costOf_11 : ins MX2_costOf 11 = some (.invokestatic 17) := by decide +kernel
theorem i_X2_costOf_14 : ins MX2_costOf 14 = some (.istore 9) := by decide +kernel
theorem i_X2_costOf_16 : ins MX2_costOf 16 = some (.iconst 0) := by decide +kernel
theorem i_X2_costOf_17 : ins MX2_costOf 17 = some (.istore 10) := by decide +kernel
theorem i_X2_costOf_19 : ins MX2_costOf 19 = some (.iload 10) := by decide +kernel
theorem i_X2_costOf_21 : ins MX2_costOf 21 = some (.iload_n 3) := by decide +kernel
theorem i_X2_costOf_22 : ins MX2_costOf 22 = some (.if_icmp .ge 97) := by decide +kernel
theorem i_X2_costOf_25 : ins MX2_costOf 25 = some (.iload 9) := by decide +kernel
theorem i_X2_costOf_27 : ins MX2_costOf 27 = some (.iload_n 3) := by decide +kernel
theorem i_X2_costOf_28 : ins MX2_costOf 28 = some (.iload 10) := by decide +kernel
theorem i_X2_costOf_30 : ins MX2_costOf 30 = some (.isub) := by decide +kernel
theorem i_X2_costOf_31 : ins MX2_costOf 31 = some (.invokestatic 23) := by decide +kernel
theorem i_X2_costOf_34 : ins MX2_costOf 34 = some (.istore 11) := by decide +kernel
theorem i_X2_costOf_36 : ins MX2_costOf 36 = some (.iload_n 0) := by decide +kernel
theorem i_X2_costOf_37 : ins MX2_costOf 37 = some (.iload_n 1) := by decide +kernel
theorem i_X2_costOf_38 : ins MX2_costOf 38 = some (.iload 8) := by decide +kernel
theorem i_X2_costOf_40 : ins MX2_costOf 40 = some (.invokestatic 26) := by decide +kernel
theorem i_X2_costOf_43 : ins MX2_costOf 43 = some (.lstore 12) := by decide +kernel
theorem i_X2_costOf_45 : ins MX2_costOf 45 = some (.iload_n 0) := by decide +kernel
theorem i_X2_costOf_46 : ins MX2_costOf 46 = some (.iload_n 1) := by decide +kernel
theorem i_X2_costOf_47 : ins MX2_costOf 47 = some (.iload 8) := by decide +kernel
theorem i_X2_costOf_49 : ins MX2_costOf 49 = some (.invokestatic 32) := by decide +kernel
theorem i_X2_costOf_52 : ins MX2_costOf 52 = some (.lstore 14) := by decide +kernel
theorem i_X2_costOf_54 : ins MX2_costOf 54 = some (.iload 6) := by decide +kernel
theorem i_X2_costOf_56 : ins MX2_costOf 56 = some (.iload 11) := by decide +kernel
theorem i_X2_costOf_58 : ins MX2_costOf 58 = some (.lload 12) := by decide +kernel
theorem i_X2_costOf_60 : ins MX2_costOf 60 = some (.invokestatic 35) := by decide +kernel
theorem i_X2_costOf_63 : ins MX2_costOf 63 = some (.imul) := by decide +kernel
theorem i_X2_costOf_64 : ins MX2_costOf 64 = some (.iadd) := by decide +kernel
theorem i_X2_costOf_65 : ins MX2_costOf 65 = some (.istore 6) := by decide +kernel
theorem i_X2_costOf_67 : ins MX2_costOf 67 = some (.iload 7) := by decide +kernel
theorem i_X2_costOf_69 : ins MX2_costOf 69 = some (.lload 14) := by decide +kernel
theorem i_X2_costOf_71 : ins MX2_costOf 71 = some (.invokestatic 35) := by decide +kernel
theorem i_X2_costOf_74 : ins MX2_costOf 74 = some (.iload 11) := by decide +kernel
theorem i_X2_costOf_76 : ins MX2_costOf 76 = some (.iconst 1) := by decide +kernel
theorem i_X2_costOf_77 : ins MX2_costOf 77 = some (.isub) := by decide +kernel
theorem i_X2_costOf_78 : ins MX2_costOf 78 = some (.lload 14) := by decide +kernel
theorem i_X2_costOf_80 : ins MX2_costOf 80 = some (.lload 12) := by decide +kernel
theorem i_X2_costOf_82 : ins MX2_costOf 82 = some (.lor) := by decide +kernel
theorem i_X2_costOf_83 : ins MX2_costOf 83 = some (.invokestatic 35) := by decide +kernel
theorem i_X2_costOf_86 : ins MX2_costOf 86 = some (.imul) := by decide +kernel
theorem i_X2_costOf_87 : ins MX2_costOf 87 = some (.iadd) := by decide +kernel
theorem i_X2_costOf_88 : ins MX2_costOf 88 = some (.iadd) := by decide +kernel
theorem i_X2_costOf_89 : ins MX2_costOf 89 = some (.istore 7) := by decide +kernel
theorem i_X2_costOf_91 : ins MX2_costOf 91 = some (.iload 8) := by decide +kernel
theorem i_X2_costOf_93 : ins MX2_costOf 93 = some (.iconst 1) := by decide +kernel
theorem i_X2_costOf_94 : ins MX2_costOf 94 = some (.iadd) := by decide +kernel
theorem i_X2_costOf_95 : ins MX2_costOf 95 = some (.iload_n 1) := by decide +kernel
theorem i_X2_costOf_96 : ins MX2_costOf 96 = some (.if_icmp .ge 10) := by decide +kernel
theorem i_X2_costOf_99 : ins MX2_costOf 99 = some (.iload 8) := by decide +kernel
theorem i_X2_costOf_101 : ins MX2_costOf 101 = some (.iconst 1) := by decide +kernel
theorem i_X2_costOf_102 : ins MX2_costOf 102 = some (.iadd) := by decide +kernel
theorem i_X2_costOf_103 : ins MX2_costOf 103 = some (.goto 4) := by decide +kernel
theorem i_X2_costOf_106 : ins MX2_costOf 106 = some (.iconst 0) := by decide +kernel
theorem i_X2_costOf_107 : ins MX2_costOf 107 = some (.istore 8) := by decide +kernel
theorem i_X2_costOf_109 : ins MX2_costOf 109 = some (.iload 10) := by decide +kernel
theorem i_X2_costOf_111 : ins MX2_costOf 111 = some (.iload 9) := by decide +kernel
theorem i_X2_costOf_113 : ins MX2_costOf 113 = some (.iadd) := by decide +kernel
theorem i_X2_costOf_114 : ins MX2_costOf 114 = some (.istore 10) := by decide +kernel
theorem i_X2_costOf_116 : ins MX2_costOf 116 = some (.goto (-97)) := by decide +kernel
theorem i_X2_costOf_119 : ins MX2_costOf 119 = some (.iload 4) := by decide +kernel
theorem i_X2_costOf_121 : ins MX2_costOf 121 = some (.iload 6) := by decide +kernel
theorem i_X2_costOf_123 : ins MX2_costOf 123 = some (.imul) := by decide +kernel
theorem i_X2_costOf_124 : ins MX2_costOf 124 = some (.iload 5) := by decide +kernel
theorem i_X2_costOf_126 : ins MX2_costOf 126 = some (.iload 7) := by decide +kernel
theorem i_X2_costOf_128 : ins MX2_costOf 128 = some (.imul) := by decide +kernel
theorem i_X2_costOf_129 : ins MX2_costOf 129 = some (.iadd) := by decide +kernel
theorem i_X2_costOf_130 : ins MX2_costOf 130 = some (.ireturn) := by decide +kernel
theorem i_X2_tellJust_0 : ins MX2_tellJust 0 = some (.iconst 1) := by decide +kernel
theorem i_X2_tellJust_1 : ins MX2_tellJust 1 = some (.istore_n 3) := by decide +kernel
theorem i_X2_tellJust_2 : ins MX2_tellJust 2 = some (.iconst 0) := by decide +kernel
theorem i_X2_tellJust_3 : ins MX2_tellJust 3 = some (.istore 4) := by decide +kernel
theorem i_X2_tellJust_5 : ins MX2_tellJust 5 = some (.iload 4) := by decide +kernel
theorem i_X2_tellJust_7 : ins MX2_tellJust 7 = some (.iload_n 1) := by decide +kernel
theorem i_X2_tellJust_8 : ins MX2_tellJust 8 = some (.if_icmp .ge 16) := by decide +kernel
theorem i_X2_tellJust_11 : ins MX2_tellJust 11 = some (.iload_n 3) := by decide +kernel
theorem i_X2_tellJust_12 : ins MX2_tellJust 12 = some (.aload_n 0) := by decide +kernel
theorem i_X2_tellJust_13 : ins MX2_tellJust 13 = some (.iload 4) := by decide +kernel
theorem i_X2_tellJust_15 : ins MX2_tellJust 15 = some (.iaload) := by decide +kernel
theorem i_X2_tellJust_16 : ins MX2_tellJust 16 = some (.imul) := by decide +kernel
theorem i_X2_tellJust_17 : ins MX2_tellJust 17 = some (.istore_n 3) := by decide +kernel
theorem i_X2_tellJust_18 : ins MX2_tellJust 18 = some (.iinc 4 1) := by decide +kernel
theorem i_X2_tellJust_21 : ins MX2_tellJust 21 = some (.goto (-16)) := by decide +kernel
theorem i_X2_tellJust_24 : ins MX2_tellJust 24 = some (.iload_n 3) := by decide +kernel
theorem i_X2_tellJust_25 : ins MX2_tellJust 25 = some (.iload_n 2) := by decide +kernel
theorem i_X2_tellJust_26 : ins MX2_tellJust 26 = some (.if_icmp .ge 5) := by decide +kernel
theorem i_X2_tellJust_29 : ins MX2_tellJust 29 = some (.iconst 0) := by decide +kernel
theorem i_X2_tellJust_30 : ins MX2_tellJust 30 = some (.ireturn) := by decide +kernel
theorem i_X2_tellJust_31 : ins MX2_tellJust 31 = some (.iconst 0) := by decide +kernel
theorem i_X2_tellJust_32 : ins MX2_tellJust 32 = some (.istore 4) := by decide +kernel
theorem i_X2_tellJust_34 : ins MX2_tellJust 34 = some (.iload 4) := by decide +kernel
theorem i_X2_tellJust_36 : ins MX2_tellJust 36 = some (.iload_n 1) := by decide +kernel
theorem i_X2_tellJust_37 : ins MX2_tellJust 37 = some (.if_icmp .ge 25) := by decide +kernel
theorem i_X2_tellJust_40 : ins MX2_tellJust 40 = some (.iload_n 3) := by decide +kernel
theorem i_X2_tellJust_41 : ins MX2_tellJust 41 = some (.aload_n 0) := by decide +kernel
theorem i_X2_tellJust_42 : ins MX2_tellJust 42 = some (.iload 4) := by decide +kernel
theorem i_X2_tellJust_44 : ins MX2_tellJust 44 = some (.iaload) := by decide +kernel
theorem i_X2_tellJust_45 : ins MX2_tellJust 45 = some (.iconst 2) := by decide +kernel
theorem i_X2_tellJust_46 : ins MX2_tellJust 46 = some (.invokestatic 17) := by decide +kernel
theorem i_X2_tellJust_49 : ins MX2_tellJust 49 = some (.idiv) := by decide +kernel
theorem i_X2_tellJust_50 : ins MX2_tellJust 50 = some (.iload_n 2) := by decide +kernel
theorem i_X2_tellJust_51 : ins MX2_tellJust 51 = some (.if_icmp .lt 5) := by decide +kernel
theorem i_X2_tellJust_54 : ins MX2_tellJust 54 = some (.iconst 0) := by decide +kernel
theorem i_X2_tellJust_55 : ins MX2_tellJust 55 = some (.ireturn) := by decide +kernel
theorem i_X2_tellJust_56 : ins MX2_tellJust 56 = some (.iinc 4 1) := by decide +kernel
theorem i_X2_tellJust_59 : ins MX2_tellJust 59 = some (.goto (-25)) := by decide +kernel
theorem i_X2_tellJust_62 : ins MX2_tellJust 62 = some (.iconst 1) := by decide +kernel
theorem i_X2_tellJust_63 : ins MX2_tellJust 63 = some (.ireturn) := by decide +kernel
theorem i_X3_init_0 : ins MX3_init 0 = some (.aload_n 0) := by decide +kernel
theorem i_X3_init_1 : ins MX3_init 1 = some (.invokespecial 3) := by decide +kernel
theorem i_X3_init_4 : ins MX3_init 4 = some (.aload_n 0) := by decide +kernel
theorem i_X3_init_5 : ins MX3_init 5 = some (.bipush 60) := by decide +kernel
theorem i_X3_init_7 : ins MX3_init 7 = some (.newarray .int) := by decide +kernel
theorem i_X3_init_9 : ins MX3_init 9 = some (.putfield 9) := by decide +kernel
theorem i_X3_init_12 : ins MX3_init 12 = some (.return_) := by decide +kernel
theorem i_X3_lettersIn_0 : ins MX3_lettersIn 0 = some (.iconst 0) := by decide +kernel
theorem i_X3_lettersIn_1 : ins MX3_lettersIn 1 = some (.istore_n 2) := by decide +kernel
theorem i_X3_lettersIn_2 : ins MX3_lettersIn 2 = some (.iconst 0) := by decide +kernel
theorem i_X3_lettersIn_3 : ins MX3_lettersIn 3 = some (.istore_n 3) := by decide +kernel
theorem i_X3_lettersIn_4 : ins MX3_lettersIn 4 = some (.iconst 0) := by decide +kernel
theorem i_X3_lettersIn_5 : ins MX3_lettersIn 5 = some (.istore 4) := by decide +kernel
theorem i_X3_lettersIn_7 : ins MX3_lettersIn 7 = some (.iload 4) := by decide +kernel
theorem i_X3_lettersIn_9 : ins MX3_lettersIn 9 = some (.bipush 8) := by decide +kernel
theorem i_X3_lettersIn_11 : ins MX3_lettersIn 11 = some (.if_icmp .ge 48) := by decide +kernel
theorem i_X3_lettersIn_14 : ins MX3_lettersIn 14 = some (.lload_n 0) := by decide +kernel
theorem i_X3_lettersIn_15 : ins MX3_lettersIn 15 = some (.iload 4) := by decide +kernel
theorem i_X3_lettersIn_17 : ins MX3_lettersIn 17 = some (.invokestatic 15) := by decide +kernel
theorem i_X3_lettersIn_20 : ins MX3_lettersIn 20 = some (.istore 5) := by decide +kernel
theorem i_X3_lettersIn_22 : ins MX3_lettersIn 22 = some (.iload 5) := by decide +kernel
theorem i_X3_lettersIn_24 : ins MX3_lettersIn 24 = some (.bipush 126) := by decide +kernel
theorem i_X3_lettersIn_26 : ins MX3_lettersIn 26 = some (.if_icmp .gt 12) := by decide +kernel
theorem i_X3_lettersIn_29 : ins MX3_lettersIn 29 = some (.iload_n 3) := by decide +kernel
theorem i_X3_lettersIn_30 : ins MX3_lettersIn 30 = some (.ifCond .eq 10) := by decide +kernel
theorem i_X3_lettersIn_33 : ins MX3_lettersIn 33 = some (.iload 5) := by decide +kernel
theorem i_X3_lettersIn_35 : ins MX3_lettersIn 35 = some (.ifCond .eq 5) := by decide +kernel
theorem i_X3_lettersIn_38 : ins MX3_lettersIn 38 = some (.iconst (-1)) := by decide +kernel
theorem i_X3_lettersIn_39 : ins MX3_lettersIn 39 = some (.ireturn) := by decide +kernel
theorem i_X3_lettersIn_40 : ins MX3_lettersIn 40 = some (.iload 5) := by decide +kernel
theorem i_X3_lettersIn_42 : ins MX3_lettersIn 42 = some (.ifCond .ne 8) := by decide +kernel
theorem i_X3_lettersIn_45 : ins MX3_lettersIn 45 = some (.iconst 1) := by decide +kernel
theorem i_X3_lettersIn_46 : ins MX3_lettersIn 46 = some (.istore_n 3) := by decide +kernel
theorem i_X3_lettersIn_47 : ins MX3_lettersIn 47 = some (.goto 6) := by decide +kernel
theorem i_X3_lettersIn_50 : ins MX3_lettersIn 50 = some (.iinc 2 1) := by decide +kernel
theorem i_X3_lettersIn_53 : ins MX3_lettersIn 53 = some (.iinc 4 1) := by decide +kernel
theorem i_X3_lettersIn_56 : ins MX3_lettersIn 56 = some (.goto (-49)) := by decide +kernel
theorem i_X3_lettersIn_59 : ins MX3_lettersIn 59 = some (.iload_n 2) := by decide +kernel
theorem i_X3_lettersIn_60 : ins MX3_lettersIn 60 = some (.ireturn) := by decide +kernel
theorem i_X3_codeIn_0 : ins MX3_codeIn 0 = some (.lload_n 0) := by decide +kernel
theorem i_X3_codeIn_1 : ins MX3_codeIn 1 = some (.bipush 8) := by decide +kernel
theorem i_X3_codeIn_3 : ins MX3_codeIn 3 = some (.iload_n 2) := by decide +kernel
theorem i_X3_codeIn_4 : ins MX3_codeIn 4 = some (.imul) := by decide +kernel
theorem i_X3_codeIn_5 : ins MX3_codeIn 5 = some (.lushr) := by decide +kernel
theorem i_X3_codeIn_6 : ins MX3_codeIn 6 = some (.l2i) := by decide +kernel
theorem i_X3_codeIn_7 : ins MX3_codeIn 7 = some (.sipush 255) := by decide +kernel
theorem i_X3_codeIn_10 : ins MX3_codeIn 10 = some (.iand) := by decide +kernel
theorem i_X3_codeIn_11 : ins MX3_codeIn 11 = some (.ireturn) := by decide +kernel
theorem i_X3_append_0 : ins MX3_append 0 = some (.iconst 0) := by decide +kernel
theorem i_X3_append_1 : ins MX3_append 1 = some (.istore 4) := by decide +kernel
theorem i_X3_append_3 : ins MX3_append 3 = some (.iload 4) := by decide +kernel
theorem i_X3_append_5 : ins MX3_append 5 = some (.iload_n 3) := by decide +kernel
theorem i_X3_append_6 : ins MX3_append 6 = some (.if_icmp .ge 43) := by decide +kernel
theorem i_X3_append_9 : ins MX3_append 9 = some (.aload_n 0) := by decide +kernel
theorem i_X3_append_10 : ins MX3_append 10 = some (.getfield 19) := by decide +kernel
theorem i_X3_append_13 : ins MX3_append 13 = some (.bipush 60) := by decide +kernel
theorem i_X3_append_15 : ins MX3_append 15 = some (.if_icmp .ge 34) := by decide +kernel
theorem i_X3_append_18 : ins MX3_append 18 = some (.aload_n 0) := by decide +kernel
theorem i_X3_append_19 : ins MX3_append 19 = some (.getfield 9) := by decide +kernel
theorem i_X3_append_22 : ins MX3_append 22 = some (.aload_n 0) := by decide +kernel
theorem i_X3_append_23 : ins MX3_append 23 = some (.getfield 19) := by decide +kernel
theorem i_X3_append_26 : ins MX3_append 26 = some (.lload_n 1) := by decide +kernel
theorem i_X3_append_27 : ins MX3_append 27 = some (.iload 4) := by decide +kernel
theorem i_X3_append_29 : ins MX3_append 29 = some (.invokestatic 15) := by decide +kernel
theorem i_X3_append_32 : ins MX3_append 32 = some (.iastore) := by decide +kernel
theorem i_X3_append_33 : ins MX3_append 33 = some (.aload_n 0) := by decide +kernel
theorem i_X3_append_34 : ins MX3_append 34 = some (.dup) := by decide +kernel
theorem i_X3_append_35 : ins MX3_append 35 = some (.getfield 19) := by decide +kernel
theorem i_X3_append_38 : ins MX3_append 38 = some (.iconst 1) := by decide +kernel
theorem i_X3_append_39 : ins MX3_append 39 = some (.iadd) := by decide +kernel
theorem i_X3_append_40 : ins MX3_append 40 = some (.putfield 19) := by decide +kernel
theorem i_X3_append_43 : ins MX3_append 43 = some (.iinc 4 1) := by decide +kernel
theorem i_X3_append_46 : ins MX3_append 46 = some (.goto (-43)) := by decide +kernel
theorem i_X3_append_49 : ins MX3_append 49 = some (.return_) := by decide +kernel
theorem i_X3_goodLetters_0 : ins MX3_goodLetters 0 = some (.aload_n 0) := by decide +kernel
theorem i_X3_goodLetters_1 : ins MX3_goodLetters 1 = some (.iconst 0) := by decide +kernel
theorem i_X3_goodLetters_2 : ins MX3_goodLetters 2 = some (.putfield 23) := by decide +kernel
theorem i_X3_goodLetters_5 : ins MX3_goodLetters 5 = some (.aload_n 0) := by decide +kernel
theorem i_X3_goodLetters_6 : ins MX3_goodLetters 6 = some (.iconst 0) := by decide +kernel
theorem i_X3_goodLetters_7 : ins MX3_goodLetters 7 = some (.putfield 26) := by decide +kernel
theorem i_X3_goodLetters_10 : ins MX3_goodLetters 10 = some (.iconst 0) := by decide +kernel
theorem i_X3_goodLetters_11 : ins MX3_goodLetters 11 = some (.istore_n 1) := by decide +kernel
theorem i_X3_goodLetters_12 : ins MX3_goodLetters 12 = some (.iload_n 1) := by decide +kernel
theorem i_X3_goodLetters_13 : ins MX3_goodLetters 13 = some (.aload_n 0) := by decide +kernel
theorem i_X3_goodLetters_14 : ins MX3_goodLetters 14 = some (.getfield 19) := by decide +kernel
theorem i_X3_goodLetters_17 : ins MX3_goodLetters 17 = some (.if_icmp .ge 33) := by decide +kernel
theorem i_X3_goodLetters_20 : ins MX3_goodLetters 20 = some (.aload_n 0) := by decide +kernel
theorem i_X3_goodLetters_21 : ins MX3_goodLetters 21 = some (.aload_n 0) := by decide +kernel
theorem i_X3_goodLetters_22 : ins MX3_goodLetters 22 = some (.aload_n 0) := by decide +kernel
theorem i_X3_goodLetters_23 : ins MX3_goodLetters 23 = some (.getfield 9) := by decide +kernel
theorem i_X3_goodLetters_26 : ins MX3_goodLetters 26 = some (.iload_n 1) := by decide +kernel
theorem i_X3_goodLetters_27 : ins MX3_goodLetters 27 = some (.iaload) := by decide +kernel
theorem i_X3_goodLetters_28 : ins MX3_goodLetters 28 = some (.invokevirtual 29) := by decide +kernel
theorem i_X3_goodLetters_31 : ins MX3_goodLetters 31 = some (.putfield 23) := by decide +kernel
theorem i_X3_goodLetters_34 : ins MX3_goodLetters 34 = some (.aload_n 0) := by decide +kernel
theorem i_X3_goodLetters_35 : ins MX3_goodLetters 35 = some (.getfield 23) := by decide +kernel
theorem i_X3_goodLetters_38 : ins MX3_goodLetters 38 = some (.iconst (-1)) := by decide +kernel
theorem i_X3_goodLetters_39 : ins MX3_goodLetters 39 = some (.if_icmp .ne 5) := by decide +kernel
theorem i_X3_goodLetters_42 : ins MX3_goodLetters 42 = some (.iload_n 1) := by decide +kernel
theorem i_X3_goodLetters_43 : ins MX3_goodLetters 43 = some (.ireturn) := by decide +kernel
theorem i_X3_goodLetters_44 : ins MX3_goodLetters 44 = some (.iinc 1 1) := by decide +kernel
theorem i_X3_goodLetters_47 : ins MX3_goodLetters 47 = some (.goto (-35)) := by decide +kernel
theorem i_X3_goodLetters_50 : ins MX3_goodLetters 50 = some (.aload_n 0) := by decide +kernel
theorem i_X3_goodLetters_51 : ins MX3_goodLetters 51 = some (.getfield 19) := by decide +kernel
theorem i_X3_goodLetters_54 : ins MX3_goodLetters 54 = some (.ireturn) := by decide +kernel
theorem i_X3_isQuestion_0 : ins MX3_isQuestion 0 = some (.aload_n 0) := by decide +kernel
theorem i_X3_isQuestion_1 : ins MX3_isQuestion 1 = some (.invokevirtual 33) := by decide +kernel
theorem i_X3_isQuestion_4 : ins MX3_isQuestion 4 = some (.aload_n 0) := by decide +kernel
theorem i_X3_isQuestion_5 : ins MX3_isQuestion 5 = some (.getfield 19) := by decide +kernel
theorem i_X3_isQuestion_8 : ins MX3_isQuestion 8 = some (.if_icmp .ge 5) := by decide +kernel
theorem i_X3_isQuestion_11 : ins MX3_isQuestion 11 = some (.iconst 0) := by decide +kernel
theorem i_X3_isQuestion_12 : ins MX3_isQuestion 12 = some (.ireturn) := by decide +kernel
theorem i_X3_isQuestion_13 : ins MX3_isQuestion 13 = some (.aload_n 0) := by decide +kernel
theorem i_X3_isQuestion_14 : ins MX3_isQuestion 14 = some (.getfield 26) := by decide +kernel
theorem i_X3_isQuestion_17 : ins MX3_isQuestion 17 = some (.ifCond .ne 23) := by decide +kernel
theorem i_X3_isQuestion_20 : ins MX3_isQuestion 20 = some (.aload_n 0) := by decide +kernel
theorem i_X3_isQuestion_21 : ins MX3_isQuestion 21 = some (.getfield 23) := by decide +kernel
theorem i_X3_isQuestion_24 : ins MX3_isQuestion 24 = some (.iconst 3) := by decide +kernel
theorem i_X3_isQuestion_25 : ins MX3_isQuestion 25 = some (.if_icmp .eq 11) := by decide +kernel
theorem i_X3_isQuestion_28 : ins MX3_isQuestion 28 = some (.aload_n 0) := by decide +kernel
theorem i_X3_isQuestion_29 : ins MX3_isQuestion 29 = some (.getfield 23) := by decide +kernel
theorem i_X3_isQuestion_32 : ins MX3_isQuestion 32 = some (.iconst 4) := by decide +kernel
theorem i_X3_isQuestion_33 : ins MX3_isQuestion 33 = some (.if_icmp .ne 7) := by decide +kernel
theorem i_X3_isQuestion_36 : ins MX3_isQuestion 36 = some (.iconst 1) := by decide +kernel
theorem i_X3_isQuestion_37 : ins MX3_isQuestion 37 = some (.goto 4) := by decide +kernel
theorem i_X3_isQuestion_40 : ins MX3_isQuestion 40 = some (.iconst 0) := by decide +kernel
theorem i_X3_isQuestion_41 : ins MX3_isQuestion 41 = some (.ireturn) := by decide +kernel
theorem i_X3_placeBehind_0 : ins MX3_placeBehind 0 = some (.aload_n 0) := by decide +kernel
theorem i_X3_placeBehind_1 : ins MX3_placeBehind 1 = some (.getfield 23) := by decide +kernel
theorem i_X3_placeBehind_4 : ins MX3_placeBehind 4 = some (.tableswitch 102 0 4 #[36, 42, 66, 79, 96]) := by decide +kernel
theorem i_X3_placeBehind_40 : ins MX3_placeBehind 40 = some (.aload_n 0) := by decide +kernel
theorem i_X3_placeBehind_41 : ins MX3_placeBehind 41 = some (.iload_n 1) := by decide +kernel
theorem i_X3_placeBehind_42 : ins MX3_placeBehind 42 = some (.invokevirtual 37) := by decide +kernel
theorem i_X3_placeBehind_45 : ins MX3_placeBehind 45 = some (.ireturn) := by decide +kernel
theorem i_X3_placeBehind_46 : ins MX3_placeBehind 46 = some (.iload_n 1) := by decide +kernel
theorem i_X3_placeBehind_47 : ins MX3_placeBehind 47 = some (.bipush 60) := by decide +kernel
theorem i_X3_placeBehind_49 : ins MX3_placeBehind 49 = some (.if_icmp .eq 15) := by decide +kernel
theorem i_X3_placeBehind_52 : ins MX3_placeBehind 52 = some (.iload_n 1) := by decide +kernel
theorem i_X3_placeBehind_53 : ins MX3_placeBehind 53 = some (.bipush 61) := by decide +kernel
theorem i_X3_placeBehind_55 : ins MX3_placeBehind 55 = some (.if_icmp .eq 9) := by decide +kernel
theorem i_X3_placeBehind_58 : ins MX3_placeBehind 58 = some (.iload_n 1) := by decide +kernel
theorem i_X3_placeBehind_59 : ins MX3_placeBehind 59 = some (.bipush 62) := by decide +kernel
theorem i_X3_placeBehind_61 : ins MX3_placeBehind 61 = some (.if_icmp .ne 7) := by decide +kernel
theorem i_X3_placeBehind_64 : ins MX3_placeBehind 64 = some (.iconst 2) := by decide +kernel
theorem i_X3_placeBehind_65 : ins MX3_placeBehind 65 = some (.goto 4) := by decide +kernel
theorem i_X3_placeBehind_68 : ins MX3_placeBehind 68 = some (.iconst (-1)) := by decide +kernel
theorem i_X3_placeBehind_69 : ins MX3_placeBehind 69 = some (.ireturn) := by decide +kernel
theorem i_X3_placeBehind_70 : ins MX3_placeBehind 70 = some (.iload_n 1) := by decide +kernel
theorem i_X3_placeBehind_71 : ins MX3_placeBehind 71 = some (.invokestatic 40) := by decide +kernel
theorem i_X3_placeBehind_74 : ins MX3_placeBehind 74 = some (.ifCond .eq 7) := by decide +kernel
theorem i_X3_placeBehind_77 : ins MX3_placeBehind 77 = some (.iconst 3) := by decide +kernel
theorem i_X3_placeBehind_78 : ins MX3_placeBehind 78 = some (.goto 4) := by decide +kernel
theorem i_X3_placeBehind_81 : ins MX3_placeBehind 81 = some (.iconst (-1)) := by decide +kernel
theorem i_X3_placeBehind_82 : ins MX3_placeBehind 82 = some (.ireturn) := by decide +kernel
theorem i_X3_placeBehind_83 : ins MX3_placeBehind 83 = some (.iload_n 1) := by decide +kernel
theorem i_X3_placeBehind_84 : ins MX3_placeBehind 84 = some (.invokestatic 40) := by decide +kernel
theorem i_X3_placeBehind_87 : ins MX3_placeBehind 87 = some (.ifCond .eq 7) := by decide +kernel
theorem i_X3_placeBehind_90 : ins MX3_placeBehind 90 = some (.iconst 4) := by decide +kernel
theorem i_X3_placeBehind_91 : ins MX3_placeBehind 91 = some (.goto 8) := by decide +kernel
theorem i_X3_placeBehind_94 : ins MX3_placeBehind 94 = some (.aload_n 0) := by decide +kernel
theorem i_X3_placeBehind_95 : ins MX3_placeBehind 95 = some (.iload_n 1) := by decide +kernel
theorem i_X3_placeBehind_96 : ins MX3_placeBehind 96 = some (.invokevirtual 44) := by decide +kernel
theorem i_X3_placeBehind_99 : ins MX3_placeBehind 99 = some (.ireturn) := by decide +kernel
theorem i_X3_placeBehind_100 : ins MX3_placeBehind 100 = some (.aload_n 0) := by decide +kernel
theorem i_X3_placeBehind_101 : ins MX3_placeBehind 101 = some (.iload_n 1) := by decide +kernel
theorem i_X3_placeBehind_102 : ins MX3_placeBehind 102 = some (.invokevirtual 44) := by decide +kernel
theorem i_X3_placeBehind_105 : ins MX3_placeBehind 105 = some (.ireturn) := by decide +kernel
theorem i_X3_placeBehind_106 : ins MX3_placeBehind 106 = some (.iconst (-1)) := by decide +kernel
theorem i_X3_placeBehind_107 : ins MX3_placeBehind 107 = some (.ireturn) := by decide +kernel
theorem i_X3_behindFactorStart_0 : ins MX3_behindFactorStart 0 = some (.iload_n 1) := by decide +kernel
theorem i_X3_behindFactorStart_1 : ins MX3_behindFactorStart 1 = some (.bipush 33) := by decide +kernel
theorem i_X3_behindFactorStart_3 : ins MX3_behindFactorStart 3 = some (.if_icmp .ne 5) := by decide +kernel
theorem i_X3_behindFactorStart_6 : ins MX3_behindFactorStart 6 = some (.iconst 0) := by decide +kernel
theorem i_X3_behindFactorStart_7 : ins MX3_behindFactorStart 7 = some (.ireturn) := by decide +kernel
theorem i_X3_behindFactorStart_8 : ins MX3_behindFactorStart 8 = some (.iload_n 1) := by decide +kernel
theorem i_X3_behindFactorStart_9 : ins MX3_behindFactorStart 9 = some (.bipush 40) := by decide +kernel
theorem i_X3_behindFactorStart_11 : ins MX3_behindFactorStart 11 = some (.if_icmp .ne 15) := by decide +kernel
theorem i_X3_behindFactorStart_14 : ins MX3_behindFactorStart 14 = some (.aload_n 0) := by decide +kernel
theorem i_X3_behindFactorStart_15 : ins MX3_behindFactorStart 15 = some (.dup) := by decide +kernel
theorem i_X3_behindFactorStart_16 : ins MX3_behindFactorStart 16 = some (.getfield 26) := by decide +kernel
theorem i_X3_behindFactorStart_19 : ins MX3_behindFactorStart 19 = some (.iconst 1) := by decide +kernel
theorem i_X3_behindFactorStart_20 : ins MX3_behindFactorStart 20 = some (.iadd) := by decide +kernel
theorem i_X3_behindFactorStart_21 : ins MX3_behindFactorStart 21 = some (.putfield 26) := by decide +kernel
theorem i_X3_behindFactorStart_24 : ins MX3_behindFactorStart 24 = some (.iconst 0) := by decide +kernel
theorem i_X3_behindFactorStart_25 : ins MX3_behindFactorStart 25 = some (.ireturn) := by decide +kernel
theorem i_X3_behindFactorStart_26 : ins MX3_behindFactorStart 26 = some (.iload_n 1) := by decide +kernel
theorem i_X3_behindFactorStart_27 : ins MX3_behindFactorStart 27 = some (.bipush 97) := by decide +kernel
theorem i_X3_behindFactorStart_29 : ins MX3_behindFactorStart 29 = some (.if_icmp .lt 13) := by decide +kernel
theorem i_X3_behindFactorStart_32 : ins MX3_behindFactorStart 32 = some (.iload_n 1) := by decide +kernel
theorem i_X3_behindFactorStart_33 : ins MX3_behindFactorStart 33 = some (.bipush 100) := by decide +kernel
theorem i_X3_behindFactorStart_35 : ins MX3_behindFactorStart 35 = some (.if_icmp .gt 7) := by decide +kernel
theorem i_X3_behindFactorStart_38 : ins MX3_behindFactorStart 38 = some (.iconst 1) := by decide +kernel
theorem i_X3_behindFactorStart_39 : ins MX3_behindFactorStart 39 = some (.goto 4) := by decide +kernel
theorem i_X3_behindFactorStart_42 : ins MX3_behindFactorStart 42 = some (.iconst (-1)) := by decide +kernel
theorem i_X3_behindFactorStart_43 : ins MX3_behindFactorStart 43 = some (.ireturn) := by decide +kernel
theorem i_X3_behindWholeFactor_0 : ins MX3_behindWholeFactor 0 = some (.iload_n 1) := by decide +kernel
theorem i_X3_behindWholeFactor_1 : ins MX3_behindWholeFactor 1 = some (.bipush 38) := by decide +kernel
theorem i_X3_behindWholeFactor_3 : ins MX3_behindWholeFactor 3 = some (.if_icmp .eq 9) := by decide +kernel
theorem i_X3_behindWholeFactor_6 : ins MX3_behindWholeFactor 6 = some (.iload_n 1) := by decide +kernel
theorem i_X3_behindWholeFactor_7 : ins MX3_behindWholeFactor 7 = some (.bipush 124) := by decide +kernel
theorem i_X3_behindWholeFactor_9 : ins MX3_behindWholeFactor 9 = some (.if_icmp .ne 5) := by decide +kernel
theorem i_X3_behindWholeFactor_12 : ins MX3_behindWholeFactor 12 = some (.iconst 0) := by decide +kernel
theorem i_X3_behindWholeFactor_13 : ins MX3_behindWholeFactor 13 = some (.ireturn) := by decide +kernel
theorem i_X3_behindWholeFactor_14 : ins MX3_behindWholeFactor 14 = some (.iload_n 1) := by decide +kernel
theorem i_X3_behindWholeFactor_15 : ins MX3_behindWholeFactor 15 = some (.bipush 41) := by decide +kernel
theorem i_X3_behindWholeFactor_17 : ins MX3_behindWholeFactor 17 = some (.if_icmp .ne 10) := by decide +kernel
theorem i_X3_behindWholeFactor_20 : ins MX3_behindWholeFactor 20 = some (.aload_n 0) := by decide +kernel
theorem i_X3_behindWholeFactor_21 : ins MX3_behindWholeFactor 21 = some (.getfield 26) := by decide +kernel
theorem i_X3_behindWholeFactor_24 : ins MX3_behindWholeFactor 24 = some (.ifCond .ne 5) := by decide +kernel
theorem i_X3_behindWholeFactor_27 : ins MX3_behindWholeFactor 27 = some (.iconst (-1)) := by decide +kernel
theorem i_X3_behindWholeFactor_28 : ins MX3_behindWholeFactor 28 = some (.ireturn) := by decide +kernel
theorem i_X3_behindWholeFactor_29 : ins MX3_behindWholeFactor 29 = some (.aload_n 0) := by decide +kernel
theorem i_X3_behindWholeFactor_30 : ins MX3_behindWholeFactor 30 = some (.dup) := by decide +kernel
theorem i_X3_behindWholeFactor_31 : ins MX3_behindWholeFactor 31 = some (.getfield 26) := by decide +kernel
theorem i_X3_behindWholeFactor_34 : ins MX3_behindWholeFactor 34 = some (.iconst 1) := by decide +kernel
theorem i_X3_behindWholeFactor_35 : ins MX3_behindWholeFactor 35 = some (.isub) := by decide +kernel
theorem i_X3_behindWholeFactor_36 : ins MX3_behindWholeFactor 36 = some (.putfield 26) := by decide +kernel
theorem i_X3_behindWholeFactor_39 : ins MX3_behindWholeFactor 39 = some (.iconst 4) := by decide +kernel
theorem i_X3_behindWholeFactor_40 : ins MX3_behindWholeFactor 40 = some (.ireturn) := by decide +kernel
theorem i_X3_isDigit_0 : ins MX3_isDigit 0 = some (.iload_n 0) := by decide +kernel
theorem i_X3_isDigit_1 : ins MX3_isDigit 1 = some (.bipush 48) := by decide +kernel
theorem i_X3_isDigit_3 : ins MX3_isDigit 3 = some (.if_icmp .lt 13) := by decide +kernel
theorem i_X3_isDigit_6 : ins MX3_isDigit 6 = some (.iload_n 0) := by decide +kernel
theorem i_X3_isDigit_7 : ins MX3_isDigit 7 = some (.bipush 57) := by decide +kernel
theorem i_X3_isDigit_9 : ins MX3_isDigit 9 = some (.if_icmp .gt 7) := by decide +kernel
theorem i_X3_isDigit_12 : ins MX3_isDigit 12 = some (.iconst 1) := by decide +kernel
theorem i_X3_isDigit_13 : ins MX3_isDigit 13 = some (.goto 4) := by decide +kernel
theorem i_X3_isDigit_16 : ins MX3_isDigit 16 = some (.iconst 0) := by decide +kernel
theorem i_X3_isDigit_17 : ins MX3_isDigit 17 = some (.ireturn) := by decide +kernel
theorem i_X3_codeAt_0 : ins MX3_codeAt 0 = some (.iload_n 1) := by decide +kernel
theorem i_X3_codeAt_1 : ins MX3_codeAt 1 = some (.ifCond .lt 20) := by decide +kernel
theorem i_X3_codeAt_4 : ins MX3_codeAt 4 = some (.iload_n 1) := by decide +kernel
theorem i_X3_codeAt_5 : ins MX3_codeAt 5 = some (.aload_n 0) := by decide +kernel
theorem i_X3_codeAt_6 : ins MX3_codeAt 6 = some (.getfield 19) := by decide +kernel
theorem i_X3_codeAt_9 : ins MX3_codeAt 9 = some (.if_icmp .ge 12) := by decide +kernel
theorem i_X3_codeAt_12 : ins MX3_codeAt 12 = some (.aload_n 0) := by decide +kernel
theorem i_X3_codeAt_13 : ins MX3_codeAt 13 = some (.getfield 9) := by decide +kernel
theorem i_X3_codeAt_16 : ins MX3_codeAt 16 = some (.iload_n 1) := by decide +kernel
theorem i_X3_codeAt_17 : ins MX3_codeAt 17 = some (.iaload) := by decide +kernel
theorem i_X3_codeAt_18 : ins MX3_codeAt 18 = some (.goto 4) := by decide +kernel
theorem i_X3_codeAt_21 : ins MX3_codeAt 21 = some (.iconst 0) := by decide +kernel
theorem i_X3_codeAt_22 : ins MX3_codeAt 22 = some (.ireturn) := by decide +kernel
theorem i_X3_numberBehind_0 : ins MX3_numberBehind 0 = some (.aload_n 0) := by decide +kernel
theorem i_X3_numberBehind_1 : ins MX3_numberBehind 1 = some (.iload_n 1) := by decide +kernel
theorem i_X3_numberBehind_2 : ins MX3_numberBehind 2 = some (.iconst 2) := by decide +kernel
theorem i_X3_numberBehind_3 : ins MX3_numberBehind 3 = some (.iadd) := by decide +kernel
theorem i_X3_numberBehind_4 : ins MX3_numberBehind 4 = some (.invokevirtual 47) := by decide +kernel
theorem i_X3_numberBehind_7 : ins MX3_numberBehind 7 = some (.bipush 48) := by decide +kernel
theorem i_X3_numberBehind_9 : ins MX3_numberBehind 9 = some (.isub) := by decide +kernel
theorem i_X3_numberBehind_10 : ins MX3_numberBehind 10 = some (.istore_n 2) := by decide +kernel
theorem i_X3_numberBehind_11 : ins MX3_numberBehind 11 = some (.aload_n 0) := by decide +kernel
theorem i_X3_numberBehind_12 : ins MX3_numberBehind 12 = some (.iload_n 1) := by decide +kernel
theorem i_X3_numberBehind_13 : ins MX3_numberBehind 13 = some (.iconst 3) := by decide +kernel
theorem i_X3_numberBehind_14 : ins MX3_numberBehind 14 = some (.iadd) := by decide +kernel
theorem i_X3_numberBehind_15 : ins MX3_numberBehind 15 = some (.invokevirtual 47) := by decide +kernel
theorem i_X3_numberBehind_18 : ins MX3_numberBehind 18 = some (.istore_n 3) := by decide +kernel
theorem i_X3_numberBehind_19 : ins MX3_numberBehind 19 = some (.iload_n 3) := by decide +kernel
theorem i_X3_numberBehind_20 : ins MX3_numberBehind 20 = some (.invokestatic 40) := by decide +kernel
theorem i_X3_numberBehind_23 : ins MX3_numberBehind 23 = some (.ifCond .eq 15) := by decide +kernel
theorem i_X3_numberBehind_26 : ins MX3_numberBehind 26 = some (.bipush 10) := by decide +kernel
theorem i_X3_numberBehind_28 : ins MX3_numberBehind 28 = some (.iload_n 2) := by decide +kernel
theorem i_X3_numberBehind_29 : ins MX3_numberBehind 29 = some (.imul) := by decide +kernel
theorem i_X3_numberBehind_30 : ins MX3_numberBehind 30 = some (.iload_n 3) := by decide +kernel
theorem i_X3_numberBehind_31 : ins MX3_numberBehind 31 = some (.iadd) := by decide +kernel
theorem i_X3_numberBehind_32 : ins MX3_numberBehind 32 = some (.bipush 48) := by decide +kernel
theorem i_X3_numberBehind_34 : ins MX3_numberBehind 34 = some (.isub) := by decide +kernel
theorem i_X3_numberBehind_35 : ins MX3_numberBehind 35 = some (.goto 4) := by decide +kernel
theorem i_X3_numberBehind_38 : ins MX3_numberBehind 38 = some (.iload_n 2) := by decide +kernel
theorem i_X3_numberBehind_39 : ins MX3_numberBehind 39 = some (.ireturn) := by decide +kernel
theorem i_X4_init_0 : ins MX4_init 0 = some (.aload_n 0) := by decide +kernel
theorem i_X4_init_1 : ins MX4_init 1 = some (.invokespecial 1) := by decide +kernel
theorem i_X4_init_4 : ins MX4_init 4 = some (.aload_n 0) := by decide +kernel
theorem i_X4_init_5 : ins MX4_init 5 = some (.aload_n 1) := by decide +kernel
theorem i_X4_init_6 : ins MX4_init 6 = some (.getfield 7) := by decide +kernel
theorem i_X4_init_9 : ins MX4_init 9 = some (.newarray .int) := by decide +kernel
theorem i_X4_init_11 : ins MX4_init 11 = some (.putfield 13) := by decide +kernel
theorem i_X4_init_14 : ins MX4_init 14 = some (.aload_n 0) := by decide +kernel
theorem i_X4_init_15 : ins MX4_init 15 = some (.aload_n 1) := by decide +kernel
theorem i_X4_init_16 : ins MX4_init 16 = some (.getfield 7) := by decide +kernel
theorem i_X4_init_19 : ins MX4_init 19 = some (.newarray .int) := by decide +kernel
theorem i_X4_init_21 : ins MX4_init 21 = some (.putfield 19) := by decide +kernel
theorem i_X4_init_24 : ins MX4_init 24 = some (.aload_n 0) := by decide +kernel
theorem i_X4_init_25 : ins MX4_init 25 = some (.aload_n 1) := by decide +kernel
theorem i_X4_init_26 : ins MX4_init 26 = some (.getfield 7) := by decide +kernel
theorem i_X4_init_29 : ins MX4_init 29 = some (.newarray .long) := by decide +kernel
theorem i_X4_init_31 : ins MX4_init 31 = some (.putfield 22) := by decide +kernel
theorem i_X4_init_34 : ins MX4_init 34 = some (.iconst 0) := by decide +kernel
theorem i_X4_init_35 : ins MX4_init 35 = some (.istore_n 2) := by decide +kernel
theorem i_X4_init_36 : ins MX4_init 36 = some (.iload_n 2) := by decide +kernel
theorem i_X4_init_37 : ins MX4_init 37 = some (.aload_n 1) := by decide +kernel
theorem i_X4_init_38 : ins MX4_init 38 = some (.getfield 7) := by decide +kernel
theorem i_X4_init_41 : ins MX4_init 41 = some (.if_icmp .ge 15) := by decide +kernel
theorem i_X4_init_44 : ins MX4_init 44 = some (.aload_n 0) := by decide +kernel
theorem i_X4_init_45 : ins MX4_init 45 = some (.aload_n 1) := by decide +kernel
theorem i_X4_init_46 : ins MX4_init 46 = some (.iload_n 2) := by decide +kernel
theorem i_X4_init_47 : ins MX4_init 47 = some (.invokevirtual 26) := by decide +kernel
theorem i_X4_init_50 : ins MX4_init 50 = some (.iinc 2 1) := by decide +kernel
theorem i_X4_init_53 : ins MX4_init 53 = some (.goto (-17)) := by decide +kernel
theorem i_X4_init_56 : ins MX4_init 56 = some (.aload_n 0) := by decide +kernel
theorem i_X4_init_57 : ins MX4_init 57 = some (.bipush (-3)) := by decide +kernel
theorem i_X4_init_59 : ins MX4_init 59 = some (.invokevirtual 30) := by decide +kernel
theorem i_X4_init_62 : ins MX4_init 62 = some (.return_) := by decide +kernel
theorem i_X4_takeLetter_0 : ins MX4_takeLetter 0 = some (.aload_n 1) := by decide +kernel
theorem i_X4_takeLetter_1 : ins MX4_takeLetter 1 = some (.iload_n 2) := by decide +kernel
theorem i_X4_takeLetter_2 : ins MX4_takeLetter 2 = some (.invokevirtual 34) := by decide +kernel
theorem i_X4_takeLetter_5 : ins MX4_takeLetter 5 = some (.istore_n 3) := by decide +kernel
theorem i_X4_takeLetter_6 : ins MX4_takeLetter 6 = some (.iload_n 3) := by decide +kernel
theorem i_X4_takeLetter_7 : ins MX4_takeLetter 7 = some (.bipush 33) := by decide +kernel
theorem i_X4_takeLetter_9 : ins MX4_takeLetter 9 = some (.if_icmp .ne 11) := by decide +kernel
theorem i_X4_takeLetter_12 : ins MX4_takeLetter 12 = some (.aload_n 0) := by decide +kernel
theorem i_X4_takeLetter_13 : ins MX4_takeLetter 13 = some (.iconst (-1)) := by decide +kernel
theorem i_X4_takeLetter_14 : ins MX4_takeLetter 14 = some (.invokevirtual 38) := by decide +kernel
theorem i_X4_takeLetter_17 : ins MX4_takeLetter 17 = some (.goto 123) := by decide +kernel
theorem i_X4_takeLetter_20 : ins MX4_takeLetter 20 = some (.iload_n 3) := by decide +kernel
theorem i_X4_takeLetter_21 : ins MX4_takeLetter 21 = some (.bipush 40) := by decide +kernel
theorem i_X4_takeLetter_23 : ins MX4_takeLetter 23 = some (.if_icmp .ne 12) := by decide +kernel
theorem i_X4_takeLetter_26 : ins MX4_takeLetter 26 = some (.aload_n 0) := by decide +kernel
theorem i_X4_takeLetter_27 : ins MX4_takeLetter 27 = some (.bipush (-4)) := by decide +kernel
theorem i_X4_takeLetter_29 : ins MX4_takeLetter 29 = some (.invokevirtual 38) := by decide +kernel
theorem i_X4_takeLetter_32 : ins MX4_takeLetter 32 = some (.goto 108) := by decide +kernel
theorem i_X4_takeLetter_35 : ins MX4_takeLetter 35 = some (.iload_n 3) := by decide +kernel
theorem i_X4_takeLetter_36 : ins MX4_takeLetter 36 = some (.bipush 38) := by decide +kernel
theorem i_X4_takeLetter_38 : ins MX4_takeLetter 38 = some (.if_icmp .eq 9) := by decide +kernel
theorem i_X4_takeLetter_41 : ins MX4_takeLetter 41 = some (.iload_n 3) := by decide +kernel
theorem i_X4_takeLetter_42 : ins MX4_takeLetter 42 = some (.bipush 124) := by decide +kernel
theorem i_X4_takeLetter_44 : ins MX4_takeLetter 44 = some (.if_icmp .ne 33) := by decide +kernel
theorem i_X4_takeLetter_47 : ins MX4_takeLetter 47 = some (.iload_n 3) := by decide +kernel
theorem i_X4_takeLetter_48 : ins MX4_takeLetter 48 = some (.bipush 38) := by decide +kernel
theorem i_X4_takeLetter_50 : ins MX4_takeLetter 50 = some (.if_icmp .ne 8) := by decide +kernel
theorem i_X4_takeLetter_53 : ins MX4_takeLetter 53 = some (.bipush (-2)) := by decide +kernel
theorem i_X4_takeLetter_55 : ins MX4_takeLetter 55 = some (.goto 5) := by decide +kernel
theorem i_X4_takeLetter_58 : ins MX4_takeLetter 58 = some (.bipush (-3)) := by decide +kernel
theorem i_X4_takeLetter_60 : ins MX4_takeLetter 60 = some (.istore 4) := by decide +kernel
theorem i_X4_takeLetter_62 : ins MX4_takeLetter 62 = some (.aload_n 0) := by decide +kernel
theorem i_X4_takeLetter_63 : ins MX4_takeLetter 63 = some (.iload 4) := by decide +kernel
theorem i_X4_takeLetter_65 : ins MX4_takeLetter 65 = some (.invokevirtual 30) := by decide +kernel
theorem i_X4_takeLetter_68 : ins MX4_takeLetter 68 = some (.aload_n 0) := by decide +kernel
theorem i_X4_takeLetter_69 : ins MX4_takeLetter 69 = some (.iload 4) := by decide +kernel
theorem i_X4_takeLetter_71 : ins MX4_takeLetter 71 = some (.invokevirtual 38) := by decide +kernel
theorem i_X4_takeLetter_74 : ins MX4_takeLetter 74 = some (.goto 66) := by decide +kernel
theorem i_X4_takeLetter_77 : ins MX4_takeLetter 77 = some (.iload_n 3) := by decide +kernel
theorem i_X4_takeLetter_78 : ins MX4_takeLetter 78 = some (.bipush 41) := by decide +kernel
theorem i_X4_takeLetter_80 : ins MX4_takeLetter 80 = some (.if_icmp .ne 29) := by decide +kernel
theorem i_X4_takeLetter_83 : ins MX4_takeLetter 83 = some (.aload_n 0) := by decide +kernel
theorem i_X4_takeLetter_84 : ins MX4_takeLetter 84 = some (.bipush (-3)) := by decide +kernel
theorem i_X4_takeLetter_86 : ins MX4_takeLetter 86 = some (.invokevirtual 30) := by decide +kernel
theorem i_X4_takeLetter_89 : ins MX4_takeLetter 89 = some (.aload_n 0) := by decide +kernel
theorem i_X4_takeLetter_90 : ins MX4_takeLetter 90 = some (.getfield 41) := by decide +kernel
theorem i_X4_takeLetter_93 : ins MX4_takeLetter 93 = some (.ifCond .le 47) := by decide +kernel
theorem i_X4_takeLetter_96 : ins MX4_takeLetter 96 = some (.aload_n 0) := by decide +kernel
theorem i_X4_takeLetter_97 : ins MX4_takeLetter 97 = some (.dup) := by decide +kernel
theorem i_X4_takeLetter_98 : ins MX4_takeLetter 98 = some (.getfield 41) := by decide +kernel
theorem i_X4_takeLetter_101 : ins MX4_takeLetter 101 = some (.iconst 1) := by decide +kernel
theorem i_X4_takeLetter_102 : ins MX4_takeLetter 102 = some (.isub) := by decide +kernel
theorem i_X4_takeLetter_103 : ins MX4_takeLetter 103 = some (.putfield 41) := by decide +kernel
theorem i_X4_takeLetter_106 : ins MX4_takeLetter 106 = some (.goto 34) := by decide +kernel
theorem i_X4_takeLetter_109 : ins MX4_takeLetter 109 = some (.iload_n 3) := by decide +kernel
theorem i_X4_takeLetter_110 : ins MX4_takeLetter 110 = some (.bipush 97) := by decide +kernel
theorem i_X4_takeLetter_112 : ins MX4_takeLetter 112 = some (.if_icmp .lt 28) := by decide +kernel
theorem i_X4_takeLetter_115 : ins MX4_takeLetter 115 = some (.iload_n 3) := by decide +kernel
theorem i_X4_takeLetter_116 : ins MX4_takeLetter 116 = some (.bipush 100) := by decide +kernel
theorem i_X4_takeLetter_118 : ins MX4_takeLetter 118 = some (.if_icmp .gt 22) := by decide +kernel
theorem i_X4_takeLetter_121 : ins MX4_takeLetter 121 = some (.aload_n 0) := by decide +kernel
theorem i_X4_takeLetter_122 : ins MX4_takeLetter 122 = some (.aload_n 1) := by decide +kernel
theorem i_X4_takeLetter_123 : ins MX4_takeLetter 123 = some (.iload_n 2) := by decide +kernel
theorem i_X4_takeLetter_124 : ins MX4_takeLetter 124 = some (.invokestatic 44) := by decide +kernel
theorem i_X4_takeLetter_127 : ins MX4_takeLetter 127 = some (.invokevirtual 48) := by decide +kernel
theorem i_X4_takeLetter_130 : ins MX4_takeLetter 130 = some (.aload_n 0) := by decide +kernel
theorem i_X4_takeLetter_131 : ins MX4_takeLetter 131 = some (.dup) := by decide +kernel
theorem i_X4_takeLetter_132 : ins MX4_takeLetter 132 = some (.getfield 51) := by decide +kernel
theorem i_X4_takeLetter_135 : ins MX4_takeLetter 135 = some (.iconst 1) := by decide +kernel
theorem i_X4_takeLetter_136 : ins MX4_takeLetter 136 = some (.iadd) := by decide +kernel
theorem i_X4_takeLetter_137 : ins MX4_takeLetter 137 = some (.putfield 51) := by decide +kernel
theorem i_X4_takeLetter_140 : ins MX4_takeLetter 140 = some (.return_) := by decide +kernel
theorem i_X4_hold_0 : ins MX4_hold 0 = some (.aload_n 0) := by decide +kernel
theorem i_X4_hold_1 : ins MX4_hold 1 = some (.getfield 41) := by decide +kernel
theorem i_X4_hold_4 : ins MX4_hold 4 = some (.aload_n 0) := by decide +kernel
theorem i_X4_hold_5 : ins MX4_hold 5 = some (.getfield 19) := by decide +kernel
theorem i_X4_hold_8 : ins MX4_hold 8 = some (.arraylength) := by decide +kernel
theorem i_X4_hold_9 : ins MX4_hold 9 = some (.if_icmp .lt 4) := by decide +kernel
theorem i_X4_hold_12 : ins MX4_hold 12 = some (.return_) := by decide +kernel
theorem i_X4_hold_13 : ins MX4_hold 13 = some (.aload_n 0) := by decide +kernel
theorem i_X4_hold_14 : ins MX4_hold 14 = some (.getfield 19) := by decide +kernel
theorem i_X4_hold_17 : ins MX4_hold 17 = some (.aload_n 0) := by decide +kernel
theorem i_X4_hold_18 : ins MX4_hold 18 = some (.getfield 41) := by decide +kernel
theorem i_X4_hold_21 : ins MX4_hold 21 = some (.iload_n 1) := by decide +kernel
theorem i_X4_hold_22 : ins MX4_hold 22 = some (.iastore) := by decide +kernel
theorem i_X4_hold_23 : ins MX4_hold 23 = some (.aload_n 0) := by decide +kernel
theorem i_X4_hold_24 : ins MX4_hold 24 = some (.dup) := by decide +kernel
theorem i_X4_hold_25 : ins MX4_hold 25 = some (.getfield 41) := by decide +kernel
theorem i_X4_hold_28 : ins MX4_hold 28 = some (.iconst 1) := by decide +kernel
theorem i_X4_hold_29 : ins MX4_hold 29 = some (.iadd) := by decide +kernel
theorem i_X4_hold_30 : ins MX4_hold 30 = some (.putfield 41) := by decide +kernel
theorem i_X4_hold_33 : ins MX4_hold 33 = some (.return_) := by decide +kernel
theorem i_X4_write_0 : ins MX4_write 0 = some (.aload_n 0) := by decide +kernel
theorem i_X4_write_1 : ins MX4_write 1 = some (.getfield 54) := by decide +kernel
theorem i_X4_write_4 : ins MX4_write 4 = some (.aload_n 0) := by decide +kernel
theorem i_X4_write_5 : ins MX4_write 5 = some (.getfield 13) := by decide +kernel
theorem i_X4_write_8 : ins MX4_write 8 = some (.arraylength) := by decide +kernel
theorem i_X4_write_9 : ins MX4_write 9 = some (.if_icmp .lt 4) := by decide +kernel
theorem i_X4_write_12 : ins MX4_write 12 = some (.return_) := by decide +kernel
theorem i_X4_write_13 : ins MX4_write 13 = some (.aload_n 0) := by decide +kernel
theorem i_X4_write_14 : ins MX4_write 14 = some (.getfield 13) := by decide +kernel
theorem i_X4_write_17 : ins MX4_write 17 = some (.aload_n 0) := by decide +kernel
theorem i_X4_write_18 : ins MX4_write 18 = some (.getfield 54) := by decide +kernel
theorem i_X4_write_21 : ins MX4_write 21 = some (.iload_n 1) := by decide +kernel
theorem i_X4_write_22 : ins MX4_write 22 = some (.iastore) := by decide +kernel
theorem i_X4_write_23 : ins MX4_write 23 = some (.aload_n 0) := by decide +kernel
theorem i_X4_write_24 : ins MX4_write 24 = some (.dup) := by decide +kernel
theorem i_X4_write_25 : ins MX4_write 25 = some (.getfield 54) := by decide +kernel
theorem i_X4_write_28 : ins MX4_write 28 = some (.iconst 1) := by decide +kernel
theorem i_X4_write_29 : ins MX4_write 29 = some (.iadd) := by decide +kernel
theorem i_X4_write_30 : ins MX4_write 30 = some (.putfield 54) := by decide +kernel
theorem i_X4_write_33 : ins MX4_write 33 = some (.return_) := by decide +kernel
theorem i_X4_writeWaiting_0 : ins MX4_writeWaiting 0 = some (.aload_n 0) := by decide +kernel
theorem i_X4_writeWaiting_1 : ins MX4_writeWaiting 1 = some (.getfield 41) := by decide +kernel
theorem i_X4_writeWaiting_4 : ins MX4_writeWaiting 4 = some (.ifCond .le 44) := by decide +kernel
theorem i_X4_writeWaiting_7 : ins MX4_writeWaiting 7 = some (.aload_n 0) := by decide +kernel
theorem i_X4_writeWaiting_8 : ins MX4_writeWaiting 8 = some (.getfield 19) := by decide +kernel
theorem i_X4_writeWaiting_11 : ins MX4_writeWaiting 11 = some (.aload_n 0) := by decide +kernel
theorem i_X4_writeWaiting_12 : ins MX4_writeWaiting 12 = some (.getfield 41) := by decide +kernel
theorem i_X4_writeWaiting_15 : ins MX4_writeWaiting 15 = some (.iconst 1) := by decide +kernel
theorem i_X4_writeWaiting_16 : ins MX4_writeWaiting 16 = some (.isub) := by decide +kernel
theorem i_X4_writeWaiting_17 : ins MX4_writeWaiting 17 = some (.iaload) := by decide +kernel
theorem i_X4_writeWaiting_18 : ins MX4_writeWaiting 18 = some (.iload_n 1) := by decide +kernel
theorem i_X4_writeWaiting_19 : ins MX4_writeWaiting 19 = some (.if_icmp .lt 29) := by decide +kernel
theorem i_X4_writeWaiting_22 : ins MX4_writeWaiting 22 = some (.aload_n 0) := by decide +kernel
theorem i_X4_writeWaiting_23 : ins MX4_writeWaiting 23 = some (.dup) := by decide +kernel
theorem i_X4_writeWaiting_24 : ins MX4_writeWaiting 24 = some (.getfield 41) := by decide +kernel
theorem i_X4_writeWaiting_27 : ins MX4_writeWaiting 27 = some (.iconst 1) := by decide +kernel
theorem i_X4_writeWaiting_28 : ins MX4_writeWaiting 28 = some (.isub) := by decide +kernel
theorem i_X4_writeWaiting_29 : ins MX4_writeWaiting 29 = some (.putfield 41) := by decide +kernel
theorem i_X4_writeWaiting_32 : ins MX4_writeWaiting 32 = some (.aload_n 0) := by decide +kernel
theorem i_X4_writeWaiting_33 : ins MX4_writeWaiting 33 = some (.aload_n 0) := by decide +kernel
theorem i_X4_writeWaiting_34 : ins MX4_writeWaiting 34 = some (.getfield 19) := by decide +kernel
theorem i_X4_writeWaiting_37 : ins MX4_writeWaiting 37 = some (.aload_n 0) := by decide +kernel
theorem i_X4_writeWaiting_38 : ins MX4_writeWaiting 38 = some (.getfield 41) := by decide +kernel
theorem i_X4_writeWaiting_41 : ins MX4_writeWaiting 41 = some (.iaload) := by decide +kernel
theorem i_X4_writeWaiting_42 : ins MX4_writeWaiting 42 = some (.invokevirtual 48) := by decide +kernel
theorem i_X4_writeWaiting_45 : ins MX4_writeWaiting 45 = some (.goto (-45)) := by decide +kernel
theorem i_X4_writeWaiting_48 : ins MX4_writeWaiting 48 = some (.return_) := by decide +kernel
theorem i_X4_comparisonAt_0 : ins MX4_comparisonAt 0 = some (.aload_n 0) := by decide +kernel
theorem i_X4_comparisonAt_1 : ins MX4_comparisonAt 1 = some (.iload_n 1) := by decide +kernel
theorem i_X4_comparisonAt_2 : ins MX4_comparisonAt 2 = some (.iconst 1) := by decide +kernel
theorem i_X4_comparisonAt_3 : ins MX4_comparisonAt 3 = some (.iadd) := by decide +kernel
theorem i_X4_comparisonAt_4 : ins MX4_comparisonAt 4 = some (.invokevirtual 34) := by decide +kernel
theorem i_X4_comparisonAt_7 : ins MX4_comparisonAt 7 = some (.istore_n 2) := by decide +kernel
theorem i_X4_comparisonAt_8 : ins MX4_comparisonAt 8 = some (.iload_n 2) := by decide +kernel
theorem i_X4_comparisonAt_9 : ins MX4_comparisonAt 9 = some (.bipush 60) := by decide +kernel
theorem i_X4_comparisonAt_11 : ins MX4_comparisonAt 11 = some (.if_icmp .ne 7) := by decide +kernel
theorem i_X4_comparisonAt_14 : ins MX4_comparisonAt 14 = some (.iconst 0) := by decide +kernel
theorem i_X4_comparisonAt_15 : ins MX4_comparisonAt 15 = some (.goto 14) := by decide +kernel
theorem i_X4_comparisonAt_18 : ins MX4_comparisonAt 18 = some (.iload_n 2) := by decide +kernel
theorem i_X4_comparisonAt_19 : ins MX4_comparisonAt 19 = some (.bipush 61) := by decide +kernel
theorem i_X4_comparisonAt_21 : ins MX4_comparisonAt 21 = some (.if_icmp .ne 7) := by decide +kernel
theorem i_X4_comparisonAt_24 : ins MX4_comparisonAt 24 = some (.iconst 1) := by decide +kernel
theorem i_X4_comparisonAt_25 : ins MX4_comparisonAt 25 = some (.goto 4) := by decide +kernel
theorem i_X4_comparisonAt_28 : ins MX4_comparisonAt 28 = some (.iconst 2) := by decide +kernel
theorem i_X4_comparisonAt_29 : ins MX4_comparisonAt 29 = some (.istore_n 3) := by decide +kernel
theorem i_X4_comparisonAt_30 : ins MX4_comparisonAt 30 = some (.aload_n 0) := by decide +kernel
theorem i_X4_comparisonAt_31 : ins MX4_comparisonAt 31 = some (.iload_n 1) := by decide +kernel
theorem i_X4_comparisonAt_32 : ins MX4_comparisonAt 32 = some (.invokevirtual 34) := by decide +kernel
theorem i_X4_comparisonAt_35 : ins MX4_comparisonAt 35 = some (.bipush 97) := by decide +kernel
theorem i_X4_comparisonAt_37 : ins MX4_comparisonAt 37 = some (.isub) := by decide +kernel
theorem i_X4_comparisonAt_38 : ins MX4_comparisonAt 38 = some (.iload_n 3) := by decide +kernel
theorem i_X4_comparisonAt_39 : ins MX4_comparisonAt 39 = some (.iconst 2) := by decide +kernel
theorem i_X4_comparisonAt_40 : ins MX4_comparisonAt 40 = some (.ishl) := by decide +kernel
theorem i_X4_comparisonAt_41 : ins MX4_comparisonAt 41 = some (.ior) := by decide +kernel
theorem i_X4_comparisonAt_42 : ins MX4_comparisonAt 42 = some (.aload_n 0) := by decide +kernel
theorem i_X4_comparisonAt_43 : ins MX4_comparisonAt 43 = some (.iload_n 1) := by decide +kernel
theorem i_X4_comparisonAt_44 : ins MX4_comparisonAt 44 = some (.invokevirtual 57) := by decide +kernel
theorem i_X4_comparisonAt_47 : ins MX4_comparisonAt 47 = some (.iconst 4) := by decide +kernel
theorem i_X4_comparisonAt_48 : ins MX4_comparisonAt 48 = some (.ishl) := by decide +kernel
theorem i_X4_comparisonAt_49 : ins MX4_comparisonAt 49 = some (.ior) := by decide +kernel
theorem i_X4_comparisonAt_50 : ins MX4_comparisonAt 50 = some (.ireturn) := by decide +kernel
theorem i_X4_readOf_0 : ins MX4_readOf 0 = some (.lconst 0) := by decide +kernel
theorem i_X4_readOf_1 : ins MX4_readOf 1 = some (.lstore_n 3) := by decide +kernel
theorem i_X4_readOf_2 : ins MX4_readOf 2 = some (.iconst 0) := by decide +kernel
theorem i_X4_readOf_3 : ins MX4_readOf 3 = some (.istore 5) := by decide +kernel
theorem i_X4_readOf_5 : ins MX4_readOf 5 = some (.iload 5) := by decide +kernel
theorem i_X4_readOf_7 : ins MX4_readOf 7 = some (.aload_n 0) := by decide +kernel
theorem i_X4_readOf_8 : ins MX4_readOf 8 = some (.getfield 54) := by decide +kernel
theorem i_X4_readOf_11 : ins MX4_readOf 11 = some (.if_icmp .ge 87) := by decide +kernel
theorem i_X4_readOf_14 : ins MX4_readOf 14 = some (.aload_n 0) := by decide +kernel
theorem i_X4_readOf_15 : ins MX4_readOf 15 = some (.getfield 13) := by decide +kernel
theorem i_X4_readOf_18 : ins MX4_readOf 18 = some (.iload 5) := by decide +kernel
theorem i_X4_readOf_20 : ins MX4_readOf 20 = some (.iaload) := by decide +kernel
theorem i_X4_readOf_21 : ins MX4_readOf 21 = some (.istore 6) := by decide +kernel
theorem i_X4_readOf_23 : ins MX4_readOf 23 = some (.iload 6) := by decide +kernel
theorem i_X4_readOf_25 : ins MX4_readOf 25 = some (.ifCond .lt 67) := by decide +kernel
theorem i_X4_readOf_28 : ins MX4_readOf 28 = some (.iload 6) := by decide +kernel
theorem i_X4_readOf_30 : ins MX4_readOf 30 = some (.iconst 3) := by decide +kernel
theorem i_X4_readOf_31 : ins MX4_readOf 31 = some (.iand) := by decide +kernel
theorem i_X4_readOf_32 : ins MX4_readOf 32 = some (.iload_n 1) := by decide +kernel
theorem i_X4_readOf_33 : ins MX4_readOf 33 = some (.if_icmp .eq 6) := by decide +kernel
theorem i_X4_readOf_36 : ins MX4_readOf 36 = some (.goto 56) := by decide +kernel
theorem i_X4_readOf_39 : ins MX4_readOf 39 = some (.iload 6) := by decide +kernel
theorem i_X4_readOf_41 : ins MX4_readOf 41 = some (.iconst 2) := by decide +kernel
theorem i_X4_readOf_42 : ins MX4_readOf 42 = some (.ishr) := by decide +kernel
theorem i_X4_readOf_43 : ins MX4_readOf 43 = some (.iconst 3) := by decide +kernel
theorem i_X4_readOf_44 : ins MX4_readOf 44 = some (.iand) := by decide +kernel
theorem i_X4_readOf_45 : ins MX4_readOf 45 = some (.istore 7) := by decide +kernel
theorem i_X4_readOf_47 : ins MX4_readOf 47 = some (.iload 6) := by decide +kernel
theorem i_X4_readOf_49 : ins MX4_readOf 49 = some (.iconst 4) := by decide +kernel
theorem i_X4_readOf_50 : ins MX4_readOf 50 = some (.ishr) := by decide +kernel
theorem i_X4_readOf_51 : ins MX4_readOf 51 = some (.istore 8) := by decide +kernel
theorem i_X4_readOf_53 : ins MX4_readOf 53 = some (.iload 7) := by decide +kernel
theorem i_X4_readOf_55 : ins MX4_readOf 55 = some (.iconst 1) := by decide +kernel
theorem i_X4_readOf_56 : ins MX4_readOf 56 = some (.if_icmp .ne 15) := by decide +kernel
theorem i_X4_readOf_59 : ins MX4_readOf 59 = some (.lload_n 3) := by decide +kernel
theorem i_X4_readOf_60 : ins MX4_readOf 60 = some (.aload_n 2) := by decide +kernel
theorem i_X4_readOf_61 : ins MX4_readOf 61 = some (.iload 8) := by decide +kernel
theorem i_X4_readOf_63 : ins MX4_readOf 63 = some (.invokevirtual 60) := by decide +kernel
theorem i_X4_readOf_66 : ins MX4_readOf 66 = some (.lor) := by decide +kernel
theorem i_X4_readOf_67 : ins MX4_readOf 67 = some (.lstore_n 3) := by decide +kernel
theorem i_X4_readOf_68 : ins MX4_readOf 68 = some (.goto 24) := by decide +kernel
theorem i_X4_readOf_71 : ins MX4_readOf 71 = some (.lload_n 3) := by decide +kernel
theorem i_X4_readOf_72 : ins MX4_readOf 72 = some (.aload_n 2) := by decide +kernel
theorem i_X4_readOf_73 : ins MX4_readOf 73 = some (.iload 7) := by decide +kernel
theorem i_X4_readOf_75 : ins MX4_readOf 75 = some (.ifCond .ne 8) := by decide +kernel
theorem i_X4_readOf_78 : ins MX4_readOf 78 = some (.iload 8) := by decide +kernel
theorem i_X4_readOf_80 : ins MX4_readOf 80 = some (.goto 7) := by decide +kernel
theorem i_X4_readOf_83 : ins MX4_readOf 83 = some (.iload 8) := by decide +kernel
theorem i_X4_readOf_85 : ins MX4_readOf 85 = some (.iconst 1) := by decide +kernel
theorem i_X4_readOf_86 : ins MX4_readOf 86 = some (.iadd) := by decide +kernel
theorem i_X4_readOf_87 : ins MX4_readOf 87 = some (.invokevirtual 66) := by decide +kernel
theorem i_X4_readOf_90 : ins MX4_readOf 90 = some (.lor) := by decide +kernel
theorem i_X4_readOf_91 : ins MX4_readOf 91 = some (.lstore_n 3) := by decide +kernel
theorem i_X4_readOf_92 : ins MX4_readOf 92 = some (.iinc 5 1) := by decide +kernel
theorem i_X4_readOf_95 : ins MX4_readOf 95 = some (.goto (-90)) := by decide +kernel
theorem i_X4_readOf_98 : ins MX4_readOf 98 = some (.lload_n 3) := by decide +kernel
theorem i_X4_readOf_99 : ins MX4_readOf 99 = some (.lreturn) := by decide +kernel
theorem i_X4_leftLines_0 : ins MX4_leftLines 0 = some (.aload_n 1) := by decide +kernel
theorem i_X4_leftLines_1 : ins MX4_leftLines 1 = some (.invokevirtual 69) := by decide +kernel
theorem i_X4_leftLines_4 : ins MX4_leftLines 4 = some (.lstore_n 2) := by decide +kernel
theorem i_X4_leftLines_5 : ins MX4_leftLines 5 = some (.iconst 0) := by decide +kernel
theorem i_X4_leftLines_6 : ins MX4_leftLines 6 = some (.istore 4) := by decide +kernel
theorem i_X4_leftLines_8 : ins MX4_leftLines 8 = some (.iconst 0) := by decide +kernel
theorem i_X4_leftLines_9 : ins MX4_leftLines 9 = some (.istore 5) := by decide +kernel
theorem i_X4_leftLines_11 : ins MX4_leftLines 11 = some (.iload 5) := by decide +kernel
theorem i_X4_leftLines_13 : ins MX4_leftLines 13 = some (.aload_n 0) := by decide +kernel
theorem i_X4_leftLines_14 : ins MX4_leftLines 14 = some (.getfield 54) := by decide +kernel
theorem i_X4_leftLines_17 : ins MX4_leftLines 17 = some (.if_icmp .ge 153) := by decide +kernel
theorem i_X4_leftLines_20 : ins MX4_leftLines 20 = some (.aload_n 0) := by decide +kernel
theorem i_X4_leftLines_21 : ins MX4_leftLines 21 = some (.getfield 13) := by decide +kernel
theorem i_X4_leftLines_24 : ins MX4_leftLines 24 = some (.iload 5) := by decide +kernel
theorem i_X4_leftLines_26 : ins MX4_leftLines 26 = some (.iaload) := by decide +kernel
theorem i_X4_leftLines_27 : ins MX4_leftLines 27 = some (.istore 6) := by decide +kernel
theorem i_X4_leftLines_29 : ins MX4_leftLines 29 = some (.iload 6) := by decide +kernel
theorem i_X4_leftLines_31 : ins MX4_leftLines 31 = some (.ifCond .lt 33) := by decide +kernel
theorem i_X4_leftLines_34 : ins MX4_leftLines 34 = some (.iload 4) := by decide +kernel
theorem i_X4_leftLines_36 : ins MX4_leftLines 36 = some (.aload_n 0) := by decide +kernel
theorem i_X4_leftLines_37 : ins MX4_leftLines 37 = some (.getfield 22) := by decide +kernel
theorem i_X4_leftLines_40 : ins MX4_leftLines 40 = some (.arraylength) := by decide +kernel
theorem i_X4_leftLines_41 : ins MX4_leftLines 41 = some (.if_icmp .ge 23) := by decide +kernel
theorem i_X4_leftLines_44 : ins MX4_leftLines 44 = some (.aload_n 0) := by decide +kernel
theorem i_X4_leftLines_45 : ins MX4_leftLines 45 = some (.getfield 22) := by decide +kernel
theorem i_X4_leftLines_48 : ins MX4_leftLines 48 = some (.iload 4) := by decide +kernel
theorem i_X4_leftLines_50 : ins MX4_leftLines 50 = some (.aload_n 1) := by decide +kernel
theorem i_X4_leftLines_51 : ins MX4_leftLines 51 = some (.iload 6) := by decide +kernel
theorem i_X4_leftLines_53 : ins MX4_leftLines 53 = some (.lload_n 2) := by decide +kernel
theorem i_X4_leftLines_54 : ins MX4_leftLines 54 = some (.invokestatic 75) := by decide +kernel
theorem i_X4_leftLines_57 : ins MX4_leftLines 57 = some (.lastore) := by decide +kernel
theorem i_X4_leftLines_58 : ins MX4_leftLines 58 = some (.iinc 4 1) := by decide +kernel
theorem i_X4_leftLines_61 : ins MX4_leftLines 61 = some (.goto 103) := by decide +kernel
theorem i_X4_leftLines_64 : ins MX4_leftLines 64 = some (.iload 6) := by decide +kernel
theorem i_X4_leftLines_66 : ins MX4_leftLines 66 = some (.iconst (-1)) := by decide +kernel
theorem i_X4_leftLines_67 : ins MX4_leftLines 67 = some (.if_icmp .ne 35) := by decide +kernel
theorem i_X4_leftLines_70 : ins MX4_leftLines 70 = some (.iload 4) := by decide +kernel
theorem i_X4_leftLines_72 : ins MX4_leftLines 72 = some (.ifCond .le 30) := by decide +kernel
theorem i_X4_leftLines_75 : ins MX4_leftLines 75 = some (.aload_n 0) := by decide +kernel
theorem i_X4_leftLines_76 : ins MX4_leftLines 76 = some (.getfield 22) := by decide +kernel
theorem i_X4_leftLines_79 : ins MX4_leftLines 79 = some (.iload 4) := by decide +kernel
theorem i_X4_leftLines_81 : ins MX4_leftLines 81 = some (.iconst 1) := by decide +kernel
theorem i_X4_leftLines_82 : ins MX4_leftLines 82 = some (.isub) := by decide +kernel
theorem i_X4_leftLines_83 : ins MX4_leftLines 83 = some (.lload_n 2) := by decide +kernel
theorem i_X4_leftLines_84 : ins MX4_leftLines 84 = some (.aload_n 0) := by decide +kernel
theorem i_X4_leftLines_85 : ins MX4_leftLines 85 = some (.getfield 22) := by decide +kernel
theorem i_X4_leftLines_88 : ins MX4_leftLines 88 = some (.iload 4) := by decide +kernel
theorem i_X4_leftLines_90 : ins MX4_leftLines 90 = some (.iconst 1) := by decide +kernel
theorem i_X4_leftLines_91 : ins MX4_leftLines 91 = some (.isub) := by decide +kernel
theorem i_X4_leftLines_92 : ins MX4_leftLines 92 = some (.laload) := by decide +kernel
theorem i_X4_leftLines_93 : ins MX4_leftLines 93 = some (.ldc2_w 79) := by decide +kernel
theorem i_X4_leftLines_96 : ins MX4_leftLines 96 = some (.lxor) := by decide +kernel
theorem i_X4_leftLines_97 : ins MX4_leftLines 97 = some (.land) := by decide +kernel
theorem i_X4_leftLines_98 : ins MX4_leftLines 98 = some (.lastore) := by decide +kernel
theorem i_X4_leftLines_99 : ins MX4_leftLines 99 = some (.goto 65) := by decide +kernel
theorem i_X4_leftLines_102 : ins MX4_leftLines 102 = some (.iload 4) := by decide +kernel
theorem i_X4_leftLines_104 : ins MX4_leftLines 104 = some (.iconst 1) := by decide +kernel
theorem i_X4_leftLines_105 : ins MX4_leftLines 105 = some (.if_icmp .le 59) := by decide +kernel
theorem i_X4_leftLines_108 : ins MX4_leftLines 108 = some (.iinc 4 (-1)) := by decide +kernel
theorem i_X4_leftLines_111 : ins MX4_leftLines 111 = some (.aload_n 0) := by decide +kernel
theorem i_X4_leftLines_112 : ins MX4_leftLines 112 = some (.getfield 22) := by decide +kernel
theorem i_X4_leftLines_115 : ins MX4_leftLines 115 = some (.iload 4) := by decide +kernel
theorem i_X4_leftLines_117 : ins MX4_leftLines 117 = some (.iconst 1) := by decide +kernel
theorem i_X4_leftLines_118 : ins MX4_leftLines 118 = some (.isub) := by decide +kernel
theorem i_X4_leftLines_119 : ins MX4_leftLines 119 = some (.iload 6) := by decide +kernel
theorem i_X4_leftLines_121 : ins MX4_leftLines 121 = some (.bipush (-2)) := by decide +kernel
theorem i_X4_leftLines_123 : ins MX4_leftLines 123 = some (.if_icmp .ne 23) := by decide +kernel
theorem i_X4_leftLines_126 : ins MX4_leftLines 126 = some (.aload_n 0) := by decide +kernel
theorem i_X4_leftLines_127 : ins MX4_leftLines 127 = some (.getfield 22) := by decide +kernel
theorem i_X4_leftLines_130 : ins MX4_leftLines 130 = some (.iload 4) := by decide +kernel
theorem i_X4_leftLines_132 : ins MX4_leftLines 132 = some (.iconst 1) := by decide +kernel
theorem i_X4_leftLines_133 : ins MX4_leftLines 133 = some (.isub) := by decide +kernel
theorem i_X4_leftLines_134 : ins MX4_leftLines 134 = some (.laload) := by decide +kernel
theorem i_X4_leftLines_135 : ins MX4_leftLines 135 = some (.aload_n 0) := by decide +kernel
theorem i_X4_leftLines_136 : ins MX4_leftLines 136 = some (.getfield 22) := by decide +kernel
theorem i_X4_leftLines_139 : ins MX4_leftLines 139 = some (.iload 4) := by decide +kernel
theorem i_X4_leftLines_141 : ins MX4_leftLines 141 = some (.laload) := by decide +kernel
theorem i_X4_leftLines_142 : ins MX4_leftLines 142 = some (.land) := by decide +kernel
theorem i_X4_leftLines_143 : ins MX4_leftLines 143 = some (.goto 20) := by decide +kernel
theorem i_X4_leftLines_146 : ins MX4_leftLines 146 = some (.aload_n 0) := by decide +kernel
theorem i_X4_leftLines_147 : ins MX4_leftLines 147 = some (.getfield 22) := by decide +kernel
theorem i_X4_leftLines_150 : ins MX4_leftLines 150 = some (.iload 4) := by decide +kernel
theorem i_X4_leftLines_152 : ins MX4_leftLines 152 = some (.iconst 1) := by decide +kernel
theorem i_X4_leftLines_153 : ins MX4_leftLines 153 = some (.isub) := by decide +kernel
theorem i_X4_leftLines_154 : ins MX4_leftLines 154 = some (.laload) := by decide +kernel
theorem i_X4_leftLines_155 : ins MX4_leftLines 155 = some (.aload_n 0) := by decide +kernel
theorem i_X4_leftLines_156 : ins MX4_leftLines 156 = some (.getfield 22) := by decide +kernel
theorem i_X4_leftLines_159 : ins MX4_leftLines 159 = some (.iload 4) := by decide +kernel
theorem i_X4_leftLines_161 : ins MX4_leftLines 161 = some (.laload) := by decide +kernel
theorem i_X4_leftLines_162 : ins MX4_leftLines 162 = some (.lor) := by decide +kernel
theorem i_X4_leftLines_163 : ins MX4_leftLines 163 = some (.lastore) := by decide +kernel
theorem i_X4_leftLines_164 : ins MX4_leftLines 164 = some (.iinc 5 1) := by decide +kernel
theorem i_X4_leftLines_167 : ins MX4_leftLines 167 = some (.goto (-156)) := by decide +kernel
theorem i_X4_leftLines_170 : ins MX4_leftLines 170 = some (.iload 4) := by decide +kernel
theorem i_X4_leftLines_172 : ins MX4_leftLines 172 = some (.ifCond .le 12) := by decide +kernel
theorem i_X4_leftLines_175 : ins MX4_leftLines 175 = some (.aload_n 0) := by decide +kernel
theorem i_X4_leftLines_176 : ins MX4_leftLines 176 = some (.getfield 22) := by decide +kernel
theorem i_X4_leftLines_179 : ins MX4_leftLines 179 = some (.iconst 0) := by decide +kernel
theorem i_X4_leftLines_180 : ins MX4_leftLines 180 = some (.laload) := by decide +kernel
theorem i_X4_leftLines_181 : ins MX4_leftLines 181 = some (.goto 4) := by decide +kernel
theorem i_X4_leftLines_184 : ins MX4_leftLines 184 = some (.lconst 0) := by decide +kernel
theorem i_X4_leftLines_185 : ins MX4_leftLines 185 = some (.lreturn) := by decide +kernel
theorem i_X4_linesThatHold_0 : ins MX4_linesThatHold 0 = some (.iload_n 1) := by decide +kernel
theorem i_X4_linesThatHold_1 : ins MX4_linesThatHold 1 = some (.iconst 3) := by decide +kernel
theorem i_X4_linesThatHold_2 : ins MX4_linesThatHold 2 = some (.iand) := by decide +kernel
theorem i_X4_linesThatHold_3 : ins MX4_linesThatHold 3 = some (.istore 4) := by decide +kernel
theorem i_X4_linesThatHold_5 : ins MX4_linesThatHold 5 = some (.iload_n 1) := by decide +kernel
theorem i_X4_linesThatHold_6 : ins MX4_linesThatHold 6 = some (.iconst 4) := by decide +kernel
theorem i_X4_linesThatHold_7 : ins MX4_linesThatHold 7 = some (.ishr) := by decide +kernel
theorem i_X4_linesThatHold_8 : ins MX4_linesThatHold 8 = some (.istore 5) := by decide +kernel
theorem i_X4_linesThatHold_10 : ins MX4_linesThatHold 10 = some (.iload_n 1) := by decide +kernel
theorem i_X4_linesThatHold_11 : ins MX4_linesThatHold 11 = some (.iconst 2) := by decide +kernel
theorem i_X4_linesThatHold_12 : ins MX4_linesThatHold 12 = some (.ishr) := by decide +kernel
theorem i_X4_linesThatHold_13 : ins MX4_linesThatHold 13 = some (.iconst 3) := by decide +kernel
theorem i_X4_linesThatHold_14 : ins MX4_linesThatHold 14 = some (.iand) := by decide +kernel
theorem i_X4_linesThatHold_15 : ins MX4_linesThatHold 15 = some (.lookupswitch 43 #[(0, 25), (1, 34)]) := by decide +kernel
theorem i_X4_linesThatHold_40 : ins MX4_linesThatHold 40 = some (.aload_n 0) := by decide +kernel
theorem i_X4_linesThatHold_41 : ins MX4_linesThatHold 41 = some (.iload 4) := by decide +kernel
theorem i_X4_linesThatHold_43 : ins MX4_linesThatHold 43 = some (.iload 5) := by decide +kernel
theorem i_X4_linesThatHold_45 : ins MX4_linesThatHold 45 = some (.invokevirtual 81) := by decide +kernel
theorem i_X4_linesThatHold_48 : ins MX4_linesThatHold 48 = some (.lreturn) := by decide +kernel
theorem i_X4_linesThatHold_49 : ins MX4_linesThatHold 49 = some (.aload_n 0) := by decide +kernel
theorem i_X4_linesThatHold_50 : ins MX4_linesThatHold 50 = some (.iload 4) := by decide +kernel
theorem i_X4_linesThatHold_52 : ins MX4_linesThatHold 52 = some (.iload 5) := by decide +kernel
theorem i_X4_linesThatHold_54 : ins MX4_linesThatHold 54 = some (.invokevirtual 85) := by decide +kernel
theorem i_X4_linesThatHold_57 : ins MX4_linesThatHold 57 = some (.lreturn) := by decide +kernel
theorem i_X4_linesThatHold_58 : ins MX4_linesThatHold 58 = some (.lload_n 2) := by decide +kernel
theorem i_X4_linesThatHold_59 : ins MX4_linesThatHold 59 = some (.aload_n 0) := by decide +kernel
theorem i_X4_linesThatHold_60 : ins MX4_linesThatHold 60 = some (.iload 4) := by decide +kernel
theorem i_X4_linesThatHold_62 : ins MX4_linesThatHold 62 = some (.iload 5) := by decide +kernel
theorem i_X4_linesThatHold_64 : ins MX4_linesThatHold 64 = some (.iconst 1) := by decide +kernel
theorem i_X4_linesThatHold_65 : ins MX4_linesThatHold 65 = some (.iadd) := by decide +kernel
theorem i_X4_linesThatHold_66 : ins MX4_linesThatHold 66 = some (.invokevirtual 81) := by decide +kernel
theorem i_X4_linesThatHold_69 : ins MX4_linesThatHold 69 = some (.ldc2_w 79) := by decide +kernel
theorem i_X4_linesThatHold_72 : ins MX4_linesThatHold 72 = some (.lxor) := by decide +kernel
theorem i_X4_linesThatHold_73 : ins MX4_linesThatHold 73 = some (.land) := by decide +kernel
theorem i_X4_linesThatHold_74 : ins MX4_linesThatHold 74 = some (.lreturn) := by decide +kernel
