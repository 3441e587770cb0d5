theorem i_X5_init_0 : ins MX5_init 0 = some (.aload_n 0) := by decide +kernel
theorem i_X5_init_1 : ins MX5_init 1 = some (.invokespecial 3) := by decide +kernel
theorem i_X5_init_4 : ins MX5_init 4 = some (.aload_n 0) := by decide +kernel
theorem i_X5_init_5 : ins MX5_init 5 = some (.iconst 5) := by decide +kernel
theorem i_X5_init_6 : ins MX5_init 6 = some (.newarray .int) := by decide +kernel
theorem i_X5_init_8 : ins MX5_init 8 = some (.putfield 9) := by decide +kernel
theorem i_X5_init_11 : ins MX5_init 11 = some (.aload_n 0) := by decide +kernel
theorem i_X5_init_12 : ins MX5_init 12 = some (.iconst 5) := by decide +kernel
theorem i_X5_init_13 : ins MX5_init 13 = some (.newarray .int) := by decide +kernel
theorem i_X5_init_15 : ins MX5_init 15 = some (.putfield 15) := by decide +kernel
theorem i_X5_init_18 : ins MX5_init 18 = some (.return_) := by decide +kernel
theorem i_X5_seek_0 : ins MX5_seek 0 = some (.aload_n 0) := by decide +kernel
theorem i_X5_seek_1 : ins MX5_seek 1 = some (.iload_n 1) := by decide +kernel
theorem i_X5_seek_2 : ins MX5_seek 2 = some (.putfield 18) := by decide +kernel
theorem i_X5_seek_5 : ins MX5_seek 5 = some (.aload_n 0) := by decide +kernel
theorem i_X5_seek_6 : ins MX5_seek 6 = some (.iload_n 2) := by decide +kernel
theorem i_X5_seek_7 : ins MX5_seek 7 = some (.putfield 22) := by decide +kernel
theorem i_X5_seek_10 : ins MX5_seek 10 = some (.aload_n 0) := by decide +kernel
theorem i_X5_seek_11 : ins MX5_seek 11 = some (.iload_n 3) := by decide +kernel
theorem i_X5_seek_12 : ins MX5_seek 12 = some (.putfield 25) := by decide +kernel
theorem i_X5_seek_15 : ins MX5_seek 15 = some (.aload_n 0) := by decide +kernel
theorem i_X5_seek_16 : ins MX5_seek 16 = some (.iload 4) := by decide +kernel
theorem i_X5_seek_18 : ins MX5_seek 18 = some (.putfield 28) := by decide +kernel
theorem i_X5_seek_21 : ins MX5_seek 21 = some (.aload_n 0) := by decide +kernel
theorem i_X5_seek_22 : ins MX5_seek 22 = some (.iconst 0) := by decide +kernel
theorem i_X5_seek_23 : ins MX5_seek 23 = some (.putfield 31) := by decide +kernel
theorem i_X5_seek_26 : ins MX5_seek 26 = some (.iconst 0) := by decide +kernel
theorem i_X5_seek_27 : ins MX5_seek 27 = some (.istore 5) := by decide +kernel
theorem i_X5_seek_29 : ins MX5_seek 29 = some (.iload 5) := by decide +kernel
theorem i_X5_seek_31 : ins MX5_seek 31 = some (.iconst 1) := by decide +kernel
theorem i_X5_seek_32 : ins MX5_seek 32 = some (.if_icmp .gt 44) := by decide +kernel
theorem i_X5_seek_35 : ins MX5_seek 35 = some (.iconst 1) := by decide +kernel
theorem i_X5_seek_36 : ins MX5_seek 36 = some (.istore 6) := by decide +kernel
theorem i_X5_seek_38 : ins MX5_seek 38 = some (.iload 6) := by decide +kernel
theorem i_X5_seek_40 : ins MX5_seek 40 = some (.iconst 5) := by decide +kernel
theorem i_X5_seek_41 : ins MX5_seek 41 = some (.if_icmp .gt 29) := by decide +kernel
theorem i_X5_seek_44 : ins MX5_seek 44 = some (.aload_n 0) := by decide +kernel
theorem i_X5_seek_45 : ins MX5_seek 45 = some (.iload 5) := by decide +kernel
theorem i_X5_seek_47 : ins MX5_seek 47 = some (.putfield 35) := by decide +kernel
theorem i_X5_seek_50 : ins MX5_seek 50 = some (.aload_n 0) := by decide +kernel
theorem i_X5_seek_51 : ins MX5_seek 51 = some (.iload 6) := by decide +kernel
theorem i_X5_seek_53 : ins MX5_seek 53 = some (.putfield 38) := by decide +kernel
theorem i_X5_seek_56 : ins MX5_seek 56 = some (.aload_n 0) := by decide +kernel
theorem i_X5_seek_57 : ins MX5_seek 57 = some (.iconst 0) := by decide +kernel
theorem i_X5_seek_58 : ins MX5_seek 58 = some (.iconst 1) := by decide +kernel
theorem i_X5_seek_59 : ins MX5_seek 59 = some (.iconst 0) := by decide +kernel
theorem i_X5_seek_60 : ins MX5_seek 60 = some (.iconst 0) := by decide +kernel
theorem i_X5_seek_61 : ins MX5_seek 61 = some (.invokestatic 41) := by decide +kernel
theorem i_X5_seek_64 : ins MX5_seek 64 = some (.iinc 6 1) := by decide +kernel
theorem i_X5_seek_67 : ins MX5_seek 67 = some (.goto (-29)) := by decide +kernel
theorem i_X5_seek_70 : ins MX5_seek 70 = some (.iinc 5 1) := by decide +kernel
theorem i_X5_seek_73 : ins MX5_seek 73 = some (.goto (-44)) := by decide +kernel
theorem i_X5_seek_76 : ins MX5_seek 76 = some (.return_) := by decide +kernel
theorem i_X5_extend_0 : ins MX5_extend 0 = some (.iload_n 1) := by decide +kernel
theorem i_X5_extend_1 : ins MX5_extend 1 = some (.iconst 5) := by decide +kernel
theorem i_X5_extend_2 : ins MX5_extend 2 = some (.if_icmp .lt 4) := by decide +kernel
theorem i_X5_extend_5 : ins MX5_extend 5 = some (.return_) := by decide +kernel
theorem i_X5_extend_6 : ins MX5_extend 6 = some (.iload_n 1) := by decide +kernel
theorem i_X5_extend_7 : ins MX5_extend 7 = some (.iconst 1) := by decide +kernel
theorem i_X5_extend_8 : ins MX5_extend 8 = some (.iadd) := by decide +kernel
theorem i_X5_extend_9 : ins MX5_extend 9 = some (.aload_n 0) := by decide +kernel
theorem i_X5_extend_10 : ins MX5_extend 10 = some (.getfield 38) := by decide +kernel
theorem i_X5_extend_13 : ins MX5_extend 13 = some (.if_icmp .ne 7) := by decide +kernel
theorem i_X5_extend_16 : ins MX5_extend 16 = some (.iconst 1) := by decide +kernel
theorem i_X5_extend_17 : ins MX5_extend 17 = some (.goto 4) := by decide +kernel
theorem i_X5_extend_20 : ins MX5_extend 20 = some (.iconst 0) := by decide +kernel
theorem i_X5_extend_21 : ins MX5_extend 21 = some (.istore 5) := by decide +kernel
theorem i_X5_extend_23 : ins MX5_extend 23 = some (.iconst 2) := by decide +kernel
theorem i_X5_extend_24 : ins MX5_extend 24 = some (.istore 6) := by decide +kernel
theorem i_X5_extend_26 : ins MX5_extend 26 = some (.iload 6) := by decide +kernel
theorem i_X5_extend_28 : ins MX5_extend 28 = some (.bipush 32) := by decide +kernel
theorem i_X5_extend_30 : ins MX5_extend 30 = some (.if_icmp .gt 147) := by decide +kernel
theorem i_X5_extend_33 : ins MX5_extend 33 = some (.iload_n 3) := by decide +kernel
theorem i_X5_extend_34 : ins MX5_extend 34 = some (.aload_n 0) := by decide +kernel
theorem i_X5_extend_35 : ins MX5_extend 35 = some (.getfield 35) := by decide +kernel
theorem i_X5_extend_38 : ins MX5_extend 38 = some (.iload 6) := by decide +kernel
theorem i_X5_extend_40 : ins MX5_extend 40 = some (.invokestatic 45) := by decide +kernel
theorem i_X5_extend_43 : ins MX5_extend 43 = some (.iadd) := by decide +kernel
theorem i_X5_extend_44 : ins MX5_extend 44 = some (.istore 7) := by decide +kernel
theorem i_X5_extend_46 : ins MX5_extend 46 = some (.iload 7) := by decide +kernel
theorem i_X5_extend_48 : ins MX5_extend 48 = some (.aload_n 0) := by decide +kernel
theorem i_X5_extend_49 : ins MX5_extend 49 = some (.getfield 22) := by decide +kernel
theorem i_X5_extend_52 : ins MX5_extend 52 = some (.if_icmp .le 4) := by decide +kernel
theorem i_X5_extend_55 : ins MX5_extend 55 = some (.return_) := by decide +kernel
theorem i_X5_extend_56 : ins MX5_extend 56 = some (.iload_n 2) := by decide +kernel
theorem i_X5_extend_57 : ins MX5_extend 57 = some (.iload 6) := by decide +kernel
theorem i_X5_extend_59 : ins MX5_extend 59 = some (.imul) := by decide +kernel
theorem i_X5_extend_60 : ins MX5_extend 60 = some (.istore 8) := by decide +kernel
theorem i_X5_extend_62 : ins MX5_extend 62 = some (.iload 5) := by decide +kernel
theorem i_X5_extend_64 : ins MX5_extend 64 = some (.ifCond .ne 13) := by decide +kernel
theorem i_X5_extend_67 : ins MX5_extend 67 = some (.iload 8) := by decide +kernel
theorem i_X5_extend_69 : ins MX5_extend 69 = some (.aload_n 0) := by decide +kernel
theorem i_X5_extend_70 : ins MX5_extend 70 = some (.getfield 18) := by decide +kernel
theorem i_X5_extend_73 : ins MX5_extend 73 = some (.if_icmp .lt 4) := by decide +kernel
theorem i_X5_extend_76 : ins MX5_extend 76 = some (.return_) := by decide +kernel
theorem i_X5_extend_77 : ins MX5_extend 77 = some (.aload_n 0) := by decide +kernel
theorem i_X5_extend_78 : ins MX5_extend 78 = some (.getfield 15) := by decide +kernel
theorem i_X5_extend_81 : ins MX5_extend 81 = some (.iload_n 1) := by decide +kernel
theorem i_X5_extend_82 : ins MX5_extend 82 = some (.iload 6) := by decide +kernel
theorem i_X5_extend_84 : ins MX5_extend 84 = some (.iastore) := by decide +kernel
theorem i_X5_extend_85 : ins MX5_extend 85 = some (.iload 5) := by decide +kernel
theorem i_X5_extend_87 : ins MX5_extend 87 = some (.ifCond .eq 24) := by decide +kernel
theorem i_X5_extend_90 : ins MX5_extend 90 = some (.aload_n 0) := by decide +kernel
theorem i_X5_extend_91 : ins MX5_extend 91 = some (.getfield 15) := by decide +kernel
theorem i_X5_extend_94 : ins MX5_extend 94 = some (.aload_n 0) := by decide +kernel
theorem i_X5_extend_95 : ins MX5_extend 95 = some (.getfield 38) := by decide +kernel
theorem i_X5_extend_98 : ins MX5_extend 98 = some (.aload_n 0) := by decide +kernel
theorem i_X5_extend_99 : ins MX5_extend 99 = some (.getfield 18) := by decide +kernel
theorem i_X5_extend_102 : ins MX5_extend 102 = some (.invokestatic 51) := by decide +kernel
theorem i_X5_extend_105 : ins MX5_extend 105 = some (.ifCond .ne 6) := by decide +kernel
theorem i_X5_extend_108 : ins MX5_extend 108 = some (.goto 63) := by decide +kernel
theorem i_X5_extend_111 : ins MX5_extend 111 = some (.iload 4) := by decide +kernel
theorem i_X5_extend_113 : ins MX5_extend 113 = some (.aload_n 0) := by decide +kernel
theorem i_X5_extend_114 : ins MX5_extend 114 = some (.iload 6) := by decide +kernel
theorem i_X5_extend_116 : ins MX5_extend 116 = some (.iload_n 2) := by decide +kernel
theorem i_X5_extend_117 : ins MX5_extend 117 = some (.invokevirtual 55) := by decide +kernel
theorem i_X5_extend_120 : ins MX5_extend 120 = some (.iadd) := by decide +kernel
theorem i_X5_extend_121 : ins MX5_extend 121 = some (.istore 9) := by decide +kernel
theorem i_X5_extend_123 : ins MX5_extend 123 = some (.aload_n 0) := by decide +kernel
theorem i_X5_extend_124 : ins MX5_extend 124 = some (.getfield 31) := by decide +kernel
theorem i_X5_extend_127 : ins MX5_extend 127 = some (.ifCond .eq 15) := by decide +kernel
theorem i_X5_extend_130 : ins MX5_extend 130 = some (.iload 9) := by decide +kernel
theorem i_X5_extend_132 : ins MX5_extend 132 = some (.aload_n 0) := by decide +kernel
theorem i_X5_extend_133 : ins MX5_extend 133 = some (.getfield 58) := by decide +kernel
theorem i_X5_extend_136 : ins MX5_extend 136 = some (.if_icmp .le 6) := by decide +kernel
theorem i_X5_extend_139 : ins MX5_extend 139 = some (.goto 32) := by decide +kernel
theorem i_X5_extend_142 : ins MX5_extend 142 = some (.iload 5) := by decide +kernel
theorem i_X5_extend_144 : ins MX5_extend 144 = some (.ifCond .eq 14) := by decide +kernel
theorem i_X5_extend_147 : ins MX5_extend 147 = some (.aload_n 0) := by decide +kernel
theorem i_X5_extend_148 : ins MX5_extend 148 = some (.iload 7) := by decide +kernel
theorem i_X5_extend_150 : ins MX5_extend 150 = some (.iload 9) := by decide +kernel
theorem i_X5_extend_152 : ins MX5_extend 152 = some (.invokevirtual 61) := by decide +kernel
theorem i_X5_extend_155 : ins MX5_extend 155 = some (.goto 16) := by decide +kernel
theorem i_X5_extend_158 : ins MX5_extend 158 = some (.aload_n 0) := by decide +kernel
theorem i_X5_extend_159 : ins MX5_extend 159 = some (.iload_n 1) := by decide +kernel
theorem i_X5_extend_160 : ins MX5_extend 160 = some (.iconst 1) := by decide +kernel
theorem i_X5_extend_161 : ins MX5_extend 161 = some (.iadd) := by decide +kernel
theorem i_X5_extend_162 : ins MX5_extend 162 = some (.iload 8) := by decide +kernel
theorem i_X5_extend_164 : ins MX5_extend 164 = some (.iload 7) := by decide +kernel
theorem i_X5_extend_166 : ins MX5_extend 166 = some (.iload 9) := by decide +kernel
theorem i_X5_extend_168 : ins MX5_extend 168 = some (.invokestatic 41) := by decide +kernel
theorem i_X5_extend_171 : ins MX5_extend 171 = some (.iinc 6 1) := by decide +kernel
theorem i_X5_extend_174 : ins MX5_extend 174 = some (.goto (-148)) := by decide +kernel
theorem i_X5_extend_177 : ins MX5_extend 177 = some (.return_) := by decide +kernel
theorem i_X5_figureCost_0 : ins MX5_figureCost 0 = some (.aload_n 0) := by decide +kernel
theorem i_X5_figureCost_1 : ins MX5_figureCost 1 = some (.getfield 35) := by decide +kernel
theorem i_X5_figureCost_4 : ins MX5_figureCost 4 = some (.iload_n 1) := by decide +kernel
theorem i_X5_figureCost_5 : ins MX5_figureCost 5 = some (.iload_n 2) := by decide +kernel
theorem i_X5_figureCost_6 : ins MX5_figureCost 6 = some (.aload_n 0) := by decide +kernel
theorem i_X5_figureCost_7 : ins MX5_figureCost 7 = some (.getfield 18) := by decide +kernel
theorem i_X5_figureCost_10 : ins MX5_figureCost 10 = some (.aload_n 0) := by decide +kernel
theorem i_X5_figureCost_11 : ins MX5_figureCost 11 = some (.getfield 25) := by decide +kernel
theorem i_X5_figureCost_14 : ins MX5_figureCost 14 = some (.aload_n 0) := by decide +kernel
theorem i_X5_figureCost_15 : ins MX5_figureCost 15 = some (.getfield 28) := by decide +kernel
theorem i_X5_figureCost_18 : ins MX5_figureCost 18 = some (.invokestatic 65) := by decide +kernel
theorem i_X5_figureCost_21 : ins MX5_figureCost 21 = some (.ireturn) := by decide +kernel
theorem i_X5_consider_0 : ins MX5_consider 0 = some (.aload_n 0) := by decide +kernel
theorem i_X5_consider_1 : ins MX5_consider 1 = some (.getfield 31) := by decide +kernel
theorem i_X5_consider_4 : ins MX5_consider 4 = some (.ifCond .eq 28) := by decide +kernel
theorem i_X5_consider_7 : ins MX5_consider 7 = some (.iload_n 2) := by decide +kernel
theorem i_X5_consider_8 : ins MX5_consider 8 = some (.aload_n 0) := by decide +kernel
theorem i_X5_consider_9 : ins MX5_consider 9 = some (.getfield 58) := by decide +kernel
theorem i_X5_consider_12 : ins MX5_consider 12 = some (.if_icmp .gt 19) := by decide +kernel
theorem i_X5_consider_15 : ins MX5_consider 15 = some (.iload_n 2) := by decide +kernel
theorem i_X5_consider_16 : ins MX5_consider 16 = some (.aload_n 0) := by decide +kernel
theorem i_X5_consider_17 : ins MX5_consider 17 = some (.getfield 58) := by decide +kernel
theorem i_X5_consider_20 : ins MX5_consider 20 = some (.if_icmp .ne 12) := by decide +kernel
theorem i_X5_consider_23 : ins MX5_consider 23 = some (.iload_n 1) := by decide +kernel
theorem i_X5_consider_24 : ins MX5_consider 24 = some (.aload_n 0) := by decide +kernel
theorem i_X5_consider_25 : ins MX5_consider 25 = some (.getfield 69) := by decide +kernel
theorem i_X5_consider_28 : ins MX5_consider 28 = some (.if_icmp .lt 4) := by decide +kernel
theorem i_X5_consider_31 : ins MX5_consider 31 = some (.return_) := by decide +kernel
theorem i_X5_consider_32 : ins MX5_consider 32 = some (.aload_n 0) := by decide +kernel
theorem i_X5_consider_33 : ins MX5_consider 33 = some (.iconst 1) := by decide +kernel
theorem i_X5_consider_34 : ins MX5_consider 34 = some (.putfield 31) := by decide +kernel
theorem i_X5_consider_37 : ins MX5_consider 37 = some (.aload_n 0) := by decide +kernel
theorem i_X5_consider_38 : ins MX5_consider 38 = some (.iload_n 2) := by decide +kernel
theorem i_X5_consider_39 : ins MX5_consider 39 = some (.putfield 58) := by decide +kernel
theorem i_X5_consider_42 : ins MX5_consider 42 = some (.aload_n 0) := by decide +kernel
theorem i_X5_consider_43 : ins MX5_consider 43 = some (.iload_n 1) := by decide +kernel
theorem i_X5_consider_44 : ins MX5_consider 44 = some (.putfield 69) := by decide +kernel
theorem i_X5_consider_47 : ins MX5_consider 47 = some (.aload_n 0) := by decide +kernel
theorem i_X5_consider_48 : ins MX5_consider 48 = some (.aload_n 0) := by decide +kernel
theorem i_X5_consider_49 : ins MX5_consider 49 = some (.getfield 35) := by decide +kernel
theorem i_X5_consider_52 : ins MX5_consider 52 = some (.putfield 72) := by decide +kernel
theorem i_X5_consider_55 : ins MX5_consider 55 = some (.aload_n 0) := by decide +kernel
theorem i_X5_consider_56 : ins MX5_consider 56 = some (.aload_n 0) := by decide +kernel
theorem i_X5_consider_57 : ins MX5_consider 57 = some (.getfield 38) := by decide +kernel
theorem i_X5_consider_60 : ins MX5_consider 60 = some (.putfield 75) := by decide +kernel
theorem i_X5_consider_63 : ins MX5_consider 63 = some (.iconst 0) := by decide +kernel
theorem i_X5_consider_64 : ins MX5_consider 64 = some (.istore_n 3) := by decide +kernel
theorem i_X5_consider_65 : ins MX5_consider 65 = some (.iload_n 3) := by decide +kernel
theorem i_X5_consider_66 : ins MX5_consider 66 = some (.aload_n 0) := by decide +kernel
theorem i_X5_consider_67 : ins MX5_consider 67 = some (.getfield 38) := by decide +kernel
theorem i_X5_consider_70 : ins MX5_consider 70 = some (.if_icmp .ge 21) := by decide +kernel
theorem i_X5_consider_73 : ins MX5_consider 73 = some (.aload_n 0) := by decide +kernel
theorem i_X5_consider_74 : ins MX5_consider 74 = some (.getfield 9) := by decide +kernel
theorem i_X5_consider_77 : ins MX5_consider 77 = some (.iload_n 3) := by decide +kernel
theorem i_X5_consider_78 : ins MX5_consider 78 = some (.aload_n 0) := by decide +kernel
theorem i_X5_consider_79 : ins MX5_consider 79 = some (.getfield 15) := by decide +kernel
theorem i_X5_consider_82 : ins MX5_consider 82 = some (.iload_n 3) := by decide +kernel
theorem i_X5_consider_83 : ins MX5_consider 83 = some (.iaload) := by decide +kernel
theorem i_X5_consider_84 : ins MX5_consider 84 = some (.iastore) := by decide +kernel
theorem i_X5_consider_85 : ins MX5_consider 85 = some (.iinc 3 1) := by decide +kernel
theorem i_X5_consider_88 : ins MX5_consider 88 = some (.goto (-23)) := by decide +kernel
theorem i_X5_consider_91 : ins MX5_consider 91 = some (.return_) := by decide +kernel
theorem i_X6_init_0 : ins MX6_init 0 = some (.aload_n 0) := by decide +kernel
theorem i_X6_init_1 : ins MX6_init 1 = some (.invokespecial 3) := by decide +kernel
theorem i_X6_init_4 : ins MX6_init 4 = some (.aload_n 0) := by decide +kernel
theorem i_X6_init_5 : ins MX6_init 5 = some (.bipush 64) := by decide +kernel
theorem i_X6_init_7 : ins MX6_init 7 = some (.newarray .int) := by decide +kernel
theorem i_X6_init_9 : ins MX6_init 9 = some (.putfield 9) := by decide +kernel
theorem i_X6_init_12 : ins MX6_init 12 = some (.iconst 0) := by decide +kernel
theorem i_X6_init_13 : ins MX6_init 13 = some (.istore_n 1) := by decide +kernel
theorem i_X6_init_14 : ins MX6_init 14 = some (.iload_n 1) := by decide +kernel
theorem i_X6_init_15 : ins MX6_init 15 = some (.bipush 64) := by decide +kernel
theorem i_X6_init_17 : ins MX6_init 17 = some (.if_icmp .ge 16) := by decide +kernel
theorem i_X6_init_20 : ins MX6_init 20 = some (.aload_n 0) := by decide +kernel
theorem i_X6_init_21 : ins MX6_init 21 = some (.getfield 9) := by decide +kernel
theorem i_X6_init_24 : ins MX6_init 24 = some (.iload_n 1) := by decide +kernel
theorem i_X6_init_25 : ins MX6_init 25 = some (.iconst (-1)) := by decide +kernel
theorem i_X6_init_26 : ins MX6_init 26 = some (.iastore) := by decide +kernel
theorem i_X6_init_27 : ins MX6_init 27 = some (.iinc 1 1) := by decide +kernel
theorem i_X6_init_30 : ins MX6_init 30 = some (.goto (-16)) := by decide +kernel
theorem i_X6_init_33 : ins MX6_init 33 = some (.aload_n 0) := by decide +kernel
theorem i_X6_init_34 : ins MX6_init 34 = some (.bipush 100) := by decide +kernel
theorem i_X6_init_36 : ins MX6_init 36 = some (.newarray .int) := by decide +kernel
theorem i_X6_init_38 : ins MX6_init 38 = some (.putfield 15) := by decide +kernel
theorem i_X6_init_41 : ins MX6_init 41 = some (.aload_n 0) := by decide +kernel
theorem i_X6_init_42 : ins MX6_init 42 = some (.bipush 100) := by decide +kernel
theorem i_X6_init_44 : ins MX6_init 44 = some (.newarray .int) := by decide +kernel
theorem i_X6_init_46 : ins MX6_init 46 = some (.putfield 18) := by decide +kernel
theorem i_X6_init_49 : ins MX6_init 49 = some (.aload_n 0) := by decide +kernel
theorem i_X6_init_50 : ins MX6_init 50 = some (.sipush 192) := by decide +kernel
theorem i_X6_init_53 : ins MX6_init 53 = some (.newarray .int) := by decide +kernel
theorem i_X6_init_55 : ins MX6_init 55 = some (.putfield 21) := by decide +kernel
theorem i_X6_init_58 : ins MX6_init 58 = some (.return_) := by decide +kernel
theorem i_X6_packed_0 : ins MX6_packed 0 = some (.iconst 0) := by decide +kernel
theorem i_X6_packed_1 : ins MX6_packed 1 = some (.iconst 0) := by decide +kernel
theorem i_X6_packed_2 : ins MX6_packed 2 = some (.iload_n 0) := by decide +kernel
theorem i_X6_packed_3 : ins MX6_packed 3 = some (.invokestatic 24) := by decide +kernel
theorem i_X6_packed_6 : ins MX6_packed 6 = some (.iconst 1) := by decide +kernel
theorem i_X6_packed_7 : ins MX6_packed 7 = some (.iload_n 1) := by decide +kernel
theorem i_X6_packed_8 : ins MX6_packed 8 = some (.invokestatic 24) := by decide +kernel
theorem i_X6_packed_11 : ins MX6_packed 11 = some (.iconst 2) := by decide +kernel
theorem i_X6_packed_12 : ins MX6_packed 12 = some (.iload_n 2) := by decide +kernel
theorem i_X6_packed_13 : ins MX6_packed 13 = some (.invokestatic 24) := by decide +kernel
theorem i_X6_packed_16 : ins MX6_packed 16 = some (.iconst 3) := by decide +kernel
theorem i_X6_packed_17 : ins MX6_packed 17 = some (.iload_n 3) := by decide +kernel
theorem i_X6_packed_18 : ins MX6_packed 18 = some (.invokestatic 24) := by decide +kernel
theorem i_X6_packed_21 : ins MX6_packed 21 = some (.ireturn) := by decide +kernel
theorem i_X6_altered_0 : ins MX6_altered 0 = some (.bipush 8) := by decide +kernel
theorem i_X6_altered_2 : ins MX6_altered 2 = some (.iload_n 1) := by decide +kernel
theorem i_X6_altered_3 : ins MX6_altered 3 = some (.imul) := by decide +kernel
theorem i_X6_altered_4 : ins MX6_altered 4 = some (.istore_n 3) := by decide +kernel
theorem i_X6_altered_5 : ins MX6_altered 5 = some (.iload_n 0) := by decide +kernel
theorem i_X6_altered_6 : ins MX6_altered 6 = some (.sipush 255) := by decide +kernel
theorem i_X6_altered_9 : ins MX6_altered 9 = some (.iload_n 3) := by decide +kernel
theorem i_X6_altered_10 : ins MX6_altered 10 = some (.ishl) := by decide +kernel
theorem i_X6_altered_11 : ins MX6_altered 11 = some (.iconst (-1)) := by decide +kernel
theorem i_X6_altered_12 : ins MX6_altered 12 = some (.ixor) := by decide +kernel
theorem i_X6_altered_13 : ins MX6_altered 13 = some (.iand) := by decide +kernel
theorem i_X6_altered_14 : ins MX6_altered 14 = some (.iload_n 2) := by decide +kernel
theorem i_X6_altered_15 : ins MX6_altered 15 = some (.iload_n 3) := by decide +kernel
theorem i_X6_altered_16 : ins MX6_altered 16 = some (.ishl) := by decide +kernel
theorem i_X6_altered_17 : ins MX6_altered 17 = some (.ior) := by decide +kernel
theorem i_X6_altered_18 : ins MX6_altered 18 = some (.ireturn) := by decide +kernel
theorem i_X6_hasRow_0 : ins MX6_hasRow 0 = some (.iload_n 1) := by decide +kernel
theorem i_X6_hasRow_1 : ins MX6_hasRow 1 = some (.ifCond .lt 23) := by decide +kernel
theorem i_X6_hasRow_4 : ins MX6_hasRow 4 = some (.iload_n 1) := by decide +kernel
theorem i_X6_hasRow_5 : ins MX6_hasRow 5 = some (.bipush 64) := by decide +kernel
theorem i_X6_hasRow_7 : ins MX6_hasRow 7 = some (.if_icmp .ge 17) := by decide +kernel
theorem i_X6_hasRow_10 : ins MX6_hasRow 10 = some (.aload_n 0) := by decide +kernel
theorem i_X6_hasRow_11 : ins MX6_hasRow 11 = some (.getfield 9) := by decide +kernel
theorem i_X6_hasRow_14 : ins MX6_hasRow 14 = some (.iload_n 1) := by decide +kernel
theorem i_X6_hasRow_15 : ins MX6_hasRow 15 = some (.iaload) := by decide +kernel
theorem i_X6_hasRow_16 : ins MX6_hasRow 16 = some (.iconst (-1)) := by decide +kernel
theorem i_X6_hasRow_17 : ins MX6_hasRow 17 = some (.if_icmp .eq 7) := by decide +kernel
theorem i_X6_hasRow_20 : ins MX6_hasRow 20 = some (.iconst 1) := by decide +kernel
theorem i_X6_hasRow_21 : ins MX6_hasRow 21 = some (.goto 4) := by decide +kernel
theorem i_X6_hasRow_24 : ins MX6_hasRow 24 = some (.iconst 0) := by decide +kernel
theorem i_X6_hasRow_25 : ins MX6_hasRow 25 = some (.ireturn) := by decide +kernel
theorem i_X6_number_0 : ins MX6_number 0 = some (.aload_n 0) := by decide +kernel
theorem i_X6_number_1 : ins MX6_number 1 = some (.iload_n 1) := by decide +kernel
theorem i_X6_number_2 : ins MX6_number 2 = some (.invokevirtual 28) := by decide +kernel
theorem i_X6_number_5 : ins MX6_number 5 = some (.ifCond .eq 21) := by decide +kernel
theorem i_X6_number_8 : ins MX6_number 8 = some (.aload_n 0) := by decide +kernel
theorem i_X6_number_9 : ins MX6_number 9 = some (.getfield 9) := by decide +kernel
theorem i_X6_number_12 : ins MX6_number 12 = some (.iload_n 1) := by decide +kernel
theorem i_X6_number_13 : ins MX6_number 13 = some (.iaload) := by decide +kernel
theorem i_X6_number_14 : ins MX6_number 14 = some (.bipush 8) := by decide +kernel
theorem i_X6_number_16 : ins MX6_number 16 = some (.iload_n 2) := by decide +kernel
theorem i_X6_number_17 : ins MX6_number 17 = some (.imul) := by decide +kernel
theorem i_X6_number_18 : ins MX6_number 18 = some (.ishr) := by decide +kernel
theorem i_X6_number_19 : ins MX6_number 19 = some (.sipush 255) := by decide +kernel
theorem i_X6_number_22 : ins MX6_number 22 = some (.iand) := by decide +kernel
theorem i_X6_number_23 : ins MX6_number 23 = some (.goto 4) := by decide +kernel
theorem i_X6_number_26 : ins MX6_number 26 = some (.iconst (-1)) := by decide +kernel
theorem i_X6_number_27 : ins MX6_number 27 = some (.ireturn) := by decide +kernel
theorem i_X6_rowCount_0 : ins MX6_rowCount 0 = some (.aload_n 0) := by decide +kernel
theorem i_X6_rowCount_1 : ins MX6_rowCount 1 = some (.getfield 32) := by decide +kernel
theorem i_X6_rowCount_4 : ins MX6_rowCount 4 = some (.ireturn) := by decide +kernel
theorem i_X6_changesKept_0 : ins MX6_changesKept 0 = some (.aload_n 0) := by decide +kernel
theorem i_X6_changesKept_1 : ins MX6_changesKept 1 = some (.getfield 36) := by decide +kernel
theorem i_X6_changesKept_4 : ins MX6_changesKept 4 = some (.ireturn) := by decide +kernel
theorem i_X6_markCount_0 : ins MX6_markCount 0 = some (.aload_n 0) := by decide +kernel
theorem i_X6_markCount_1 : ins MX6_markCount 1 = some (.getfield 39) := by decide +kernel
theorem i_X6_markCount_4 : ins MX6_markCount 4 = some (.ireturn) := by decide +kernel
theorem i_X6_leastEmpty_0 : ins MX6_leastEmpty 0 = some (.iconst 0) := by decide +kernel
theorem i_X6_leastEmpty_1 : ins MX6_leastEmpty 1 = some (.istore_n 1) := by decide +kernel
theorem i_X6_leastEmpty_2 : ins MX6_leastEmpty 2 = some (.iload_n 1) := by decide +kernel
theorem i_X6_leastEmpty_3 : ins MX6_leastEmpty 3 = some (.bipush 64) := by decide +kernel
theorem i_X6_leastEmpty_5 : ins MX6_leastEmpty 5 = some (.if_icmp .ge 19) := by decide +kernel
theorem i_X6_leastEmpty_8 : ins MX6_leastEmpty 8 = some (.aload_n 0) := by decide +kernel
theorem i_X6_leastEmpty_9 : ins MX6_leastEmpty 9 = some (.iload_n 1) := by decide +kernel
theorem i_X6_leastEmpty_10 : ins MX6_leastEmpty 10 = some (.invokevirtual 28) := by decide +kernel
theorem i_X6_leastEmpty_13 : ins MX6_leastEmpty 13 = some (.ifCond .ne 5) := by decide +kernel
theorem i_X6_leastEmpty_16 : ins MX6_leastEmpty 16 = some (.iload_n 1) := by decide +kernel
theorem i_X6_leastEmpty_17 : ins MX6_leastEmpty 17 = some (.ireturn) := by decide +kernel
theorem i_X6_leastEmpty_18 : ins MX6_leastEmpty 18 = some (.iinc 1 1) := by decide +kernel
theorem i_X6_leastEmpty_21 : ins MX6_leastEmpty 21 = some (.goto (-19)) := by decide +kernel
theorem i_X6_leastEmpty_24 : ins MX6_leastEmpty 24 = some (.iconst (-1)) := by decide +kernel
theorem i_X6_leastEmpty_25 : ins MX6_leastEmpty 25 = some (.ireturn) := by decide +kernel
theorem i_X6_linesWithRow_0 : ins MX6_linesWithRow 0 = some (.lconst 0) := by decide +kernel
theorem i_X6_linesWithRow_1 : ins MX6_linesWithRow 1 = some (.lstore_n 1) := by decide +kernel
theorem i_X6_linesWithRow_2 : ins MX6_linesWithRow 2 = some (.iconst 0) := by decide +kernel
theorem i_X6_linesWithRow_3 : ins MX6_linesWithRow 3 = some (.istore_n 3) := by decide +kernel
theorem i_X6_linesWithRow_4 : ins MX6_linesWithRow 4 = some (.iload_n 3) := by decide +kernel
theorem i_X6_linesWithRow_5 : ins MX6_linesWithRow 5 = some (.bipush 64) := by decide +kernel
theorem i_X6_linesWithRow_7 : ins MX6_linesWithRow 7 = some (.if_icmp .ge 23) := by decide +kernel
theorem i_X6_linesWithRow_10 : ins MX6_linesWithRow 10 = some (.aload_n 0) := by decide +kernel
theorem i_X6_linesWithRow_11 : ins MX6_linesWithRow 11 = some (.iload_n 3) := by decide +kernel
theorem i_X6_linesWithRow_12 : ins MX6_linesWithRow 12 = some (.invokevirtual 28) := by decide +kernel
theorem i_X6_linesWithRow_15 : ins MX6_linesWithRow 15 = some (.ifCond .eq 9) := by decide +kernel
theorem i_X6_linesWithRow_18 : ins MX6_linesWithRow 18 = some (.lload_n 1) := by decide +kernel
theorem i_X6_linesWithRow_19 : ins MX6_linesWithRow 19 = some (.lconst 1) := by decide +kernel
theorem i_X6_linesWithRow_20 : ins MX6_linesWithRow 20 = some (.iload_n 3) := by decide +kernel
theorem i_X6_linesWithRow_21 : ins MX6_linesWithRow 21 = some (.lshl) := by decide +kernel
theorem i_X6_linesWithRow_22 : ins MX6_linesWithRow 22 = some (.lor) := by decide +kernel
theorem i_X6_linesWithRow_23 : ins MX6_linesWithRow 23 = some (.lstore_n 1) := by decide +kernel
theorem i_X6_linesWithRow_24 : ins MX6_linesWithRow 24 = some (.iinc 3 1) := by decide +kernel
theorem i_X6_linesWithRow_27 : ins MX6_linesWithRow 27 = some (.goto (-23)) := by decide +kernel
theorem i_X6_linesWithRow_30 : ins MX6_linesWithRow 30 = some (.lload_n 1) := by decide +kernel
theorem i_X6_linesWithRow_31 : ins MX6_linesWithRow 31 = some (.lreturn) := by decide +kernel
theorem i_X6_linesWith_0 : ins MX6_linesWith 0 = some (.lconst 0) := by decide +kernel
theorem i_X6_linesWith_1 : ins MX6_linesWith 1 = some (.lstore_n 3) := by decide +kernel
theorem i_X6_linesWith_2 : ins MX6_linesWith 2 = some (.iconst 0) := by decide +kernel
theorem i_X6_linesWith_3 : ins MX6_linesWith 3 = some (.istore 5) := by decide +kernel
theorem i_X6_linesWith_5 : ins MX6_linesWith 5 = some (.iload 5) := by decide +kernel
theorem i_X6_linesWith_7 : ins MX6_linesWith 7 = some (.bipush 64) := by decide +kernel
theorem i_X6_linesWith_9 : ins MX6_linesWith 9 = some (.if_icmp .ge 36) := by decide +kernel
theorem i_X6_linesWith_12 : ins MX6_linesWith 12 = some (.aload_n 0) := by decide +kernel
theorem i_X6_linesWith_13 : ins MX6_linesWith 13 = some (.iload 5) := by decide +kernel
theorem i_X6_linesWith_15 : ins MX6_linesWith 15 = some (.invokevirtual 28) := by decide +kernel
theorem i_X6_linesWith_18 : ins MX6_linesWith 18 = some (.ifCond .eq 21) := by decide +kernel
theorem i_X6_linesWith_21 : ins MX6_linesWith 21 = some (.aload_n 0) := by decide +kernel
theorem i_X6_linesWith_22 : ins MX6_linesWith 22 = some (.iload 5) := by decide +kernel
theorem i_X6_linesWith_24 : ins MX6_linesWith 24 = some (.iload_n 1) := by decide +kernel
theorem i_X6_linesWith_25 : ins MX6_linesWith 25 = some (.invokevirtual 42) := by decide +kernel
theorem i_X6_linesWith_28 : ins MX6_linesWith 28 = some (.iload_n 2) := by decide +kernel
theorem i_X6_linesWith_29 : ins MX6_linesWith 29 = some (.if_icmp .ne 10) := by decide +kernel
theorem i_X6_linesWith_32 : ins MX6_linesWith 32 = some (.lload_n 3) := by decide +kernel
theorem i_X6_linesWith_33 : ins MX6_linesWith 33 = some (.lconst 1) := by decide +kernel
theorem i_X6_linesWith_34 : ins MX6_linesWith 34 = some (.iload 5) := by decide +kernel
theorem i_X6_linesWith_36 : ins MX6_linesWith 36 = some (.lshl) := by decide +kernel
theorem i_X6_linesWith_37 : ins MX6_linesWith 37 = some (.lor) := by decide +kernel
theorem i_X6_linesWith_38 : ins MX6_linesWith 38 = some (.lstore_n 3) := by decide +kernel
theorem i_X6_linesWith_39 : ins MX6_linesWith 39 = some (.iinc 5 1) := by decide +kernel
theorem i_X6_linesWith_42 : ins MX6_linesWith 42 = some (.goto (-37)) := by decide +kernel
theorem i_X6_linesWith_45 : ins MX6_linesWith 45 = some (.lload_n 3) := by decide +kernel
theorem i_X6_linesWith_46 : ins MX6_linesWith 46 = some (.lreturn) := by decide +kernel
theorem i_X6_linesBelow_0 : ins MX6_linesBelow 0 = some (.lconst 0) := by decide +kernel
theorem i_X6_linesBelow_1 : ins MX6_linesBelow 1 = some (.lstore_n 3) := by decide +kernel
theorem i_X6_linesBelow_2 : ins MX6_linesBelow 2 = some (.iconst 0) := by decide +kernel
theorem i_X6_linesBelow_3 : ins MX6_linesBelow 3 = some (.istore 5) := by decide +kernel
theorem i_X6_linesBelow_5 : ins MX6_linesBelow 5 = some (.iload 5) := by decide +kernel
theorem i_X6_linesBelow_7 : ins MX6_linesBelow 7 = some (.bipush 64) := by decide +kernel
theorem i_X6_linesBelow_9 : ins MX6_linesBelow 9 = some (.if_icmp .ge 36) := by decide +kernel
theorem i_X6_linesBelow_12 : ins MX6_linesBelow 12 = some (.aload_n 0) := by decide +kernel
theorem i_X6_linesBelow_13 : ins MX6_linesBelow 13 = some (.iload 5) := by decide +kernel
theorem i_X6_linesBelow_15 : ins MX6_linesBelow 15 = some (.invokevirtual 28) := by decide +kernel
theorem i_X6_linesBelow_18 : ins MX6_linesBelow 18 = some (.ifCond .eq 21) := by decide +kernel
theorem i_X6_linesBelow_21 : ins MX6_linesBelow 21 = some (.aload_n 0) := by decide +kernel
theorem i_X6_linesBelow_22 : ins MX6_linesBelow 22 = some (.iload 5) := by decide +kernel
theorem i_X6_linesBelow_24 : ins MX6_linesBelow 24 = some (.iload_n 1) := by decide +kernel
theorem i_X6_linesBelow_25 : ins MX6_linesBelow 25 = some (.invokevirtual 42) := by decide +kernel
theorem i_X6_linesBelow_28 : ins MX6_linesBelow 28 = some (.iload_n 2) := by decide +kernel
theorem i_X6_linesBelow_29 : ins MX6_linesBelow 29 = some (.if_icmp .ge 10) := by decide +kernel
theorem i_X6_linesBelow_32 : ins MX6_linesBelow 32 = some (.lload_n 3) := by decide +kernel
theorem i_X6_linesBelow_33 : ins MX6_linesBelow 33 = some (.lconst 1) := by decide +kernel
theorem i_X6_linesBelow_34 : ins MX6_linesBelow 34 = some (.iload 5) := by decide +kernel
theorem i_X6_linesBelow_36 : ins MX6_linesBelow 36 = some (.lshl) := by decide +kernel
theorem i_X6_linesBelow_37 : ins MX6_linesBelow 37 = some (.lor) := by decide +kernel
theorem i_X6_linesBelow_38 : ins MX6_linesBelow 38 = some (.lstore_n 3) := by decide +kernel
theorem i_X6_linesBelow_39 : ins MX6_linesBelow 39 = some (.iinc 5 1) := by decide +kernel
theorem i_X6_linesBelow_42 : ins MX6_linesBelow 42 = some (.goto (-37)) := by decide +kernel
theorem i_X6_linesBelow_45 : ins MX6_linesBelow 45 = some (.lload_n 3) := by decide +kernel
theorem i_X6_linesBelow_46 : ins MX6_linesBelow 46 = some (.lreturn) := by decide +kernel
theorem i_X6_change_0 : ins MX6_change 0 = some (.aload_n 0) := by decide +kernel
theorem i_X6_change_1 : ins MX6_change 1 = some (.getfield 15) := by decide +kernel
theorem i_X6_change_4 : ins MX6_change 4 = some (.aload_n 0) := by decide +kernel
theorem i_X6_change_5 : ins MX6_change 5 = some (.getfield 46) := by decide +kernel
theorem i_X6_change_8 : ins MX6_change 8 = some (.iload_n 1) := by decide +kernel
theorem i_X6_change_9 : ins MX6_change 9 = some (.iastore) := by decide +kernel
theorem i_X6_change_10 : ins MX6_change 10 = some (.aload_n 0) := by decide +kernel
theorem i_X6_change_11 : ins MX6_change 11 = some (.getfield 18) := by decide +kernel
theorem i_X6_change_14 : ins MX6_change 14 = some (.aload_n 0) := by decide +kernel
theorem i_X6_change_15 : ins MX6_change 15 = some (.getfield 46) := by decide +kernel
theorem i_X6_change_18 : ins MX6_change 18 = some (.aload_n 0) := by decide +kernel
theorem i_X6_change_19 : ins MX6_change 19 = some (.getfield 9) := by decide +kernel
theorem i_X6_change_22 : ins MX6_change 22 = some (.iload_n 1) := by decide +kernel
theorem i_X6_change_23 : ins MX6_change 23 = some (.iaload) := by decide +kernel
theorem i_X6_change_24 : ins MX6_change 24 = some (.iastore) := by decide +kernel
theorem i_X6_change_25 : ins MX6_change 25 = some (.aload_n 0) := by decide +kernel
theorem i_X6_change_26 : ins MX6_change 26 = some (.aload_n 0) := by decide +kernel
theorem i_X6_change_27 : ins MX6_change 27 = some (.getfield 46) := by decide +kernel
theorem i_X6_change_30 : ins MX6_change 30 = some (.iconst 1) := by decide +kernel
theorem i_X6_change_31 : ins MX6_change 31 = some (.iadd) := by decide +kernel
theorem i_X6_change_32 : ins MX6_change 32 = some (.bipush 100) := by decide +kernel
theorem i_X6_change_34 : ins MX6_change 34 = some (.if_icmp .ge 12) := by decide +kernel
theorem i_X6_change_37 : ins MX6_change 37 = some (.aload_n 0) := by decide +kernel
theorem i_X6_change_38 : ins MX6_change 38 = some (.getfield 46) := by decide +kernel
theorem i_X6_change_41 : ins MX6_change 41 = some (.iconst 1) := by decide +kernel
theorem i_X6_change_42 : ins MX6_change 42 = some (.iadd) := by decide +kernel
theorem i_X6_change_43 : ins MX6_change 43 = some (.goto 4) := by decide +kernel
theorem i_X6_change_46 : ins MX6_change 46 = some (.iconst 0) := by decide +kernel
theorem i_X6_change_47 : ins MX6_change 47 = some (.putfield 46) := by decide +kernel
theorem i_X6_change_50 : ins MX6_change 50 = some (.aload_n 0) := by decide +kernel
theorem i_X6_change_51 : ins MX6_change 51 = some (.aload_n 0) := by decide +kernel
theorem i_X6_change_52 : ins MX6_change 52 = some (.getfield 36) := by decide +kernel
theorem i_X6_change_55 : ins MX6_change 55 = some (.iconst 1) := by decide +kernel
theorem i_X6_change_56 : ins MX6_change 56 = some (.iadd) := by decide +kernel
theorem i_X6_change_57 : ins MX6_change 57 = some (.bipush 100) := by decide +kernel
theorem i_X6_change_59 : ins MX6_change 59 = some (.invokestatic 49) := by decide +kernel
theorem i_X6_change_62 : ins MX6_change 62 = some (.putfield 36) := by decide +kernel
theorem i_X6_change_65 : ins MX6_change 65 = some (.aload_n 0) := by decide +kernel
theorem i_X6_change_66 : ins MX6_change 66 = some (.iload_n 1) := by decide +kernel
theorem i_X6_change_67 : ins MX6_change 67 = some (.iload_n 2) := by decide +kernel
theorem i_X6_change_68 : ins MX6_change 68 = some (.invokevirtual 54) := by decide +kernel
theorem i_X6_change_71 : ins MX6_change 71 = some (.return_) := by decide +kernel
theorem i_X6_changeNumber_0 : ins MX6_changeNumber 0 = some (.aload_n 0) := by decide +kernel
theorem i_X6_changeNumber_1 : ins MX6_changeNumber 1 = some (.iload_n 1) := by decide +kernel
theorem i_X6_changeNumber_2 : ins MX6_changeNumber 2 = some (.invokevirtual 28) := by decide +kernel
theorem i_X6_changeNumber_5 : ins MX6_changeNumber 5 = some (.ifCond .eq 19) := by decide +kernel
theorem i_X6_changeNumber_8 : ins MX6_changeNumber 8 = some (.aload_n 0) := by decide +kernel
theorem i_X6_changeNumber_9 : ins MX6_changeNumber 9 = some (.iload_n 1) := by decide +kernel
theorem i_X6_changeNumber_10 : ins MX6_changeNumber 10 = some (.aload_n 0) := by decide +kernel
theorem i_X6_changeNumber_11 : ins MX6_changeNumber 11 = some (.getfield 9) := by decide +kernel
theorem i_X6_changeNumber_14 : ins MX6_changeNumber 14 = some (.iload_n 1) := by decide +kernel
theorem i_X6_changeNumber_15 : ins MX6_changeNumber 15 = some (.iaload) := by decide +kernel
theorem i_X6_changeNumber_16 : ins MX6_changeNumber 16 = some (.iload_n 2) := by decide +kernel
theorem i_X6_changeNumber_17 : ins MX6_changeNumber 17 = some (.iload_n 3) := by decide +kernel
theorem i_X6_changeNumber_18 : ins MX6_changeNumber 18 = some (.invokestatic 24) := by decide +kernel
theorem i_X6_changeNumber_21 : ins MX6_changeNumber 21 = some (.invokevirtual 58) := by decide +kernel
theorem i_X6_changeNumber_24 : ins MX6_changeNumber 24 = some (.return_) := by decide +kernel
theorem i_X6_undoLatest_0 : ins MX6_undoLatest 0 = some (.aload_n 0) := by decide +kernel
theorem i_X6_undoLatest_1 : ins MX6_undoLatest 1 = some (.getfield 36) := by decide +kernel
theorem i_X6_undoLatest_4 : ins MX6_undoLatest 4 = some (.ifCond .ne 5) := by decide +kernel
theorem i_X6_undoLatest_7 : ins MX6_undoLatest 7 = some (.iconst 0) := by decide +kernel
theorem i_X6_undoLatest_8 : ins MX6_undoLatest 8 = some (.ireturn) := by decide +kernel
theorem i_X6_undoLatest_9 : ins MX6_undoLatest 9 = some (.aload_n 0) := by decide +kernel
theorem i_X6_undoLatest_10 : ins MX6_undoLatest 10 = some (.aload_n 0) := by decide +kernel
theorem i_X6_undoLatest_11 : ins MX6_undoLatest 11 = some (.getfield 46) := by decide +kernel
theorem i_X6_undoLatest_14 : ins MX6_undoLatest 14 = some (.ifCond .le 12) := by decide +kernel
theorem i_X6_undoLatest_17 : ins MX6_undoLatest 17 = some (.aload_n 0) := by decide +kernel
theorem i_X6_undoLatest_18 : ins MX6_undoLatest 18 = some (.getfield 46) := by decide +kernel
theorem i_X6_undoLatest_21 : ins MX6_undoLatest 21 = some (.iconst 1) := by decide +kernel
theorem i_X6_undoLatest_22 : ins MX6_undoLatest 22 = some (.isub) := by decide +kernel
theorem i_X6_undoLatest_23 : ins MX6_undoLatest 23 = some (.goto 5) := by decide +kernel
theorem i_X6_undoLatest_26 : ins MX6_undoLatest 26 = some (.bipush 99) := by decide +kernel
theorem i_X6_undoLatest_28 : ins MX6_undoLatest 28 = some (.putfield 46) := by decide +kernel
theorem i_X6_undoLatest_31 : ins MX6_undoLatest 31 = some (.aload_n 0) := by decide +kernel
theorem i_X6_undoLatest_32 : ins MX6_undoLatest 32 = some (.dup) := by decide +kernel
theorem i_X6_undoLatest_33 : ins MX6_undoLatest 33 = some (.getfield 36) := by decide +kernel
theorem i_X6_undoLatest_36 : ins MX6_undoLatest 36 = some (.iconst 1) := by decide +kernel
theorem i_X6_undoLatest_37 : ins MX6_undoLatest 37 = some (.isub) := by decide +kernel
theorem i_X6_undoLatest_38 : ins MX6_undoLatest 38 = some (.putfield 36) := by decide +kernel
theorem i_X6_undoLatest_41 : ins MX6_undoLatest 41 = some (.aload_n 0) := by decide +kernel
theorem i_X6_undoLatest_42 : ins MX6_undoLatest 42 = some (.aload_n 0) := by decide +kernel
theorem i_X6_undoLatest_43 : ins MX6_undoLatest 43 = some (.getfield 15) := by decide +kernel
theorem i_X6_undoLatest_46 : ins MX6_undoLatest 46 = some (.aload_n 0) := by decide +kernel
theorem i_X6_undoLatest_47 : ins MX6_undoLatest 47 = some (.getfield 46) := by decide +kernel
theorem i_X6_undoLatest_50 : ins MX6_undoLatest 50 = some (.iaload) := by decide +kernel
theorem i_X6_undoLatest_51 : ins MX6_undoLatest 51 = some (.aload_n 0) := by decide +kernel
theorem i_X6_undoLatest_52 : ins MX6_undoLatest 52 = some (.getfield 18) := by decide +kernel
theorem i_X6_undoLatest_55 : ins MX6_undoLatest 55 = some (.aload_n 0) := by decide +kernel
theorem i_X6_undoLatest_56 : ins MX6_undoLatest 56 = some (.getfield 46) := by decide +kernel
theorem i_X6_undoLatest_59 : ins MX6_undoLatest 59 = some (.iaload) := by decide +kernel
theorem i_X6_undoLatest_60 : ins MX6_undoLatest 60 = some (.invokevirtual 54) := by decide +kernel
theorem i_X6_undoLatest_63 : ins MX6_undoLatest 63 = some (.iconst 1) := by decide +kernel
theorem i_X6_undoLatest_64 : ins MX6_undoLatest 64 = some (.ireturn) := by decide +kernel
theorem i_X6_forgetChanges_0 : ins MX6_forgetChanges 0 = some (.aload_n 0) := by decide +kernel
theorem i_X6_forgetChanges_1 : ins MX6_forgetChanges 1 = some (.iconst 0) := by decide +kernel
theorem i_X6_forgetChanges_2 : ins MX6_forgetChanges 2 = some (.putfield 36) := by decide +kernel
theorem i_X6_forgetChanges_5 : ins MX6_forgetChanges 5 = some (.return_) := by decide +kernel
theorem i_X6_keepMark_0 : ins MX6_keepMark 0 = some (.aload_n 0) := by decide +kernel
theorem i_X6_keepMark_1 : ins MX6_keepMark 1 = some (.getfield 39) := by decide +kernel
theorem i_X6_keepMark_4 : ins MX6_keepMark 4 = some (.iconst 3) := by decide +kernel
theorem i_X6_keepMark_5 : ins MX6_keepMark 5 = some (.if_icmp .lt 5) := by decide +kernel
theorem i_X6_keepMark_8 : ins MX6_keepMark 8 = some (.iconst 0) := by decide +kernel
theorem i_X6_keepMark_9 : ins MX6_keepMark 9 = some (.ireturn) := by decide +kernel
theorem i_X6_keepMark_10 : ins MX6_keepMark 10 = some (.iconst 0) := by decide +kernel
theorem i_X6_keepMark_11 : ins MX6_keepMark 11 = some (.istore_n 1) := by decide +kernel
theorem i_X6_keepMark_12 : ins MX6_keepMark 12 = some (.iload_n 1) := by decide +kernel
theorem i_X6_keepMark_13 : ins MX6_keepMark 13 = some (.bipush 64) := by decide +kernel
theorem i_X6_keepMark_15 : ins MX6_keepMark 15 = some (.if_icmp .ge 29) := by decide +kernel
theorem i_X6_keepMark_18 : ins MX6_keepMark 18 = some (.aload_n 0) := by decide +kernel
theorem i_X6_keepMark_19 : ins MX6_keepMark 19 = some (.getfield 21) := by decide +kernel
theorem i_X6_keepMark_22 : ins MX6_keepMark 22 = some (.aload_n 0) := by decide +kernel
theorem i_X6_keepMark_23 : ins MX6_keepMark 23 = some (.getfield 39) := by decide +kernel
theorem i_X6_keepMark_26 : ins MX6_keepMark 26 = some (.bipush 64) := by decide +kernel
theorem i_X6_keepMark_28 : ins MX6_keepMark 28 = some (.imul) := by decide +kernel
theorem i_X6_keepMark_29 : ins MX6_keepMark 29 = some (.iload_n 1) := by decide +kernel
theorem i_X6_keepMark_30 : ins MX6_keepMark 30 = some (.iadd) := by decide +kernel
theorem i_X6_keepMark_31 : ins MX6_keepMark 31 = some (.aload_n 0) := by decide +kernel
theorem i_X6_keepMark_32 : ins MX6_keepMark 32 = some (.getfield 9) := by decide +kernel
theorem i_X6_keepMark_35 : ins MX6_keepMark 35 = some (.iload_n 1) := by decide +kernel
theorem i_X6_keepMark_36 : ins MX6_keepMark 36 = some (.iaload) := by decide +kernel
theorem i_X6_keepMark_37 : ins MX6_keepMark 37 = some (.iastore) := by decide +kernel
theorem i_X6_keepMark_38 : ins MX6_keepMark 38 = some (.iinc 1 1) := by decide +kernel
theorem i_X6_keepMark_41 : ins MX6_keepMark 41 = some (.goto (-29)) := by decide +kernel
theorem i_X6_keepMark_44 : ins MX6_keepMark 44 = some (.aload_n 0) := by decide +kernel
theorem i_X6_keepMark_45 : ins MX6_keepMark 45 = some (.dup) := by decide +kernel
theorem i_X6_keepMark_46 : ins MX6_keepMark 46 = some (.getfield 39) := by decide +kernel
theorem i_X6_keepMark_49 : ins MX6_keepMark 49 = some (.iconst 1) := by decide +kernel
theorem i_X6_keepMark_50 : ins MX6_keepMark 50 = some (.iadd) := by decide +kernel
theorem i_X6_keepMark_51 : ins MX6_keepMark 51 = some (.putfield 39) := by decide +kernel
theorem i_X6_keepMark_54 : ins MX6_keepMark 54 = some (.iconst 1) := by decide +kernel
theorem i_X6_keepMark_55 : ins MX6_keepMark 55 = some (.ireturn) := by decide +kernel
theorem i_X6_returnTo_0 : ins MX6_returnTo 0 = some (.iload_n 1) := by decide +kernel
theorem i_X6_returnTo_1 : ins MX6_returnTo 1 = some (.ifCond .lt 11) := by decide +kernel
theorem i_X6_returnTo_4 : ins MX6_returnTo 4 = some (.iload_n 1) := by decide +kernel
theorem i_X6_returnTo_5 : ins MX6_returnTo 5 = some (.aload_n 0) := by decide +kernel
theorem i_X6_returnTo_6 : ins MX6_returnTo 6 = some (.getfield 39) := by decide +kernel
theorem i_X6_returnTo_9 : ins MX6_returnTo 9 = some (.if_icmp .lt 5) := by decide +kernel
theorem i_X6_returnTo_12 : ins MX6_returnTo 12 = some (.iconst 0) := by decide +kernel
theorem i_X6_returnTo_13 : ins MX6_returnTo 13 = some (.ireturn) := by decide +kernel
theorem i_X6_returnTo_14 : ins MX6_returnTo 14 = some (.iconst 0) := by decide +kernel
theorem i_X6_returnTo_15 : ins MX6_returnTo 15 = some (.istore_n 2) := by decide +kernel
theorem i_X6_returnTo_16 : ins MX6_returnTo 16 = some (.iload_n 2) := by decide +kernel
theorem i_X6_returnTo_17 : ins MX6_returnTo 17 = some (.bipush 64) := by decide +kernel
theorem i_X6_returnTo_19 : ins MX6_returnTo 19 = some (.if_icmp .ge 25) := by decide +kernel
theorem i_X6_returnTo_22 : ins MX6_returnTo 22 = some (.aload_n 0) := by decide +kernel
theorem i_X6_returnTo_23 : ins MX6_returnTo 23 = some (.iload_n 2) := by decide +kernel
theorem i_X6_returnTo_24 : ins MX6_returnTo 24 = some (.aload_n 0) := by decide +kernel
theorem i_X6_returnTo_25 : ins MX6_returnTo 25 = some (.getfield 21) := by decide +kernel
theorem i_X6_returnTo_28 : ins MX6_returnTo 28 = some (.iload_n 1) := by decide +kernel
theorem i_X6_returnTo_29 : ins MX6_returnTo 29 = some (.bipush 64) := by decide +kernel
theorem i_X6_returnTo_31 : ins MX6_returnTo 31 = some (.imul) := by decide +kernel
theorem i_X6_returnTo_32 : ins MX6_returnTo 32 = some (.iload_n 2) := by decide +kernel
theorem i_X6_returnTo_33 : ins MX6_returnTo 33 = some (.iadd) := by decide +kernel
theorem i_X6_returnTo_34 : ins MX6_returnTo 34 = some (.iaload) := by decide +kernel
theorem i_X6_returnTo_35 : ins MX6_returnTo 35 = some (.invokevirtual 54) := by decide +kernel
theorem i_X6_returnTo_38 : ins MX6_returnTo 38 = some (.iinc 2 1) := by decide +kernel
theorem i_X6_returnTo_41 : ins MX6_returnTo 41 = some (.goto (-25)) := by decide +kernel
theorem i_X6_returnTo_44 : ins MX6_returnTo 44 = some (.aload_n 0) := by decide +kernel
theorem i_X6_returnTo_45 : ins MX6_returnTo 45 = some (.iload_n 1) := by decide +kernel
theorem i_X6_returnTo_46 : ins MX6_returnTo 46 = some (.iconst 1) := by decide +kernel
theorem i_X6_returnTo_47 : ins MX6_returnTo 47 = some (.iadd) := by decide +kernel
theorem i_X6_returnTo_48 : ins MX6_returnTo 48 = some (.putfield 39) := by decide +kernel
theorem i_X6_returnTo_51 : ins MX6_returnTo 51 = some (.aload_n 0) := by decide +kernel
theorem i_X6_returnTo_52 : ins MX6_returnTo 52 = some (.invokevirtual 61) := by decide +kernel
theorem i_X6_returnTo_55 : ins MX6_returnTo 55 = some (.iconst 1) := by decide +kernel
theorem i_X6_returnTo_56 : ins MX6_returnTo 56 = some (.ireturn) := by decide +kernel
theorem i_X6_put_0 : ins MX6_put 0 = some (.aload_n 0) := by decide +kernel
theorem i_X6_put_1 : ins MX6_put 1 = some (.getfield 9) := by decide +kernel
theorem i_X6_put_4 : ins MX6_put 4 = some (.iload_n 1) := by decide +kernel
theorem i_X6_put_5 : ins MX6_put 5 = some (.iaload) := by decide +kernel
theorem i_X6_put_6 : ins MX6_put 6 = some (.iconst (-1)) := by decide +kernel
theorem i_X6_put_7 : ins MX6_put 7 = some (.if_icmp .eq 13) := by decide +kernel
theorem i_X6_put_10 : ins MX6_put 10 = some (.aload_n 0) := by decide +kernel
theorem i_X6_put_11 : ins MX6_put 11 = some (.dup) := by decide +kernel
theorem i_X6_put_12 : ins MX6_put 12 = some (.getfield 32) := by decide +kernel
theorem i_X6_put_15 : ins MX6_put 15 = some (.iconst 1) := by decide +kernel
theorem i_X6_put_16 : ins MX6_put 16 = some (.isub) := by decide +kernel
theorem i_X6_put_17 : ins MX6_put 17 = some (.putfield 32) := by decide +kernel
theorem i_X6_put_20 : ins MX6_put 20 = some (.iload_n 2) := by decide +kernel
theorem i_X6_put_21 : ins MX6_put 21 = some (.iconst (-1)) := by decide +kernel
theorem i_X6_put_22 : ins MX6_put 22 = some (.if_icmp .eq 13) := by decide +kernel
theorem i_X6_put_25 : ins MX6_put 25 = some (.aload_n 0) := by decide +kernel
theorem i_X6_put_26 : ins MX6_put 26 = some (.dup) := by decide +kernel
theorem i_X6_put_27 : ins MX6_put 27 = some (.getfield 32) := by decide +kernel
theorem i_X6_put_30 : ins MX6_put 30 = some (.iconst 1) := by decide +kernel
theorem i_X6_put_31 : ins MX6_put 31 = some (.iadd) := by decide +kernel
theorem i_X6_put_32 : ins MX6_put 32 = some (.putfield 32) := by decide +kernel
theorem i_X6_put_35 : ins MX6_put 35 = some (.aload_n 0) := by decide +kernel
theorem i_X6_put_36 : ins MX6_put 36 = some (.getfield 9) := by decide +kernel
theorem i_X6_put_39 : ins MX6_put 39 = some (.iload_n 1) := by decide +kernel
theorem i_X6_put_40 : ins MX6_put 40 = some (.iload_n 2) := by decide +kernel
theorem i_X6_put_41 : ins MX6_put 41 = some (.iastore) := by decide +kernel
theorem i_X6_put_42 : ins MX6_put 42 = some (.return_) := by decide +kernel
theorem i_X7_init_0 : ins MX7_init 0 = some (.aload_n 0) := by decide +kernel
theorem i_X7_init_1 : ins MX7_init 1 = some (.invokespecial 1) := by decide +kernel
theorem i_X7_init_4 : ins MX7_init 4 = some (.aload_n 0) := by decide +kernel
theorem i_X7_init_5 : ins MX7_init 5 = some (.new 7) := by decide +kernel
theorem i_X7_init_8 : ins MX7_init 8 = some (.dup) := by decide +kernel
theorem i_X7_init_9 : ins MX7_init 9 = some (.invokespecial 9) := by decide +kernel
theorem i_X7_init_12 : ins MX7_init 12 = some (.putfield 10) := by decide +kernel
theorem i_X7_init_15 : ins MX7_init 15 = some (.aload_n 0) := by decide +kernel
theorem i_X7_init_16 : ins MX7_init 16 = some (.iconst 4) := by decide +kernel
theorem i_X7_init_17 : ins MX7_init 17 = some (.anewarray 16) := by decide +kernel
theorem i_X7_init_20 : ins MX7_init 20 = some (.putfield 18) := by decide +kernel
theorem i_X7_init_23 : ins MX7_init 23 = some (.iconst 0) := by decide +kernel
theorem i_X7_init_24 : ins MX7_init 24 = some (.istore_n 1) := by decide +kernel
theorem i_X7_init_25 : ins MX7_init 25 = some (.iload_n 1) := by decide +kernel
theorem i_X7_init_26 : ins MX7_init 26 = some (.iconst 4) := by decide +kernel
theorem i_X7_init_27 : ins MX7_init 27 = some (.if_icmp .ge 22) := by decide +kernel
theorem i_X7_init_30 : ins MX7_init 30 = some (.aload_n 0) := by decide +kernel
theorem i_X7_init_31 : ins MX7_init 31 = some (.getfield 18) := by decide +kernel
theorem i_X7_init_34 : ins MX7_init 34 = some (.iload_n 1) := by decide +kernel
theorem i_X7_init_35 : ins MX7_init 35 = some (.new 16) := by decide +kernel
theorem i_X7_init_38 : ins MX7_init 38 = some (.dup) := by decide +kernel
theorem i_X7_init_39 : ins MX7_init 39 = some (.invokespecial 22) := by decide +kernel
theorem i_X7_init_42 : ins MX7_init 42 = some (.aastore) := by decide +kernel
theorem i_X7_init_43 : ins MX7_init 43 = some (.iinc 1 1) := by decide +kernel
theorem i_X7_init_46 : ins MX7_init 46 = some (.goto (-21)) := by decide +kernel
theorem i_X7_init_49 : ins MX7_init 49 = some (.aload_n 0) := by decide +kernel
theorem i_X7_init_50 : ins MX7_init 50 = some (.new 23) := by decide +kernel
theorem i_X7_init_53 : ins MX7_init 53 = some (.dup) := by decide +kernel
theorem i_X7_init_54 : ins MX7_init 54 = some (.invokespecial 25) := by decide +kernel
theorem i_X7_init_57 : ins MX7_init 57 = some (.putfield 26) := by decide +kernel
theorem i_X7_init_60 : ins MX7_init 60 = some (.aload_n 0) := by decide +kernel
theorem i_X7_init_61 : ins MX7_init 61 = some (.bipush 8) := by decide +kernel
theorem i_X7_init_63 : ins MX7_init 63 = some (.anewarray 30) := by decide +kernel
theorem i_X7_init_66 : ins MX7_init 66 = some (.putfield 32) := by decide +kernel
theorem i_X7_init_69 : ins MX7_init 69 = some (.aload_n 0) := by decide +kernel
theorem i_X7_init_70 : ins MX7_init 70 = some (.new 36) := by decide +kernel
theorem i_X7_init_73 : ins MX7_init 73 = some (.dup) := by decide +kernel
theorem i_X7_init_74 : ins MX7_init 74 = some (.invokespecial 38) := by decide +kernel
theorem i_X7_init_77 : ins MX7_init 77 = some (.putfield 39) := by decide +kernel
theorem i_X7_init_80 : ins MX7_init 80 = some (.aload_n 0) := by decide +kernel
theorem i_X7_init_81 : ins MX7_init 81 = some (.new 43) := by decide +kernel
theorem i_X7_init_84 : ins MX7_init 84 = some (.dup) := by decide +kernel
theorem i_X7_init_85 : ins MX7_init 85 = some (.invokespecial 45) := by decide +kernel
theorem i_X7_init_88 : ins MX7_init 88 = some (.putfield 46) := by decide +kernel
theorem i_X7_init_91 : ins MX7_init 91 = some (.return_) := by decide +kernel
theorem i_X7_size_0 : ins MX7_size 0 = some (.iload_n 1) := by decide +kernel
theorem i_X7_size_1 : ins MX7_size 1 = some (.invokestatic 50) := by decide +kernel
theorem i_X7_size_4 : ins MX7_size 4 = some (.ifCond .ne 6) := by decide +kernel
theorem i_X7_size_7 : ins MX7_size 7 = some (.bipush (-101)) := by decide +kernel
theorem i_X7_size_9 : ins MX7_size 9 = some (.ireturn) := by decide +kernel
theorem i_X7_size_10 : ins MX7_size 10 = some (.iload_n 2) := by decide +kernel
theorem i_X7_size_11 : ins MX7_size 11 = some (.iconst 2) := by decide +kernel
theorem i_X7_size_12 : ins MX7_size 12 = some (.if_icmp .lt 9) := by decide +kernel
theorem i_X7_size_15 : ins MX7_size 15 = some (.iload_n 2) := by decide +kernel
theorem i_X7_size_16 : ins MX7_size 16 = some (.bipush 32) := by decide +kernel
theorem i_X7_size_18 : ins MX7_size 18 = some (.if_icmp .le 6) := by decide +kernel
theorem i_X7_size_21 : ins MX7_size 21 = some (.bipush (-102)) := by decide +kernel
theorem i_X7_size_23 : ins MX7_size 23 = some (.ireturn) := by decide +kernel
theorem i_X7_size_24 : ins MX7_size 24 = some (.aload_n 0) := by decide +kernel
theorem i_X7_size_25 : ins MX7_size 25 = some (.getfield 10) := by decide +kernel
theorem i_X7_size_28 : ins MX7_size 28 = some (.invokevirtual 54) := by decide +kernel
theorem i_X7_size_31 : ins MX7_size 31 = some (.ifCond .gt 13) := by decide +kernel
theorem i_X7_size_34 : ins MX7_size 34 = some (.aload_n 0) := by decide +kernel
theorem i_X7_size_35 : ins MX7_size 35 = some (.getfield 10) := by decide +kernel
theorem i_X7_size_38 : ins MX7_size 38 = some (.invokevirtual 58) := by decide +kernel
theorem i_X7_size_41 : ins MX7_size 41 = some (.ifCond .le 6) := by decide +kernel
theorem i_X7_size_44 : ins MX7_size 44 = some (.bipush (-103)) := by decide +kernel
theorem i_X7_size_46 : ins MX7_size 46 = some (.ireturn) := by decide +kernel
theorem i_X7_size_47 : ins MX7_size 47 = some (.aload_n 0) := by decide +kernel
theorem i_X7_size_48 : ins MX7_size 48 = some (.getfield 18) := by decide +kernel
theorem i_X7_size_51 : ins MX7_size 51 = some (.iload_n 1) := by decide +kernel
theorem i_X7_size_52 : ins MX7_size 52 = some (.aaload) := by decide +kernel
theorem i_X7_size_53 : ins MX7_size 53 = some (.getfield 61) := by decide +kernel
theorem i_X7_size_56 : ins MX7_size 56 = some (.istore_n 3) := by decide +kernel
theorem i_X7_size_57 : ins MX7_size 57 = some (.aload_n 0) := by decide +kernel
theorem i_X7_size_58 : ins MX7_size 58 = some (.getfield 18) := by decide +kernel
theorem i_X7_size_61 : ins MX7_size 61 = some (.iload_n 1) := by decide +kernel
theorem i_X7_size_62 : ins MX7_size 62 = some (.aaload) := by decide +kernel
theorem i_X7_size_63 : ins MX7_size 63 = some (.iload_n 2) := by decide +kernel
theorem i_X7_size_64 : ins MX7_size 64 = some (.invokevirtual 65) := by decide +kernel
theorem i_X7_size_67 : ins MX7_size 67 = some (.aload_n 0) := by decide +kernel
theorem i_X7_size_68 : ins MX7_size 68 = some (.getfield 10) := by decide +kernel
theorem i_X7_size_71 : ins MX7_size 71 = some (.invokevirtual 69) := by decide +kernel
theorem i_X7_size_74 : ins MX7_size 74 = some (.iload_n 3) := by decide +kernel
theorem i_X7_size_75 : ins MX7_size 75 = some (.ireturn) := by decide +kernel
theorem i_X7_row_0 : ins MX7_row 0 = some (.aload_n 0) := by decide +kernel
theorem i_X7_row_1 : ins MX7_row 1 = some (.getfield 18) := by decide +kernel
theorem i_X7_row_4 : ins MX7_row 4 = some (.iconst 0) := by decide +kernel
theorem i_X7_row_5 : ins MX7_row 5 = some (.aaload) := by decide +kernel
theorem i_X7_row_6 : ins MX7_row 6 = some (.iload_n 1) := by decide +kernel
theorem i_X7_row_7 : ins MX7_row 7 = some (.invokevirtual 72) := by decide +kernel
theorem i_X7_row_10 : ins MX7_row 10 = some (.ifCond .eq 43) := by decide +kernel
theorem i_X7_row_13 : ins MX7_row 13 = some (.aload_n 0) := by decide +kernel
theorem i_X7_row_14 : ins MX7_row 14 = some (.getfield 18) := by decide +kernel
theorem i_X7_row_17 : ins MX7_row 17 = some (.iconst 1) := by decide +kernel
theorem i_X7_row_18 : ins MX7_row 18 = some (.aaload) := by decide +kernel
theorem i_X7_row_19 : ins MX7_row 19 = some (.iload_n 2) := by decide +kernel
theorem i_X7_row_20 : ins MX7_row 20 = some (.invokevirtual 72) := by decide +kernel
theorem i_X7_row_23 : ins MX7_row 23 = some (.ifCond .eq 30) := by decide +kernel
theorem i_X7_row_26 : ins MX7_row 26 = some (.aload_n 0) := by decide +kernel
theorem i_X7_row_27 : ins MX7_row 27 = some (.getfield 18) := by decide +kernel
theorem i_X7_row_30 : ins MX7_row 30 = some (.iconst 2) := by decide +kernel
theorem i_X7_row_31 : ins MX7_row 31 = some (.aaload) := by decide +kernel
theorem i_X7_row_32 : ins MX7_row 32 = some (.iload_n 3) := by decide +kernel
theorem i_X7_row_33 : ins MX7_row 33 = some (.invokevirtual 72) := by decide +kernel
theorem i_X7_row_36 : ins MX7_row 36 = some (.ifCond .eq 17) := by decide +kernel
theorem i_X7_row_39 : ins MX7_row 39 = some (.aload_n 0) := by decide +kernel
theorem i_X7_row_40 : ins MX7_row 40 = some (.getfield 18) := by decide +kernel
theorem i_X7_row_43 : ins MX7_row 43 = some (.iconst 3) := by decide +kernel
theorem i_X7_row_44 : ins MX7_row 44 = some (.aaload) := by decide +kernel
theorem i_X7_row_45 : ins MX7_row 45 = some (.iload 4) := by decide +kernel
theorem i_X7_row_47 : ins MX7_row 47 = some (.invokevirtual 72) := by decide +kernel
theorem i_X7_row_50 : ins MX7_row 50 = some (.ifCond .ne 6) := by decide +kernel
theorem i_X7_row_53 : ins MX7_row 53 = some (.bipush (-102)) := by decide +kernel
theorem i_X7_row_55 : ins MX7_row 55 = some (.ireturn) := by decide +kernel
theorem i_X7_row_56 : ins MX7_row 56 = some (.aload_n 0) := by decide +kernel
theorem i_X7_row_57 : ins MX7_row 57 = some (.getfield 10) := by decide +kernel
theorem i_X7_row_60 : ins MX7_row 60 = some (.invokevirtual 75) := by decide +kernel
theorem i_X7_row_63 : ins MX7_row 63 = some (.istore 5) := by decide +kernel
theorem i_X7_row_65 : ins MX7_row 65 = some (.iload 5) := by decide +kernel
theorem i_X7_row_67 : ins MX7_row 67 = some (.iconst (-1)) := by decide +kernel
theorem i_X7_row_68 : ins MX7_row 68 = some (.if_icmp .ne 6) := by decide +kernel
theorem i_X7_row_71 : ins MX7_row 71 = some (.bipush (-104)) := by decide +kernel
theorem i_X7_row_73 : ins MX7_row 73 = some (.ireturn) := by decide +kernel
theorem i_X7_row_74 : ins MX7_row 74 = some (.aload_n 0) := by decide +kernel
theorem i_X7_row_75 : ins MX7_row 75 = some (.getfield 10) := by decide +kernel
theorem i_X7_row_78 : ins MX7_row 78 = some (.iload 5) := by decide +kernel
theorem i_X7_row_80 : ins MX7_row 80 = some (.iload_n 1) := by decide +kernel
theorem i_X7_row_81 : ins MX7_row 81 = some (.iload_n 2) := by decide +kernel
theorem i_X7_row_82 : ins MX7_row 82 = some (.iload_n 3) := by decide +kernel
theorem i_X7_row_83 : ins MX7_row 83 = some (.iload 4) := by decide +kernel
theorem i_X7_row_85 : ins MX7_row 85 = some (.invokestatic 78) := by decide +kernel
theorem i_X7_row_88 : ins MX7_row 88 = some (.invokevirtual 82) := by decide +kernel
theorem i_X7_row_91 : ins MX7_row 91 = some (.iload 5) := by decide +kernel
theorem i_X7_row_93 : ins MX7_row 93 = some (.ireturn) := by decide +kernel
theorem i_X7_fill_0 : ins MX7_fill 0 = some (.iload_n 1) := by decide +kernel
theorem i_X7_fill_1 : ins MX7_fill 1 = some (.ifCond .lt 14) := by decide +kernel
theorem i_X7_fill_4 : ins MX7_fill 4 = some (.iload_n 2) := by decide +kernel
theorem i_X7_fill_5 : ins MX7_fill 5 = some (.iconst 1) := by decide +kernel
theorem i_X7_fill_6 : ins MX7_fill 6 = some (.if_icmp .lt 9) := by decide +kernel
theorem i_X7_fill_9 : ins MX7_fill 9 = some (.iload_n 2) := by decide +kernel
theorem i_X7_fill_10 : ins MX7_fill 10 = some (.bipush 64) := by decide +kernel
theorem i_X7_fill_12 : ins MX7_fill 12 = some (.if_icmp .le 6) := by decide +kernel
theorem i_X7_fill_15 : ins MX7_fill 15 = some (.bipush (-102)) := by decide +kernel
theorem i_X7_fill_17 : ins MX7_fill 17 = some (.ireturn) := by decide +kernel
theorem i_X7_fill_18 : ins MX7_fill 18 = some (.iload_n 1) := by decide +kernel
theorem i_X7_fill_19 : ins MX7_fill 19 = some (.istore_n 3) := by decide +kernel
theorem i_X7_fill_20 : ins MX7_fill 20 = some (.iconst 0) := by decide +kernel
theorem i_X7_fill_21 : ins MX7_fill 21 = some (.istore 4) := by decide +kernel
theorem i_X7_fill_23 : ins MX7_fill 23 = some (.aload_n 0) := by decide +kernel
theorem i_X7_fill_24 : ins MX7_fill 24 = some (.getfield 10) := by decide +kernel
theorem i_X7_fill_27 : ins MX7_fill 27 = some (.invokevirtual 75) := by decide +kernel
theorem i_X7_fill_30 : ins MX7_fill 30 = some (.istore 5) := by decide +kernel
theorem i_X7_fill_32 : ins MX7_fill 32 = some (.iload 5) := by decide +kernel
theorem i_X7_fill_34 : ins MX7_fill 34 = some (.iconst (-1)) := by decide +kernel
theorem i_X7_fill_35 : ins MX7_fill 35 = some (.if_icmp .eq 88) := by decide +kernel
theorem i_X7_fill_38 : ins MX7_fill 38 = some (.iload 4) := by decide +kernel
theorem i_X7_fill_40 : ins MX7_fill 40 = some (.iload_n 2) := by decide +kernel
theorem i_X7_fill_41 : ins MX7_fill 41 = some (.if_icmp .ge 82) := by decide +kernel
theorem i_X7_fill_44 : ins MX7_fill 44 = some (.iconst 0) := by decide +kernel
theorem i_X7_fill_45 : ins MX7_fill 45 = some (.istore 6) := by decide +kernel
theorem i_X7_fill_47 : ins MX7_fill 47 = some (.iconst 0) := by decide +kernel
theorem i_X7_fill_48 : ins MX7_fill 48 = some (.istore 7) := by decide +kernel
theorem i_X7_fill_50 : ins MX7_fill 50 = some (.iload 7) := by decide +kernel
theorem i_X7_fill_52 : ins MX7_fill 52 = some (.iconst 4) := by decide +kernel
theorem i_X7_fill_53 : ins MX7_fill 53 = some (.if_icmp .ge 44) := by decide +kernel
theorem i_X7_fill_56 : ins MX7_fill 56 = some (.ldc 86) := by decide +kernel
theorem i_X7_fill_58 : ins MX7_fill 58 = some (.iload_n 3) := by decide +kernel
theorem i_X7_fill_59 : ins MX7_fill 59 = some (.imul) := by decide +kernel
theorem i_X7_fill_60 : ins MX7_fill 60 = some (.sipush 12345) := by decide +kernel
theorem i_X7_fill_63 : ins MX7_fill 63 = some (.iadd) := by decide +kernel
theorem i_X7_fill_64 : ins MX7_fill 64 = some (.ldc 87) := by decide +kernel
theorem i_X7_fill_66 : ins MX7_fill 66 = some (.iand) := by decide +kernel
theorem i_X7_fill_67 : ins MX7_fill 67 = some (.istore_n 3) := by decide +kernel
theorem i_X7_fill_68 : ins MX7_fill 68 = some (.iload 6) := by decide +kernel
theorem i_X7_fill_70 : ins MX7_fill 70 = some (.iload 7) := by decide +kernel
theorem i_X7_fill_72 : ins MX7_fill 72 = some (.aload_n 0) := by decide +kernel
theorem i_X7_fill_73 : ins MX7_fill 73 = some (.getfield 18) := by decide +kernel
theorem i_X7_fill_76 : ins MX7_fill 76 = some (.iload 7) := by decide +kernel
theorem i_X7_fill_78 : ins MX7_fill 78 = some (.aaload) := by decide +kernel
theorem i_X7_fill_79 : ins MX7_fill 79 = some (.iload_n 3) := by decide +kernel
theorem i_X7_fill_80 : ins MX7_fill 80 = some (.bipush 16) := by decide +kernel
theorem i_X7_fill_82 : ins MX7_fill 82 = some (.ishr) := by decide +kernel
theorem i_X7_fill_83 : ins MX7_fill 83 = some (.invokevirtual 88) := by decide +kernel
theorem i_X7_fill_86 : ins MX7_fill 86 = some (.invokestatic 92) := by decide +kernel
theorem i_X7_fill_89 : ins MX7_fill 89 = some (.istore 6) := by decide +kernel
theorem i_X7_fill_91 : ins MX7_fill 91 = some (.iinc 7 1) := by decide +kernel
theorem i_X7_fill_94 : ins MX7_fill 94 = some (.goto (-44)) := by decide +kernel
theorem i_X7_fill_97 : ins MX7_fill 97 = some (.aload_n 0) := by decide +kernel
theorem i_X7_fill_98 : ins MX7_fill 98 = some (.getfield 10) := by decide +kernel
theorem i_X7_fill_101 : ins MX7_fill 101 = some (.iload 5) := by decide +kernel
theorem i_X7_fill_103 : ins MX7_fill 103 = some (.iload 6) := by decide +kernel
theorem i_X7_fill_105 : ins MX7_fill 105 = some (.invokevirtual 82) := by decide +kernel
theorem i_X7_fill_108 : ins MX7_fill 108 = some (.iinc 4 1) := by decide +kernel
theorem i_X7_fill_111 : ins MX7_fill 111 = some (.aload_n 0) := by decide +kernel
theorem i_X7_fill_112 : ins MX7_fill 112 = some (.getfield 10) := by decide +kernel
theorem i_X7_fill_115 : ins MX7_fill 115 = some (.invokevirtual 75) := by decide +kernel
theorem i_X7_fill_118 : ins MX7_fill 118 = some (.istore 5) := by decide +kernel
theorem i_X7_fill_120 : ins MX7_fill 120 = some (.goto (-88)) := by decide +kernel
theorem i_X7_fill_123 : ins MX7_fill 123 = some (.iload 4) := by decide +kernel
theorem i_X7_fill_125 : ins MX7_fill 125 = some (.ireturn) := by decide +kernel
theorem i_X7_set_0 : ins MX7_set 0 = some (.aload_n 0) := by decide +kernel
theorem i_X7_set_1 : ins MX7_set 1 = some (.getfield 10) := by decide +kernel
theorem i_X7_set_4 : ins MX7_set 4 = some (.iload_n 1) := by decide +kernel
theorem i_X7_set_5 : ins MX7_set 5 = some (.invokevirtual 96) := by decide +kernel
theorem i_X7_set_8 : ins MX7_set 8 = some (.ifCond .eq 10) := by decide +kernel
theorem i_X7_set_11 : ins MX7_set 11 = some (.iload_n 2) := by decide +kernel
theorem i_X7_set_12 : ins MX7_set 12 = some (.invokestatic 50) := by decide +kernel
theorem i_X7_set_15 : ins MX7_set 15 = some (.ifCond .ne 6) := by decide +kernel
theorem i_X7_set_18 : ins MX7_set 18 = some (.bipush (-101)) := by decide +kernel
theorem i_X7_set_20 : ins MX7_set 20 = some (.ireturn) := by decide +kernel
theorem i_X7_set_21 : ins MX7_set 21 = some (.aload_n 0) := by decide +kernel
theorem i_X7_set_22 : ins MX7_set 22 = some (.getfield 18) := by decide +kernel
theorem i_X7_set_25 : ins MX7_set 25 = some (.iload_n 2) := by decide +kernel
theorem i_X7_set_26 : ins MX7_set 26 = some (.aaload) := by decide +kernel
theorem i_X7_set_27 : ins MX7_set 27 = some (.iload_n 3) := by decide +kernel
theorem i_X7_set_28 : ins MX7_set 28 = some (.invokevirtual 72) := by decide +kernel
theorem i_X7_set_31 : ins MX7_set 31 = some (.ifCond .ne 6) := by decide +kernel
theorem i_X7_set_34 : ins MX7_set 34 = some (.bipush (-102)) := by decide +kernel
theorem i_X7_set_36 : ins MX7_set 36 = some (.ireturn) := by decide +kernel
theorem i_X7_set_37 : ins MX7_set 37 = some (.aload_n 0) := by decide +kernel
theorem i_X7_set_38 : ins MX7_set 38 = some (.getfield 10) := by decide +kernel
theorem i_X7_set_41 : ins MX7_set 41 = some (.iload_n 1) := by decide +kernel
theorem i_X7_set_42 : ins MX7_set 42 = some (.iload_n 2) := by decide +kernel
theorem i_X7_set_43 : ins MX7_set 43 = some (.invokevirtual 99) := by decide +kernel
theorem i_X7_set_46 : ins MX7_set 46 = some (.istore 4) := by decide +kernel
theorem i_X7_set_48 : ins MX7_set 48 = some (.aload_n 0) := by decide +kernel
theorem i_X7_set_49 : ins MX7_set 49 = some (.getfield 10) := by decide +kernel
theorem i_X7_set_52 : ins MX7_set 52 = some (.iload_n 1) := by decide +kernel
theorem i_X7_set_53 : ins MX7_set 53 = some (.iload_n 2) := by decide +kernel
theorem i_X7_set_54 : ins MX7_set 54 = some (.iload_n 3) := by decide +kernel
theorem i_X7_set_55 : ins MX7_set 55 = some (.invokevirtual 103) := by decide +kernel
theorem i_X7_set_58 : ins MX7_set 58 = some (.iload 4) := by decide +kernel
theorem i_X7_set_60 : ins MX7_set 60 = some (.ireturn) := by decide +kernel
theorem i_X7_drop_0 : ins MX7_drop 0 = some (.aload_n 0) := by decide +kernel
theorem i_X7_drop_1 : ins MX7_drop 1 = some (.getfield 10) := by decide +kernel
theorem i_X7_drop_4 : ins MX7_drop 4 = some (.iload_n 1) := by decide +kernel
theorem i_X7_drop_5 : ins MX7_drop 5 = some (.invokevirtual 96) := by decide +kernel
theorem i_X7_drop_8 : ins MX7_drop 8 = some (.ifCond .ne 6) := by decide +kernel
theorem i_X7_drop_11 : ins MX7_drop 11 = some (.bipush (-101)) := by decide +kernel
theorem i_X7_drop_13 : ins MX7_drop 13 = some (.ireturn) := by decide +kernel
theorem i_X7_drop_14 : ins MX7_drop 14 = some (.aload_n 0) := by decide +kernel
theorem i_X7_drop_15 : ins MX7_drop 15 = some (.getfield 10) := by decide +kernel
theorem i_X7_drop_18 : ins MX7_drop 18 = some (.iload_n 1) := by decide +kernel
theorem i_X7_drop_19 : ins MX7_drop 19 = some (.iconst (-1)) := by decide +kernel
theorem i_X7_drop_20 : ins MX7_drop 20 = some (.invokevirtual 82) := by decide +kernel
theorem i_X7_drop_23 : ins MX7_drop 23 = some (.aload_n 0) := by decide +kernel
theorem i_X7_drop_24 : ins MX7_drop 24 = some (.getfield 10) := by decide +kernel
theorem i_X7_drop_27 : ins MX7_drop 27 = some (.invokevirtual 54) := by decide +kernel
theorem i_X7_drop_30 : ins MX7_drop 30 = some (.ireturn) := by decide +kernel
theorem i_X7_get_0 : ins MX7_get 0 = some (.iload_n 1) := by decide +kernel
theorem i_X7_get_1 : ins MX7_get 1 = some (.ifCond .lt 16) := by decide +kernel
theorem i_X7_get_4 : ins MX7_get 4 = some (.iload_n 1) := by decide +kernel
theorem i_X7_get_5 : ins MX7_get 5 = some (.bipush 64) := by decide +kernel
theorem i_X7_get_7 : ins MX7_get 7 = some (.if_icmp .ge 10) := by decide +kernel
theorem i_X7_get_10 : ins MX7_get 10 = some (.iload_n 2) := by decide +kernel
theorem i_X7_get_11 : ins MX7_get 11 = some (.invokestatic 50) := by decide +kernel
theorem i_X7_get_14 : ins MX7_get 14 = some (.ifCond .ne 6) := by decide +kernel
theorem i_X7_get_17 : ins MX7_get 17 = some (.bipush (-101)) := by decide +kernel
theorem i_X7_get_19 : ins MX7_get 19 = some (.ireturn) := by decide +kernel
theorem i_X7_get_20 : ins MX7_get 20 = some (.aload_n 0) := by decide +kernel
theorem i_X7_get_21 : ins MX7_get 21 = some (.getfield 10) := by decide +kernel
theorem i_X7_get_24 : ins MX7_get 24 = some (.iload_n 1) := by decide +kernel
theorem i_X7_get_25 : ins MX7_get 25 = some (.iload_n 2) := by decide +kernel
theorem i_X7_get_26 : ins MX7_get 26 = some (.invokevirtual 99) := by decide +kernel
theorem i_X7_get_29 : ins MX7_get 29 = some (.ireturn) := by decide +kernel
theorem i_X7_design_0 : ins MX7_design 0 = some (.iload_n 1) := by decide +kernel
theorem i_X7_design_1 : ins MX7_design 1 = some (.invokestatic 50) := by decide +kernel
theorem i_X7_design_4 : ins MX7_design 4 = some (.ifCond .ne 6) := by decide +kernel
theorem i_X7_design_7 : ins MX7_design 7 = some (.bipush (-101)) := by decide +kernel
theorem i_X7_design_9 : ins MX7_design 9 = some (.ireturn) := by decide +kernel
theorem i_X7_design_10 : ins MX7_design 10 = some (.iload_n 2) := by decide +kernel
theorem i_X7_design_11 : ins MX7_design 11 = some (.ifCond .eq 11) := by decide +kernel
theorem i_X7_design_14 : ins MX7_design 14 = some (.iload_n 2) := by decide +kernel
theorem i_X7_design_15 : ins MX7_design 15 = some (.iconst 1) := by decide +kernel
theorem i_X7_design_16 : ins MX7_design 16 = some (.if_icmp .eq 6) := by decide +kernel
theorem i_X7_design_19 : ins MX7_design 19 = some (.bipush (-102)) := by decide +kernel
theorem i_X7_design_21 : ins MX7_design 21 = some (.ireturn) := by decide +kernel
theorem i_X7_design_22 : ins MX7_design 22 = some (.aload_n 0) := by decide +kernel
theorem i_X7_design_23 : ins MX7_design 23 = some (.getfield 18) := by decide +kernel
theorem i_X7_design_26 : ins MX7_design 26 = some (.iload_n 1) := by decide +kernel
theorem i_X7_design_27 : ins MX7_design 27 = some (.aaload) := by decide +kernel
theorem i_X7_design_28 : ins MX7_design 28 = some (.iload_n 2) := by decide +kernel
theorem i_X7_design_29 : ins MX7_design 29 = some (.lload_n 3) := by decide +kernel
theorem i_X7_design_30 : ins MX7_design 30 = some (.invokevirtual 107) := by decide +kernel
theorem i_X7_design_33 : ins MX7_design 33 = some (.ifCond .eq 15) := by decide +kernel
theorem i_X7_design_36 : ins MX7_design 36 = some (.aload_n 0) := by decide +kernel
theorem i_X7_design_37 : ins MX7_design 37 = some (.getfield 18) := by decide +kernel
theorem i_X7_design_40 : ins MX7_design 40 = some (.iload_n 1) := by decide +kernel
theorem i_X7_design_41 : ins MX7_design 41 = some (.aaload) := by decide +kernel
theorem i_X7_design_42 : ins MX7_design 42 = some (.getfield 111) := by decide +kernel
theorem i_X7_design_45 : ins MX7_design 45 = some (.goto 5) := by decide +kernel
theorem i_X7_design_48 : ins MX7_design 48 = some (.bipush (-102)) := by decide +kernel
theorem i_X7_design_50 : ins MX7_design 50 = some (.ireturn) := by decide +kernel
theorem i_X7_about_0 : ins MX7_about 0 = some (.iload_n 1) := by decide +kernel
theorem i_X7_about_1 : ins MX7_about 1 = some (.invokestatic 50) := by decide +kernel
theorem i_X7_about_4 : ins MX7_about 4 = some (.ifCond .ne 6) := by decide +kernel
theorem i_X7_about_7 : ins MX7_about 7 = some (.bipush (-101)) := by decide +kernel
theorem i_X7_about_9 : ins MX7_about 9 = some (.ireturn) := by decide +kernel
theorem i_X7_about_10 : ins MX7_about 10 = some (.aload_n 0) := by decide +kernel
theorem i_X7_about_11 : ins MX7_about 11 = some (.getfield 18) := by decide +kernel
theorem i_X7_about_14 : ins MX7_about 14 = some (.iload_n 1) := by decide +kernel
theorem i_X7_about_15 : ins MX7_about 15 = some (.aaload) := by decide +kernel
theorem i_X7_about_16 : ins MX7_about 16 = some (.astore_n 3) := by decide +kernel
theorem i_X7_about_17 : ins MX7_about 17 = some (.iload_n 2) := by decide +kernel
theorem i_X7_about_18 : ins MX7_about 18 = some (.tableswitch 62 0 4 #[34, 39, 44, 49, 54]) := by decide +kernel
theorem i_X7_about_52 : ins MX7_about 52 = some (.aload_n 3) := by decide +kernel
theorem i_X7_about_53 : ins MX7_about 53 = some (.getfield 61) := by decide +kernel
theorem i_X7_about_56 : ins MX7_about 56 = some (.ireturn) := by decide +kernel
theorem i_X7_about_57 : ins MX7_about 57 = some (.aload_n 3) := by decide +kernel
theorem i_X7_about_58 : ins MX7_about 58 = some (.getfield 114) := by decide +kernel
theorem i_X7_about_61 : ins MX7_about 61 = some (.ireturn) := by decide +kernel
theorem i_X7_about_62 : ins MX7_about 62 = some (.aload_n 3) := by decide +kernel
theorem i_X7_about_63 : ins MX7_about 63 = some (.getfield 117) := by decide +kernel
theorem i_X7_about_66 : ins MX7_about 66 = some (.ireturn) := by decide +kernel
theorem i_X7_about_67 : ins MX7_about 67 = some (.aload_n 3) := by decide +kernel
theorem i_X7_about_68 : ins MX7_about 68 = some (.getfield 111) := by decide +kernel
theorem i_X7_about_71 : ins MX7_about 71 = some (.ireturn) := by decide +kernel
theorem i_X7_about_72 : ins MX7_about 72 = some (.aload_n 3) := by decide +kernel
theorem i_X7_about_73 : ins MX7_about 73 = some (.getfield 120) := by decide +kernel
theorem i_X7_about_76 : ins MX7_about 76 = some (.invokestatic 124) := by decide +kernel
theorem i_X7_about_79 : ins MX7_about 79 = some (.ireturn) := by decide +kernel
theorem i_X7_about_80 : ins MX7_about 80 = some (.iload_n 2) := by decide +kernel
theorem i_X7_about_81 : ins MX7_about 81 = some (.invokestatic 130) := by decide +kernel
theorem i_X7_about_84 : ins MX7_about 84 = some (.ifCond .ne 6) := by decide +kernel
theorem i_X7_about_87 : ins MX7_about 87 = some (.bipush (-102)) := by decide +kernel
theorem i_X7_about_89 : ins MX7_about 89 = some (.ireturn) := by decide +kernel
theorem i_X7_about_90 : ins MX7_about 90 = some (.aload_n 3) := by decide +kernel
theorem i_X7_about_91 : ins MX7_about 91 = some (.getfield 133) := by decide +kernel
theorem i_X7_about_94 : ins MX7_about 94 = some (.aload_n 3) := by decide +kernel
theorem i_X7_about_95 : ins MX7_about 95 = some (.getfield 117) := by decide +kernel
theorem i_X7_about_98 : ins MX7_about 98 = some (.iload_n 2) := by decide +kernel
theorem i_X7_about_99 : ins MX7_about 99 = some (.bipush 10) := by decide +kernel
theorem i_X7_about_101 : ins MX7_about 101 = some (.isub) := by decide +kernel
theorem i_X7_about_102 : ins MX7_about 102 = some (.invokestatic 137) := by decide +kernel
theorem i_X7_about_105 : ins MX7_about 105 = some (.ireturn) := by decide +kernel
theorem i_X7_vector_0 : ins MX7_vector 0 = some (.aload_n 0) := by decide +kernel
theorem i_X7_vector_1 : ins MX7_vector 1 = some (.iload_n 1) := by decide +kernel
theorem i_X7_vector_2 : ins MX7_vector 2 = some (.iload_n 2) := by decide +kernel
theorem i_X7_vector_3 : ins MX7_vector 3 = some (.invokevirtual 141) := by decide +kernel
theorem i_X7_vector_6 : ins MX7_vector 6 = some (.ifCond .eq 16) := by decide +kernel
theorem i_X7_vector_9 : ins MX7_vector 9 = some (.aload_n 0) := by decide +kernel
theorem i_X7_vector_10 : ins MX7_vector 10 = some (.getfield 18) := by decide +kernel
theorem i_X7_vector_13 : ins MX7_vector 13 = some (.iload_n 1) := by decide +kernel
theorem i_X7_vector_14 : ins MX7_vector 14 = some (.aaload) := by decide +kernel
theorem i_X7_vector_15 : ins MX7_vector 15 = some (.iload_n 2) := by decide +kernel
theorem i_X7_vector_16 : ins MX7_vector 16 = some (.invokevirtual 145) := by decide +kernel
theorem i_X7_vector_19 : ins MX7_vector 19 = some (.ifCond .eq 5) := by decide +kernel
theorem i_X7_vector_22 : ins MX7_vector 22 = some (.lconst 0) := by decide +kernel
theorem i_X7_vector_23 : ins MX7_vector 23 = some (.lreturn) := by decide +kernel
theorem i_X7_vector_24 : ins MX7_vector 24 = some (.lconst 0) := by decide +kernel
theorem i_X7_vector_25 : ins MX7_vector 25 = some (.lstore_n 3) := by decide +kernel
theorem i_X7_vector_26 : ins MX7_vector 26 = some (.iconst 0) := by decide +kernel
theorem i_X7_vector_27 : ins MX7_vector 27 = some (.istore 5) := by decide +kernel
theorem i_X7_vector_29 : ins MX7_vector 29 = some (.iload 5) := by decide +kernel
theorem i_X7_vector_31 : ins MX7_vector 31 = some (.bipush 64) := by decide +kernel
theorem i_X7_vector_33 : ins MX7_vector 33 = some (.if_icmp .ge 26) := by decide +kernel
theorem i_X7_vector_36 : ins MX7_vector 36 = some (.lload_n 3) := by decide +kernel
theorem i_X7_vector_37 : ins MX7_vector 37 = some (.aload_n 0) := by decide +kernel
theorem i_X7_vector_38 : ins MX7_vector 38 = some (.iload 5) := by decide +kernel
theorem i_X7_vector_40 : ins MX7_vector 40 = some (.iload_n 1) := by decide +kernel
theorem i_X7_vector_41 : ins MX7_vector 41 = some (.invokevirtual 148) := by decide +kernel
theorem i_X7_vector_44 : ins MX7_vector 44 = some (.iload_n 2) := by decide +kernel
theorem i_X7_vector_45 : ins MX7_vector 45 = some (.lushr) := by decide +kernel
theorem i_X7_vector_46 : ins MX7_vector 46 = some (.lconst 1) := by decide +kernel
theorem i_X7_vector_47 : ins MX7_vector 47 = some (.land) := by decide +kernel
theorem i_X7_vector_48 : ins MX7_vector 48 = some (.iload 5) := by decide +kernel
theorem i_X7_vector_50 : ins MX7_vector 50 = some (.lshl) := by decide +kernel
theorem i_X7_vector_51 : ins MX7_vector 51 = some (.lor) := by decide +kernel
theorem i_X7_vector_52 : ins MX7_vector 52 = some (.lstore_n 3) := by decide +kernel
theorem i_X7_vector_53 : ins MX7_vector 53 = some (.iinc 5 1) := by decide +kernel
theorem i_X7_vector_56 : ins MX7_vector 56 = some (.goto (-27)) := by decide +kernel
theorem i_X7_vector_59 : ins MX7_vector 59 = some (.lload_n 3) := by decide +kernel
theorem i_X7_vector_60 : ins MX7_vector 60 = some (.lreturn) := by decide +kernel
theorem i_X7_reads_0 : ins MX7_reads 0 = some (.iload_n 1) := by decide +kernel
theorem i_X7_reads_1 : ins MX7_reads 1 = some (.invokestatic 50) := by decide +kernel
theorem i_X7_reads_4 : ins MX7_reads 4 = some (.ifCond .eq 13) := by decide +kernel
theorem i_X7_reads_7 : ins MX7_reads 7 = some (.iload_n 3) := by decide +kernel
theorem i_X7_reads_8 : ins MX7_reads 8 = some (.ifCond .lt 9) := by decide +kernel
theorem i_X7_reads_11 : ins MX7_reads 11 = some (.iload_n 3) := by decide +kernel
theorem i_X7_reads_12 : ins MX7_reads 12 = some (.bipush 99) := by decide +kernel
theorem i_X7_reads_14 : ins MX7_reads 14 = some (.if_icmp .le 5) := by decide +kernel
theorem i_X7_reads_17 : ins MX7_reads 17 = some (.lconst 0) := by decide +kernel
theorem i_X7_reads_18 : ins MX7_reads 18 = some (.lreturn) := by decide +kernel
theorem i_X7_reads_19 : ins MX7_reads 19 = some (.iload_n 2) := by decide +kernel
theorem i_X7_reads_20 : ins MX7_reads 20 = some (.ifCond .ne 14) := by decide +kernel
theorem i_X7_reads_23 : ins MX7_reads 23 = some (.aload_n 0) := by decide +kernel
theorem i_X7_reads_24 : ins MX7_reads 24 = some (.getfield 18) := by decide +kernel
theorem i_X7_reads_27 : ins MX7_reads 27 = some (.iload_n 1) := by decide +kernel
theorem i_X7_reads_28 : ins MX7_reads 28 = some (.aaload) := by decide +kernel
theorem i_X7_reads_29 : ins MX7_reads 29 = some (.iload_n 3) := by decide +kernel
theorem i_X7_reads_30 : ins MX7_reads 30 = some (.invokevirtual 152) := by decide +kernel
theorem i_X7_reads_33 : ins MX7_reads 33 = some (.lreturn) := by decide +kernel
theorem i_X7_reads_34 : ins MX7_reads 34 = some (.iload_n 2) := by decide +kernel
theorem i_X7_reads_35 : ins MX7_reads 35 = some (.iconst 1) := by decide +kernel
theorem i_X7_reads_36 : ins MX7_reads 36 = some (.if_icmp .ne 16) := by decide +kernel
theorem i_X7_reads_39 : ins MX7_reads 39 = some (.aload_n 0) := by decide +kernel
theorem i_X7_reads_40 : ins MX7_reads 40 = some (.getfield 18) := by decide +kernel
theorem i_X7_reads_43 : ins MX7_reads 43 = some (.iload_n 1) := by decide +kernel
theorem i_X7_reads_44 : ins MX7_reads 44 = some (.aaload) := by decide +kernel
theorem i_X7_reads_45 : ins MX7_reads 45 = some (.iload_n 3) := by decide +kernel
theorem i_X7_reads_46 : ins MX7_reads 46 = some (.invokevirtual 156) := by decide +kernel
theorem i_X7_reads_49 : ins MX7_reads 49 = some (.goto 4) := by decide +kernel
theorem i_X7_reads_52 : ins MX7_reads 52 = some (.lconst 0) := by decide +kernel
theorem i_X7_reads_53 : ins MX7_reads 53 = some (.lreturn) := by decide +kernel
theorem i_X7_cost_0 : ins MX7_cost 0 = some (.iload_n 1) := by decide +kernel
theorem i_X7_cost_1 : ins MX7_cost 1 = some (.invokestatic 50) := by decide +kernel
theorem i_X7_cost_4 : ins MX7_cost 4 = some (.ifCond .ne 6) := by decide +kernel
theorem i_X7_cost_7 : ins MX7_cost 7 = some (.bipush (-101)) := by decide +kernel
theorem i_X7_cost_9 : ins MX7_cost 9 = some (.ireturn) := by decide +kernel
theorem i_X7_cost_10 : ins MX7_cost 10 = some (.iload_n 2) := by decide +kernel
theorem i_X7_cost_11 : ins MX7_cost 11 = some (.invokestatic 159) := by decide +kernel
theorem i_X7_cost_14 : ins MX7_cost 14 = some (.ifCond .eq 10) := by decide +kernel
theorem i_X7_cost_17 : ins MX7_cost 17 = some (.iload_n 3) := by decide +kernel
theorem i_X7_cost_18 : ins MX7_cost 18 = some (.invokestatic 159) := by decide +kernel
theorem i_X7_cost_21 : ins MX7_cost 21 = some (.ifCond .ne 6) := by decide +kernel
theorem i_X7_cost_24 : ins MX7_cost 24 = some (.bipush (-102)) := by decide +kernel
theorem i_X7_cost_26 : ins MX7_cost 26 = some (.ireturn) := by decide +kernel
theorem i_X7_cost_27 : ins MX7_cost 27 = some (.aload_n 0) := by decide +kernel
theorem i_X7_cost_28 : ins MX7_cost 28 = some (.getfield 18) := by decide +kernel
theorem i_X7_cost_31 : ins MX7_cost 31 = some (.iload_n 1) := by decide +kernel
theorem i_X7_cost_32 : ins MX7_cost 32 = some (.aaload) := by decide +kernel
theorem i_X7_cost_33 : ins MX7_cost 33 = some (.iload_n 2) := by decide +kernel
theorem i_X7_cost_34 : ins MX7_cost 34 = some (.iload_n 3) := by decide +kernel
theorem i_X7_cost_35 : ins MX7_cost 35 = some (.invokevirtual 162) := by decide +kernel
theorem i_X7_cost_38 : ins MX7_cost 38 = some (.ireturn) := by decide +kernel
theorem i_X7_best_0 : ins MX7_best 0 = some (.iload_n 1) := by decide +kernel
theorem i_X7_best_1 : ins MX7_best 1 = some (.invokestatic 50) := by decide +kernel
theorem i_X7_best_4 : ins MX7_best 4 = some (.ifCond .ne 6) := by decide +kernel
theorem i_X7_best_7 : ins MX7_best 7 = some (.bipush (-101)) := by decide +kernel
theorem i_X7_best_9 : ins MX7_best 9 = some (.ireturn) := by decide +kernel
theorem i_X7_best_10 : ins MX7_best 10 = some (.iload_n 2) := by decide +kernel
theorem i_X7_best_11 : ins MX7_best 11 = some (.iconst 1) := by decide +kernel
theorem i_X7_best_12 : ins MX7_best 12 = some (.if_icmp .lt 24) := by decide +kernel
theorem i_X7_best_15 : ins MX7_best 15 = some (.iload_n 2) := by decide +kernel
theorem i_X7_best_16 : ins MX7_best 16 = some (.bipush 64) := by decide +kernel
theorem i_X7_best_18 : ins MX7_best 18 = some (.if_icmp .gt 18) := by decide +kernel
theorem i_X7_best_21 : ins MX7_best 21 = some (.iload_n 3) := by decide +kernel
theorem i_X7_best_22 : ins MX7_best 22 = some (.invokestatic 159) := by decide +kernel
theorem i_X7_best_25 : ins MX7_best 25 = some (.ifCond .eq 11) := by decide +kernel
theorem i_X7_best_28 : ins MX7_best 28 = some (.iload 4) := by decide +kernel
theorem i_X7_best_30 : ins MX7_best 30 = some (.invokestatic 159) := by decide +kernel
theorem i_X7_best_33 : ins MX7_best 33 = some (.ifCond .ne 6) := by decide +kernel
theorem i_X7_best_36 : ins MX7_best 36 = some (.bipush (-102)) := by decide +kernel
theorem i_X7_best_38 : ins MX7_best 38 = some (.ireturn) := by decide +kernel
theorem i_X7_best_39 : ins MX7_best 39 = some (.iload 5) := by decide +kernel
theorem i_X7_best_41 : ins MX7_best 41 = some (.ifCond .lt 9) := by decide +kernel
theorem i_X7_best_44 : ins MX7_best 44 = some (.iload 5) := by decide +kernel
theorem i_X7_best_46 : ins MX7_best 46 = some (.iconst 3) := by decide +kernel
theorem i_X7_best_47 : ins MX7_best 47 = some (.if_icmp .le 14) := by decide +kernel
theorem i_X7_best_50 : ins MX7_best 50 = some (.iload 5) := by decide +kernel
theorem i_X7_best_52 : ins MX7_best 52 = some (.invokestatic 130) := by decide +kernel
theorem i_X7_best_55 : ins MX7_best 55 = some (.ifCond .ne 6) := by decide +kernel
theorem i_X7_best_58 : ins MX7_best 58 = some (.bipush (-102)) := by decide +kernel
theorem i_X7_best_60 : ins MX7_best 60 = some (.ireturn) := by decide +kernel
theorem i_X7_best_61 : ins MX7_best 61 = some (.aload_n 0) := by decide +kernel
theorem i_X7_best_62 : ins MX7_best 62 = some (.getfield 165) := by decide +kernel
theorem i_X7_best_65 : ins MX7_best 65 = some (.bipush 30) := by decide +kernel
theorem i_X7_best_67 : ins MX7_best 67 = some (.if_icmp .lt 6) := by decide +kernel
theorem i_X7_best_70 : ins MX7_best 70 = some (.bipush (-103)) := by decide +kernel
theorem i_X7_best_72 : ins MX7_best 72 = some (.ireturn) := by decide +kernel
theorem i_X7_best_73 : ins MX7_best 73 = some (.aload_n 0) := by decide +kernel
theorem i_X7_best_74 : ins MX7_best 74 = some (.dup) := by decide +kernel
theorem i_X7_best_75 : ins MX7_best 75 = some (.getfield 165) := by decide +kernel
theorem i_X7_best_78 : ins MX7_best 78 = some (.iconst 1) := by decide +kernel
theorem i_X7_best_79 : ins MX7_best 79 = some (.iadd) := by decide +kernel
theorem i_X7_best_80 : ins MX7_best 80 = some (.putfield 165) := by decide +kernel
theorem i_X7_best_83 : ins MX7_best 83 = some (.aload_n 0) := by decide +kernel
theorem i_X7_best_84 : ins MX7_best 84 = some (.getfield 39) := by decide +kernel
theorem i_X7_best_87 : ins MX7_best 87 = some (.aload_n 0) := by decide +kernel
theorem i_X7_best_88 : ins MX7_best 88 = some (.getfield 18) := by decide +kernel
theorem i_X7_best_91 : ins MX7_best 91 = some (.iload_n 1) := by decide +kernel
theorem i_X7_best_92 : ins MX7_best 92 = some (.aaload) := by decide +kernel
theorem i_X7_best_93 : ins MX7_best 93 = some (.getfield 61) := by decide +kernel
theorem i_X7_best_96 : ins MX7_best 96 = some (.iload_n 2) := by decide +kernel
theorem i_X7_best_97 : ins MX7_best 97 = some (.iload_n 3) := by decide +kernel
theorem i_X7_best_98 : ins MX7_best 98 = some (.iload 4) := by decide +kernel
theorem i_X7_best_100 : ins MX7_best 100 = some (.invokevirtual 168) := by decide +kernel
theorem i_X7_best_103 : ins MX7_best 103 = some (.aload_n 0) := by decide +kernel
theorem i_X7_best_104 : ins MX7_best 104 = some (.getfield 39) := by decide +kernel
theorem i_X7_best_107 : ins MX7_best 107 = some (.getfield 172) := by decide +kernel
theorem i_X7_best_110 : ins MX7_best 110 = some (.ifCond .ne 5) := by decide +kernel
theorem i_X7_best_113 : ins MX7_best 113 = some (.iconst (-1)) := by decide +kernel
theorem i_X7_best_114 : ins MX7_best 114 = some (.ireturn) := by decide +kernel
theorem i_X7_best_115 : ins MX7_best 115 = some (.iload 5) := by decide +kernel
theorem i_X7_best_117 : ins MX7_best 117 = some (.tableswitch 63 0 3 #[31, 39, 47, 55]) := by decide +kernel
theorem i_X7_best_148 : ins MX7_best 148 = some (.aload_n 0) := by decide +kernel
theorem i_X7_best_149 : ins MX7_best 149 = some (.getfield 39) := by decide +kernel
theorem i_X7_best_152 : ins MX7_best 152 = some (.getfield 176) := by decide +kernel
theorem i_X7_best_155 : ins MX7_best 155 = some (.ireturn) := by decide +kernel
theorem i_X7_best_156 : ins MX7_best 156 = some (.aload_n 0) := by decide +kernel
theorem i_X7_best_157 : ins MX7_best 157 = some (.getfield 39) := by decide +kernel
theorem i_X7_best_160 : ins MX7_best 160 = some (.getfield 179) := by decide +kernel
theorem i_X7_best_163 : ins MX7_best 163 = some (.ireturn) := by decide +kernel
theorem i_X7_best_164 : ins MX7_best 164 = some (.aload_n 0) := by decide +kernel
theorem i_X7_best_165 : ins MX7_best 165 = some (.getfield 39) := by decide +kernel
theorem i_X7_best_168 : ins MX7_best 168 = some (.getfield 182) := by decide +kernel
theorem i_X7_best_171 : ins MX7_best 171 = some (.ireturn) := by decide +kernel
theorem i_X7_best_172 : ins MX7_best 172 = some (.aload_n 0) := by decide +kernel
theorem i_X7_best_173 : ins MX7_best 173 = some (.getfield 39) := by decide +kernel
theorem i_X7_best_176 : ins MX7_best 176 = some (.getfield 185) := by decide +kernel
theorem i_X7_best_179 : ins MX7_best 179 = some (.ireturn) := by decide +kernel
theorem i_X7_best_180 : ins MX7_best 180 = some (.aload_n 0) := by decide +kernel
theorem i_X7_best_181 : ins MX7_best 181 = some (.getfield 39) := by decide +kernel
theorem i_X7_best_184 : ins MX7_best 184 = some (.getfield 188) := by decide +kernel
theorem i_X7_best_187 : ins MX7_best 187 = some (.aload_n 0) := by decide +kernel
theorem i_X7_best_188 : ins MX7_best 188 = some (.getfield 39) := by decide +kernel
theorem i_X7_best_191 : ins MX7_best 191 = some (.getfield 185) := by decide +kernel
theorem i_X7_best_194 : ins MX7_best 194 = some (.iload 5) := by decide +kernel
theorem i_X7_best_196 : ins MX7_best 196 = some (.bipush 10) := by decide +kernel
theorem i_X7_best_198 : ins MX7_best 198 = some (.isub) := by decide +kernel
theorem i_X7_best_199 : ins MX7_best 199 = some (.invokestatic 137) := by decide +kernel
theorem i_X7_best_202 : ins MX7_best 202 = some (.ireturn) := by decide +kernel
theorem i_X7_letters_0 : ins MX7_letters 0 = some (.lload_n 1) := by decide +kernel
theorem i_X7_letters_1 : ins MX7_letters 1 = some (.invokestatic 191) := by decide +kernel
theorem i_X7_letters_4 : ins MX7_letters 4 = some (.istore_n 3) := by decide +kernel
theorem i_X7_letters_5 : ins MX7_letters 5 = some (.iload_n 3) := by decide +kernel
theorem i_X7_letters_6 : ins MX7_letters 6 = some (.iconst (-1)) := by decide +kernel
theorem i_X7_letters_7 : ins MX7_letters 7 = some (.if_icmp .ne 6) := by decide +kernel
theorem i_X7_letters_10 : ins MX7_letters 10 = some (.bipush (-102)) := by decide +kernel
theorem i_X7_letters_12 : ins MX7_letters 12 = some (.ireturn) := by decide +kernel
theorem i_X7_letters_13 : ins MX7_letters 13 = some (.aload_n 0) := by decide +kernel
theorem i_X7_letters_14 : ins MX7_letters 14 = some (.getfield 26) := by decide +kernel
theorem i_X7_letters_17 : ins MX7_letters 17 = some (.getfield 194) := by decide +kernel
theorem i_X7_letters_20 : ins MX7_letters 20 = some (.iload_n 3) := by decide +kernel
theorem i_X7_letters_21 : ins MX7_letters 21 = some (.iadd) := by decide +kernel
theorem i_X7_letters_22 : ins MX7_letters 22 = some (.bipush 60) := by decide +kernel
theorem i_X7_letters_24 : ins MX7_letters 24 = some (.if_icmp .le 6) := by decide +kernel
theorem i_X7_letters_27 : ins MX7_letters 27 = some (.bipush (-104)) := by decide +kernel
theorem i_X7_letters_29 : ins MX7_letters 29 = some (.ireturn) := by decide +kernel
theorem i_X7_letters_30 : ins MX7_letters 30 = some (.aload_n 0) := by decide +kernel
theorem i_X7_letters_31 : ins MX7_letters 31 = some (.getfield 26) := by decide +kernel
theorem i_X7_letters_34 : ins MX7_letters 34 = some (.lload_n 1) := by decide +kernel
theorem i_X7_letters_35 : ins MX7_letters 35 = some (.iload_n 3) := by decide +kernel
theorem i_X7_letters_36 : ins MX7_letters 36 = some (.invokevirtual 197) := by decide +kernel
theorem i_X7_letters_39 : ins MX7_letters 39 = some (.aload_n 0) := by decide +kernel
theorem i_X7_letters_40 : ins MX7_letters 40 = some (.getfield 26) := by decide +kernel
theorem i_X7_letters_43 : ins MX7_letters 43 = some (.getfield 194) := by decide +kernel
theorem i_X7_letters_46 : ins MX7_letters 46 = some (.ireturn) := by decide +kernel
theorem i_X7_blank_0 : ins MX7_blank 0 = some (.aload_n 0) := by decide +kernel
theorem i_X7_blank_1 : ins MX7_blank 1 = some (.getfield 26) := by decide +kernel
theorem i_X7_blank_4 : ins MX7_blank 4 = some (.getfield 194) := by decide +kernel
theorem i_X7_blank_7 : ins MX7_blank 7 = some (.istore_n 1) := by decide +kernel
theorem i_X7_blank_8 : ins MX7_blank 8 = some (.aload_n 0) := by decide +kernel
theorem i_X7_blank_9 : ins MX7_blank 9 = some (.getfield 26) := by decide +kernel
theorem i_X7_blank_12 : ins MX7_blank 12 = some (.iconst 0) := by decide +kernel
theorem i_X7_blank_13 : ins MX7_blank 13 = some (.putfield 194) := by decide +kernel
theorem i_X7_blank_16 : ins MX7_blank 16 = some (.iload_n 1) := by decide +kernel
theorem i_X7_blank_17 : ins MX7_blank 17 = some (.ireturn) := by decide +kernel
theorem i_X7_good_0 : ins MX7_good 0 = some (.aload_n 0) := by decide +kernel
theorem i_X7_good_1 : ins MX7_good 1 = some (.getfield 26) := by decide +kernel
theorem i_X7_good_4 : ins MX7_good 4 = some (.invokevirtual 201) := by decide +kernel
theorem i_X7_good_7 : ins MX7_good 7 = some (.ireturn) := by decide +kernel
theorem i_X7_ask_0 : ins MX7_ask 0 = some (.aload_n 0) := by decide +kernel
theorem i_X7_ask_1 : ins MX7_ask 1 = some (.getfield 26) := by decide +kernel
theorem i_X7_ask_4 : ins MX7_ask 4 = some (.invokevirtual 204) := by decide +kernel
theorem i_X7_ask_7 : ins MX7_ask 7 = some (.ifCond .ne 6) := by decide +kernel
theorem i_X7_ask_10 : ins MX7_ask 10 = some (.bipush (-103)) := by decide +kernel
theorem i_X7_ask_12 : ins MX7_ask 12 = some (.ireturn) := by decide +kernel
theorem i_X7_ask_13 : ins MX7_ask 13 = some (.aload_n 0) := by decide +kernel
theorem i_X7_ask_14 : ins MX7_ask 14 = some (.getfield 208) := by decide +kernel
theorem i_X7_ask_17 : ins MX7_ask 17 = some (.bipush 8) := by decide +kernel
theorem i_X7_ask_19 : ins MX7_ask 19 = some (.if_icmp .lt 6) := by decide +kernel
theorem i_X7_ask_22 : ins MX7_ask 22 = some (.bipush (-104)) := by decide +kernel
theorem i_X7_ask_24 : ins MX7_ask 24 = some (.ireturn) := by decide +kernel
theorem i_X7_ask_25 : ins MX7_ask 25 = some (.aload_n 0) := by decide +kernel
theorem i_X7_ask_26 : ins MX7_ask 26 = some (.getfield 32) := by decide +kernel
theorem i_X7_ask_29 : ins MX7_ask 29 = some (.aload_n 0) := by decide +kernel
theorem i_X7_ask_30 : ins MX7_ask 30 = some (.getfield 208) := by decide +kernel
theorem i_X7_ask_33 : ins MX7_ask 33 = some (.new 30) := by decide +kernel
theorem i_X7_ask_36 : ins MX7_ask 36 = some (.dup) := by decide +kernel
theorem i_X7_ask_37 : ins MX7_ask 37 = some (.aload_n 0) := by decide +kernel
theorem i_X7_ask_38 : ins MX7_ask 38 = some (.getfield 26) := by decide +kernel
theorem i_X7_ask_41 : ins MX7_ask 41 = some (.invokespecial 211) := by decide +kernel
theorem i_X7_ask_44 : ins MX7_ask 44 = some (.aastore) := by decide +kernel
theorem i_X7_ask_45 : ins MX7_ask 45 = some (.aload_n 0) := by decide +kernel
theorem i_X7_ask_46 : ins MX7_ask 46 = some (.dup) := by decide +kernel
theorem i_X7_ask_47 : ins MX7_ask 47 = some (.getfield 208) := by decide +kernel
theorem i_X7_ask_50 : ins MX7_ask 50 = some (.iconst 1) := by decide +kernel
theorem i_X7_ask_51 : ins MX7_ask 51 = some (.iadd) := by decide +kernel
theorem i_X7_ask_52 : ins MX7_ask 52 = some (.putfield 208) := by decide +kernel
theorem i_X7_ask_55 : ins MX7_ask 55 = some (.aload_n 0) := by decide +kernel
theorem i_X7_ask_56 : ins MX7_ask 56 = some (.getfield 26) := by decide +kernel
theorem i_X7_ask_59 : ins MX7_ask 59 = some (.iconst 0) := by decide +kernel
theorem i_X7_ask_60 : ins MX7_ask 60 = some (.putfield 194) := by decide +kernel
theorem i_X7_ask_63 : ins MX7_ask 63 = some (.aload_n 0) := by decide +kernel
theorem i_X7_ask_64 : ins MX7_ask 64 = some (.getfield 208) := by decide +kernel
theorem i_X7_ask_67 : ins MX7_ask 67 = some (.iconst 1) := by decide +kernel
theorem i_X7_ask_68 : ins MX7_ask 68 = some (.isub) := by decide +kernel
theorem i_X7_ask_69 : ins MX7_ask 69 = some (.ireturn) := by decide +kernel
theorem i_X7_leaves_0 : ins MX7_leaves 0 = some (.aload_n 0) := by decide +kernel
theorem i_X7_leaves_1 : ins MX7_leaves 1 = some (.iload_n 1) := by decide +kernel
theorem i_X7_leaves_2 : ins MX7_leaves 2 = some (.invokevirtual 214) := by decide +kernel
theorem i_X7_leaves_5 : ins MX7_leaves 5 = some (.ifCond .eq 11) := by decide +kernel
theorem i_X7_leaves_8 : ins MX7_leaves 8 = some (.aload_n 0) := by decide +kernel
theorem i_X7_leaves_9 : ins MX7_leaves 9 = some (.iload_n 1) := by decide +kernel
theorem i_X7_leaves_10 : ins MX7_leaves 10 = some (.invokevirtual 216) := by decide +kernel
theorem i_X7_leaves_13 : ins MX7_leaves 13 = some (.ifCond .eq 5) := by decide +kernel
theorem i_X7_leaves_16 : ins MX7_leaves 16 = some (.lconst 0) := by decide +kernel
theorem i_X7_leaves_17 : ins MX7_leaves 17 = some (.lreturn) := by decide +kernel
theorem i_X7_leaves_18 : ins MX7_leaves 18 = some (.aload_n 0) := by decide +kernel
theorem i_X7_leaves_19 : ins MX7_leaves 19 = some (.getfield 32) := by decide +kernel
theorem i_X7_leaves_22 : ins MX7_leaves 22 = some (.iload_n 1) := by decide +kernel
theorem i_X7_leaves_23 : ins MX7_leaves 23 = some (.aaload) := by decide +kernel
theorem i_X7_leaves_24 : ins MX7_leaves 24 = some (.aload_n 0) := by decide +kernel
theorem i_X7_leaves_25 : ins MX7_leaves 25 = some (.getfield 10) := by decide +kernel
theorem i_X7_leaves_28 : ins MX7_leaves 28 = some (.invokevirtual 219) := by decide +kernel
theorem i_X7_leaves_31 : ins MX7_leaves 31 = some (.lreturn) := by decide +kernel
theorem i_X7_asked_0 : ins MX7_asked 0 = some (.aload_n 0) := by decide +kernel
theorem i_X7_asked_1 : ins MX7_asked 1 = some (.iload_n 1) := by decide +kernel
theorem i_X7_asked_2 : ins MX7_asked 2 = some (.invokevirtual 214) := by decide +kernel
theorem i_X7_asked_5 : ins MX7_asked 5 = some (.ifCond .ne 6) := by decide +kernel
theorem i_X7_asked_8 : ins MX7_asked 8 = some (.bipush (-101)) := by decide +kernel
theorem i_X7_asked_10 : ins MX7_asked 10 = some (.ireturn) := by decide +kernel
theorem i_X7_asked_11 : ins MX7_asked 11 = some (.iload_n 2) := by decide +kernel
theorem i_X7_asked_12 : ins MX7_asked 12 = some (.tableswitch 92 0 3 #[32, 38, 48, 62]) := by decide +kernel
theorem i_X7_asked_44 : ins MX7_asked 44 = some (.aload_n 0) := by decide +kernel
theorem i_X7_asked_45 : ins MX7_asked 45 = some (.iload_n 1) := by decide +kernel
theorem i_X7_asked_46 : ins MX7_asked 46 = some (.invokevirtual 223) := by decide +kernel
theorem i_X7_asked_49 : ins MX7_asked 49 = some (.ireturn) := by decide +kernel
theorem i_X7_asked_50 : ins MX7_asked 50 = some (.aload_n 0) := by decide +kernel
theorem i_X7_asked_51 : ins MX7_asked 51 = some (.getfield 32) := by decide +kernel
theorem i_X7_asked_54 : ins MX7_asked 54 = some (.iload_n 1) := by decide +kernel
theorem i_X7_asked_55 : ins MX7_asked 55 = some (.aaload) := by decide +kernel
theorem i_X7_asked_56 : ins MX7_asked 56 = some (.getfield 226) := by decide +kernel
theorem i_X7_asked_59 : ins MX7_asked 59 = some (.ireturn) := by decide +kernel
theorem i_X7_asked_60 : ins MX7_asked 60 = some (.aload_n 0) := by decide +kernel
theorem i_X7_asked_61 : ins MX7_asked 61 = some (.iload_n 1) := by decide +kernel
theorem i_X7_asked_62 : ins MX7_asked 62 = some (.invokevirtual 216) := by decide +kernel
theorem i_X7_asked_65 : ins MX7_asked 65 = some (.ifCond .eq 7) := by decide +kernel
theorem i_X7_asked_68 : ins MX7_asked 68 = some (.iconst 1) := by decide +kernel
theorem i_X7_asked_69 : ins MX7_asked 69 = some (.goto 4) := by decide +kernel
theorem i_X7_asked_72 : ins MX7_asked 72 = some (.iconst 0) := by decide +kernel
theorem i_X7_asked_73 : ins MX7_asked 73 = some (.ireturn) := by decide +kernel
theorem i_X7_asked_74 : ins MX7_asked 74 = some (.aload_n 0) := by decide +kernel
theorem i_X7_asked_75 : ins MX7_asked 75 = some (.iload_n 1) := by decide +kernel
theorem i_X7_asked_76 : ins MX7_asked 76 = some (.invokevirtual 216) := by decide +kernel
theorem i_X7_asked_79 : ins MX7_asked 79 = some (.ifCond .eq 8) := by decide +kernel
theorem i_X7_asked_82 : ins MX7_asked 82 = some (.bipush (-103)) := by decide +kernel
theorem i_X7_asked_84 : ins MX7_asked 84 = some (.goto 19) := by decide +kernel
theorem i_X7_asked_87 : ins MX7_asked 87 = some (.aload_n 0) := by decide +kernel
theorem i_X7_asked_88 : ins MX7_asked 88 = some (.getfield 32) := by decide +kernel
theorem i_X7_asked_91 : ins MX7_asked 91 = some (.iload_n 1) := by decide +kernel
theorem i_X7_asked_92 : ins MX7_asked 92 = some (.aaload) := by decide +kernel
theorem i_X7_asked_93 : ins MX7_asked 93 = some (.aload_n 0) := by decide +kernel
theorem i_X7_asked_94 : ins MX7_asked 94 = some (.getfield 10) := by decide +kernel
theorem i_X7_asked_97 : ins MX7_asked 97 = some (.invokevirtual 219) := by decide +kernel
theorem i_X7_asked_100 : ins MX7_asked 100 = some (.invokestatic 124) := by decide +kernel
theorem i_X7_asked_103 : ins MX7_asked 103 = some (.ireturn) := by decide +kernel
theorem i_X7_asked_104 : ins MX7_asked 104 = some (.bipush (-102)) := by decide +kernel
theorem i_X7_asked_106 : ins MX7_asked 106 = some (.ireturn) := by decide +kernel
theorem i_X7_sum_0 : ins MX7_sum 0 = some (.aload_n 0) := by decide +kernel
theorem i_X7_sum_1 : ins MX7_sum 1 = some (.iload_n 1) := by decide +kernel
theorem i_X7_sum_2 : ins MX7_sum 2 = some (.invokevirtual 214) := by decide +kernel
theorem i_X7_sum_5 : ins MX7_sum 5 = some (.ifCond .eq 10) := by decide +kernel
theorem i_X7_sum_8 : ins MX7_sum 8 = some (.iload_n 2) := by decide +kernel
theorem i_X7_sum_9 : ins MX7_sum 9 = some (.invokestatic 50) := by decide +kernel
theorem i_X7_sum_12 : ins MX7_sum 12 = some (.ifCond .ne 6) := by decide +kernel
theorem i_X7_sum_15 : ins MX7_sum 15 = some (.bipush (-101)) := by decide +kernel
theorem i_X7_sum_17 : ins MX7_sum 17 = some (.ireturn) := by decide +kernel
theorem i_X7_sum_18 : ins MX7_sum 18 = some (.aload_n 0) := by decide +kernel
theorem i_X7_sum_19 : ins MX7_sum 19 = some (.iload_n 1) := by decide +kernel
theorem i_X7_sum_20 : ins MX7_sum 20 = some (.invokevirtual 216) := by decide +kernel
theorem i_X7_sum_23 : ins MX7_sum 23 = some (.ifCond .eq 6) := by decide +kernel
theorem i_X7_sum_26 : ins MX7_sum 26 = some (.bipush (-103)) := by decide +kernel
theorem i_X7_sum_28 : ins MX7_sum 28 = some (.ireturn) := by decide +kernel
theorem i_X7_sum_29 : ins MX7_sum 29 = some (.aload_n 0) := by decide +kernel
theorem i_X7_sum_30 : ins MX7_sum 30 = some (.getfield 32) := by decide +kernel
theorem i_X7_sum_33 : ins MX7_sum 33 = some (.iload_n 1) := by decide +kernel
theorem i_X7_sum_34 : ins MX7_sum 34 = some (.aaload) := by decide +kernel
theorem i_X7_sum_35 : ins MX7_sum 35 = some (.aload_n 0) := by decide +kernel
theorem i_X7_sum_36 : ins MX7_sum 36 = some (.getfield 10) := by decide +kernel
theorem i_X7_sum_39 : ins MX7_sum 39 = some (.invokevirtual 219) := by decide +kernel
theorem i_X7_sum_42 : ins MX7_sum 42 = some (.lstore_n 3) := by decide +kernel
theorem i_X7_sum_43 : ins MX7_sum 43 = some (.iconst 0) := by decide +kernel
theorem i_X7_sum_44 : ins MX7_sum 44 = some (.istore 5) := by decide +kernel
theorem i_X7_sum_46 : ins MX7_sum 46 = some (.iconst 0) := by decide +kernel
theorem i_X7_sum_47 : ins MX7_sum 47 = some (.istore 6) := by decide +kernel
theorem i_X7_sum_49 : ins MX7_sum 49 = some (.iload 6) := by decide +kernel
theorem i_X7_sum_51 : ins MX7_sum 51 = some (.bipush 64) := by decide +kernel
theorem i_X7_sum_53 : ins MX7_sum 53 = some (.if_icmp .ge 35) := by decide +kernel
theorem i_X7_sum_56 : ins MX7_sum 56 = some (.lload_n 3) := by decide +kernel
theorem i_X7_sum_57 : ins MX7_sum 57 = some (.iload 6) := by decide +kernel
theorem i_X7_sum_59 : ins MX7_sum 59 = some (.lushr) := by decide +kernel
theorem i_X7_sum_60 : ins MX7_sum 60 = some (.lconst 1) := by decide +kernel
theorem i_X7_sum_61 : ins MX7_sum 61 = some (.land) := by decide +kernel
theorem i_X7_sum_62 : ins MX7_sum 62 = some (.lconst 0) := by decide +kernel
theorem i_X7_sum_63 : ins MX7_sum 63 = some (.lcmp) := by decide +kernel
theorem i_X7_sum_64 : ins MX7_sum 64 = some (.ifCond .eq 18) := by decide +kernel
theorem i_X7_sum_67 : ins MX7_sum 67 = some (.iload 5) := by decide +kernel
theorem i_X7_sum_69 : ins MX7_sum 69 = some (.aload_n 0) := by decide +kernel
theorem i_X7_sum_70 : ins MX7_sum 70 = some (.getfield 10) := by decide +kernel
theorem i_X7_sum_73 : ins MX7_sum 73 = some (.iload 6) := by decide +kernel
theorem i_X7_sum_75 : ins MX7_sum 75 = some (.iload_n 2) := by decide +kernel
theorem i_X7_sum_76 : ins MX7_sum 76 = some (.invokevirtual 99) := by decide +kernel
theorem i_X7_sum_79 : ins MX7_sum 79 = some (.iadd) := by decide +kernel
theorem i_X7_sum_80 : ins MX7_sum 80 = some (.istore 5) := by decide +kernel
theorem i_X7_sum_82 : ins MX7_sum 82 = some (.iinc 6 1) := by decide +kernel
theorem i_X7_sum_85 : ins MX7_sum 85 = some (.goto (-36)) := by decide +kernel
theorem i_X7_sum_88 : ins MX7_sum 88 = some (.iload 5) := by decide +kernel
theorem i_X7_sum_90 : ins MX7_sum 90 = some (.ireturn) := by decide +kernel
theorem i_X7_least_0 : ins MX7_least 0 = some (.aload_n 0) := by decide +kernel
theorem i_X7_least_1 : ins MX7_least 1 = some (.iload_n 1) := by decide +kernel
theorem i_X7_least_2 : ins MX7_least 2 = some (.invokevirtual 214) := by decide +kernel
theorem i_X7_least_5 : ins MX7_least 5 = some (.ifCond .eq 10) := by decide +kernel
theorem i_X7_least_8 : ins MX7_least 8 = some (.iload_n 2) := by decide +kernel
theorem i_X7_least_9 : ins MX7_least 9 = some (.invokestatic 50) := by decide +kernel
theorem i_X7_least_12 : ins MX7_least 12 = some (.ifCond .ne 6) := by decide +kernel
theorem i_X7_least_15 : ins MX7_least 15 = some (.bipush (-101)) := by decide +kernel
theorem i_X7_least_17 : ins MX7_least 17 = some (.ireturn) := by decide +kernel
theorem i_X7_least_18 : ins MX7_least 18 = some (.aload_n 0) := by decide +kernel
theorem i_X7_least_19 : ins MX7_least 19 = some (.iload_n 1) := by decide +kernel
theorem i_X7_least_20 : ins MX7_least 20 = some (.invokevirtual 216) := by decide +kernel
theorem i_X7_least_23 : ins MX7_least 23 = some (.ifCond .eq 6) := by decide +kernel
theorem i_X7_least_26 : ins MX7_least 26 = some (.bipush (-103)) := by decide +kernel
theorem i_X7_least_28 : ins MX7_least 28 = some (.ireturn) := by decide +kernel
theorem i_X7_least_29 : ins MX7_least 29 = some (.iload_n 3) := by decide +kernel
theorem i_X7_least_30 : ins MX7_least 30 = some (.ifCond .ge 5) := by decide +kernel
theorem i_X7_least_33 : ins MX7_least 33 = some (.iconst (-1)) := by decide +kernel
theorem i_X7_least_34 : ins MX7_least 34 = some (.ireturn) := by decide +kernel
theorem i_X7_least_35 : ins MX7_least 35 = some (.aload_n 0) := by decide +kernel
theorem i_X7_least_36 : ins MX7_least 36 = some (.getfield 32) := by decide +kernel
theorem i_X7_least_39 : ins MX7_least 39 = some (.iload_n 1) := by decide +kernel
theorem i_X7_least_40 : ins MX7_least 40 = some (.aaload) := by decide +kernel
theorem i_X7_least_41 : ins MX7_least 41 = some (.aload_n 0) := by decide +kernel
theorem i_X7_least_42 : ins MX7_least 42 = some (.getfield 10) := by decide +kernel
theorem i_X7_least_45 : ins MX7_least 45 = some (.invokevirtual 219) := by decide +kernel
theorem i_X7_least_48 : ins MX7_least 48 = some (.lstore 4) := by decide +kernel
theorem i_X7_least_50 : ins MX7_least 50 = some (.iconst 0) := by decide +kernel
theorem i_X7_least_51 : ins MX7_least 51 = some (.istore 6) := by decide +kernel
theorem i_X7_least_53 : ins MX7_least 53 = some (.iconst 0) := by decide +kernel
theorem i_X7_least_54 : ins MX7_least 54 = some (.istore 7) := by decide +kernel
theorem i_X7_least_56 : ins MX7_least 56 = some (.iload 7) := by decide +kernel
theorem i_X7_least_58 : ins MX7_least 58 = some (.aload_n 0) := by decide +kernel
theorem i_X7_least_59 : ins MX7_least 59 = some (.getfield 18) := by decide +kernel
theorem i_X7_least_62 : ins MX7_least 62 = some (.iload_n 2) := by decide +kernel
theorem i_X7_least_63 : ins MX7_least 63 = some (.aaload) := by decide +kernel
theorem i_X7_least_64 : ins MX7_least 64 = some (.getfield 61) := by decide +kernel
theorem i_X7_least_67 : ins MX7_least 67 = some (.if_icmp .ge 57) := by decide +kernel
theorem i_X7_least_70 : ins MX7_least 70 = some (.lload 4) := by decide +kernel
theorem i_X7_least_72 : ins MX7_least 72 = some (.aload_n 0) := by decide +kernel
theorem i_X7_least_73 : ins MX7_least 73 = some (.getfield 10) := by decide +kernel
theorem i_X7_least_76 : ins MX7_least 76 = some (.iload_n 2) := by decide +kernel
theorem i_X7_least_77 : ins MX7_least 77 = some (.iload 7) := by decide +kernel
theorem i_X7_least_79 : ins MX7_least 79 = some (.invokevirtual 229) := by decide +kernel
theorem i_X7_least_82 : ins MX7_least 82 = some (.land) := by decide +kernel
theorem i_X7_least_83 : ins MX7_least 83 = some (.lstore 8) := by decide +kernel
theorem i_X7_least_85 : ins MX7_least 85 = some (.lload 8) := by decide +kernel
theorem i_X7_least_87 : ins MX7_least 87 = some (.invokestatic 124) := by decide +kernel
theorem i_X7_least_90 : ins MX7_least 90 = some (.istore 10) := by decide +kernel
theorem i_X7_least_92 : ins MX7_least 92 = some (.iload_n 3) := by decide +kernel
theorem i_X7_least_93 : ins MX7_least 93 = some (.iload 6) := by decide +kernel
theorem i_X7_least_95 : ins MX7_least 95 = some (.isub) := by decide +kernel
theorem i_X7_least_96 : ins MX7_least 96 = some (.iload 10) := by decide +kernel
theorem i_X7_least_98 : ins MX7_least 98 = some (.if_icmp .ge 13) := by decide +kernel
theorem i_X7_least_101 : ins MX7_least 101 = some (.lload 8) := by decide +kernel
theorem i_X7_least_103 : ins MX7_least 103 = some (.iload_n 3) := by decide +kernel
theorem i_X7_least_104 : ins MX7_least 104 = some (.iload 6) := by decide +kernel
theorem i_X7_least_106 : ins MX7_least 106 = some (.isub) := by decide +kernel
theorem i_X7_least_107 : ins MX7_least 107 = some (.invokestatic 232) := by decide +kernel
theorem i_X7_least_110 : ins MX7_least 110 = some (.ireturn) := by decide +kernel
theorem i_X7_least_111 : ins MX7_least 111 = some (.iload 6) := by decide +kernel
theorem i_X7_least_113 : ins MX7_least 113 = some (.iload 10) := by decide +kernel
theorem i_X7_least_115 : ins MX7_least 115 = some (.iadd) := by decide +kernel
theorem i_X7_least_116 : ins MX7_least 116 = some (.istore 6) := by decide +kernel
theorem i_X7_least_118 : ins MX7_least 118 = some (.iinc 7 1) := by decide +kernel
theorem i_X7_least_121 : ins MX7_least 121 = some (.goto (-65)) := by decide +kernel
theorem i_X7_least_124 : ins MX7_least 124 = some (.iconst (-1)) := by decide +kernel
theorem i_X7_least_125 : ins MX7_least 125 = some (.ireturn) := by decide +kernel
theorem i_X7_group_0 : ins MX7_group 0 = some (.aload_n 0) := by decide +kernel
theorem i_X7_group_1 : ins MX7_group 1 = some (.iload_n 1) := by decide +kernel
theorem i_X7_group_2 : ins MX7_group 2 = some (.invokevirtual 214) := by decide +kernel
theorem i_X7_group_5 : ins MX7_group 5 = some (.ifCond .eq 10) := by decide +kernel
theorem i_X7_group_8 : ins MX7_group 8 = some (.iload_n 2) := by decide +kernel
theorem i_X7_group_9 : ins MX7_group 9 = some (.invokestatic 50) := by decide +kernel
theorem i_X7_group_12 : ins MX7_group 12 = some (.ifCond .ne 6) := by decide +kernel
theorem i_X7_group_15 : ins MX7_group 15 = some (.bipush (-101)) := by decide +kernel
theorem i_X7_group_17 : ins MX7_group 17 = some (.ireturn) := by decide +kernel
theorem i_X7_group_18 : ins MX7_group 18 = some (.aload_n 0) := by decide +kernel
theorem i_X7_group_19 : ins MX7_group 19 = some (.getfield 18) := by decide +kernel
theorem i_X7_group_22 : ins MX7_group 22 = some (.iload_n 2) := by decide +kernel
theorem i_X7_group_23 : ins MX7_group 23 = some (.aaload) := by decide +kernel
theorem i_X7_group_24 : ins MX7_group 24 = some (.iload_n 3) := by decide +kernel
theorem i_X7_group_25 : ins MX7_group 25 = some (.invokevirtual 72) := by decide +kernel
theorem i_X7_group_28 : ins MX7_group 28 = some (.ifCond .ne 6) := by decide +kernel
theorem i_X7_group_31 : ins MX7_group 31 = some (.bipush (-102)) := by decide +kernel
theorem i_X7_group_33 : ins MX7_group 33 = some (.ireturn) := by decide +kernel
theorem i_X7_group_34 : ins MX7_group 34 = some (.aload_n 0) := by decide +kernel
theorem i_X7_group_35 : ins MX7_group 35 = some (.iload_n 1) := by decide +kernel
theorem i_X7_group_36 : ins MX7_group 36 = some (.invokevirtual 216) := by decide +kernel
theorem i_X7_group_39 : ins MX7_group 39 = some (.ifCond .eq 6) := by decide +kernel
theorem i_X7_group_42 : ins MX7_group 42 = some (.bipush (-103)) := by decide +kernel
theorem i_X7_group_44 : ins MX7_group 44 = some (.ireturn) := by decide +kernel
theorem i_X7_group_45 : ins MX7_group 45 = some (.aload_n 0) := by decide +kernel
theorem i_X7_group_46 : ins MX7_group 46 = some (.getfield 32) := by decide +kernel
theorem i_X7_group_49 : ins MX7_group 49 = some (.iload_n 1) := by decide +kernel
theorem i_X7_group_50 : ins MX7_group 50 = some (.aaload) := by decide +kernel
theorem i_X7_group_51 : ins MX7_group 51 = some (.aload_n 0) := by decide +kernel
theorem i_X7_group_52 : ins MX7_group 52 = some (.getfield 10) := by decide +kernel
theorem i_X7_group_55 : ins MX7_group 55 = some (.invokevirtual 219) := by decide +kernel
theorem i_X7_group_58 : ins MX7_group 58 = some (.aload_n 0) := by decide +kernel
theorem i_X7_group_59 : ins MX7_group 59 = some (.getfield 10) := by decide +kernel
theorem i_X7_group_62 : ins MX7_group 62 = some (.iload_n 2) := by decide +kernel
theorem i_X7_group_63 : ins MX7_group 63 = some (.iload_n 3) := by decide +kernel
theorem i_X7_group_64 : ins MX7_group 64 = some (.invokevirtual 229) := by decide +kernel
theorem i_X7_group_67 : ins MX7_group 67 = some (.land) := by decide +kernel
theorem i_X7_group_68 : ins MX7_group 68 = some (.invokestatic 124) := by decide +kernel
theorem i_X7_group_71 : ins MX7_group 71 = some (.ireturn) := by decide +kernel
theorem i_X7_tear_0 : ins MX7_tear 0 = some (.aload_n 0) := by decide +kernel
theorem i_X7_tear_1 : ins MX7_tear 1 = some (.iload_n 1) := by decide +kernel
theorem i_X7_tear_2 : ins MX7_tear 2 = some (.iload_n 2) := by decide +kernel
theorem i_X7_tear_3 : ins MX7_tear 3 = some (.invokevirtual 141) := by decide +kernel
theorem i_X7_tear_6 : ins MX7_tear 6 = some (.ifCond .ne 6) := by decide +kernel
theorem i_X7_tear_9 : ins MX7_tear 9 = some (.bipush (-101)) := by decide +kernel
theorem i_X7_tear_11 : ins MX7_tear 11 = some (.ireturn) := by decide +kernel
theorem i_X7_tear_12 : ins MX7_tear 12 = some (.aload_n 0) := by decide +kernel
theorem i_X7_tear_13 : ins MX7_tear 13 = some (.getfield 18) := by decide +kernel
theorem i_X7_tear_16 : ins MX7_tear 16 = some (.iload_n 1) := by decide +kernel
theorem i_X7_tear_17 : ins MX7_tear 17 = some (.aaload) := by decide +kernel
theorem i_X7_tear_18 : ins MX7_tear 18 = some (.iload_n 2) := by decide +kernel
theorem i_X7_tear_19 : ins MX7_tear 19 = some (.invokevirtual 145) := by decide +kernel
theorem i_X7_tear_22 : ins MX7_tear 22 = some (.ifCond .eq 6) := by decide +kernel
theorem i_X7_tear_25 : ins MX7_tear 25 = some (.bipush (-103)) := by decide +kernel
theorem i_X7_tear_27 : ins MX7_tear 27 = some (.ireturn) := by decide +kernel
theorem i_X7_tear_28 : ins MX7_tear 28 = some (.aload_n 0) := by decide +kernel
theorem i_X7_tear_29 : ins MX7_tear 29 = some (.getfield 18) := by decide +kernel
theorem i_X7_tear_32 : ins MX7_tear 32 = some (.iload_n 1) := by decide +kernel
theorem i_X7_tear_33 : ins MX7_tear 33 = some (.aaload) := by decide +kernel
theorem i_X7_tear_34 : ins MX7_tear 34 = some (.dup) := by decide +kernel
theorem i_X7_tear_35 : ins MX7_tear 35 = some (.getfield 120) := by decide +kernel
theorem i_X7_tear_38 : ins MX7_tear 38 = some (.lconst 1) := by decide +kernel
theorem i_X7_tear_39 : ins MX7_tear 39 = some (.iload_n 2) := by decide +kernel
theorem i_X7_tear_40 : ins MX7_tear 40 = some (.lshl) := by decide +kernel
theorem i_X7_tear_41 : ins MX7_tear 41 = some (.lor) := by decide +kernel
theorem i_X7_tear_42 : ins MX7_tear 42 = some (.putfield 120) := by decide +kernel
theorem i_X7_tear_45 : ins MX7_tear 45 = some (.aload_n 0) := by decide +kernel
theorem i_X7_tear_46 : ins MX7_tear 46 = some (.getfield 18) := by decide +kernel
theorem i_X7_tear_49 : ins MX7_tear 49 = some (.iload_n 1) := by decide +kernel
theorem i_X7_tear_50 : ins MX7_tear 50 = some (.aaload) := by decide +kernel
theorem i_X7_tear_51 : ins MX7_tear 51 = some (.getfield 120) := by decide +kernel
theorem i_X7_tear_54 : ins MX7_tear 54 = some (.invokestatic 124) := by decide +kernel
theorem i_X7_tear_57 : ins MX7_tear 57 = some (.ireturn) := by decide +kernel
theorem i_X7_mend_0 : ins MX7_mend 0 = some (.iload_n 1) := by decide +kernel
theorem i_X7_mend_1 : ins MX7_mend 1 = some (.invokestatic 50) := by decide +kernel
theorem i_X7_mend_4 : ins MX7_mend 4 = some (.ifCond .ne 6) := by decide +kernel
theorem i_X7_mend_7 : ins MX7_mend 7 = some (.bipush (-101)) := by decide +kernel
theorem i_X7_mend_9 : ins MX7_mend 9 = some (.ireturn) := by decide +kernel
theorem i_X7_mend_10 : ins MX7_mend 10 = some (.aload_n 0) := by decide +kernel
theorem i_X7_mend_11 : ins MX7_mend 11 = some (.getfield 18) := by decide +kernel
theorem i_X7_mend_14 : ins MX7_mend 14 = some (.iload_n 1) := by decide +kernel
theorem i_X7_mend_15 : ins MX7_mend 15 = some (.aaload) := by decide +kernel
theorem i_X7_mend_16 : ins MX7_mend 16 = some (.getfield 120) := by decide +kernel
theorem i_X7_mend_19 : ins MX7_mend 19 = some (.invokestatic 124) := by decide +kernel
theorem i_X7_mend_22 : ins MX7_mend 22 = some (.iconst 1) := by decide +kernel
theorem i_X7_mend_23 : ins MX7_mend 23 = some (.if_icmp .eq 6) := by decide +kernel
theorem i_X7_mend_26 : ins MX7_mend 26 = some (.bipush (-103)) := by decide +kernel
theorem i_X7_mend_28 : ins MX7_mend 28 = some (.ireturn) := by decide +kernel
theorem i_X7_mend_29 : ins MX7_mend 29 = some (.aload_n 0) := by decide +kernel
theorem i_X7_mend_30 : ins MX7_mend 30 = some (.getfield 18) := by decide +kernel
theorem i_X7_mend_33 : ins MX7_mend 33 = some (.iload_n 1) := by decide +kernel
theorem i_X7_mend_34 : ins MX7_mend 34 = some (.aaload) := by decide +kernel
theorem i_X7_mend_35 : ins MX7_mend 35 = some (.getfield 120) := by decide +kernel
theorem i_X7_mend_38 : ins MX7_mend 38 = some (.iconst 0) := by decide +kernel
theorem i_X7_mend_39 : ins MX7_mend 39 = some (.invokestatic 232) := by decide +kernel
theorem i_X7_mend_42 : ins MX7_mend 42 = some (.istore_n 2) := by decide +kernel
theorem i_X7_mend_43 : ins MX7_mend 43 = some (.aload_n 0) := by decide +kernel
theorem i_X7_mend_44 : ins MX7_mend 44 = some (.getfield 18) := by decide +kernel
theorem i_X7_mend_47 : ins MX7_mend 47 = some (.iload_n 1) := by decide +kernel
theorem i_X7_mend_48 : ins MX7_mend 48 = some (.aaload) := by decide +kernel
theorem i_X7_mend_49 : ins MX7_mend 49 = some (.lconst 0) := by decide +kernel
theorem i_X7_mend_50 : ins MX7_mend 50 = some (.putfield 120) := by decide +kernel
theorem i_X7_mend_53 : ins MX7_mend 53 = some (.iload_n 2) := by decide +kernel
theorem i_X7_mend_54 : ins MX7_mend 54 = some (.ireturn) := by decide +kernel
theorem i_X7_parity_0 : ins MX7_parity 0 = some (.iload_n 1) := by decide +kernel
theorem i_X7_parity_1 : ins MX7_parity 1 = some (.invokestatic 50) := by decide +kernel
theorem i_X7_parity_4 : ins MX7_parity 4 = some (.ifCond .ne 5) := by decide +kernel
theorem i_X7_parity_7 : ins MX7_parity 7 = some (.lconst 0) := by decide +kernel
theorem i_X7_parity_8 : ins MX7_parity 8 = some (.lreturn) := by decide +kernel
theorem i_X7_parity_9 : ins MX7_parity 9 = some (.lconst 0) := by decide +kernel
theorem i_X7_parity_10 : ins MX7_parity 10 = some (.lstore_n 2) := by decide +kernel
theorem i_X7_parity_11 : ins MX7_parity 11 = some (.iconst 0) := by decide +kernel
theorem i_X7_parity_12 : ins MX7_parity 12 = some (.istore 4) := by decide +kernel
theorem i_X7_parity_14 : ins MX7_parity 14 = some (.iload 4) := by decide +kernel
theorem i_X7_parity_16 : ins MX7_parity 16 = some (.bipush 64) := by decide +kernel
theorem i_X7_parity_18 : ins MX7_parity 18 = some (.if_icmp .ge 28) := by decide +kernel
theorem i_X7_parity_21 : ins MX7_parity 21 = some (.lload_n 2) := by decide +kernel
theorem i_X7_parity_22 : ins MX7_parity 22 = some (.aload_n 0) := by decide +kernel
theorem i_X7_parity_23 : ins MX7_parity 23 = some (.iload 4) := by decide +kernel
theorem i_X7_parity_25 : ins MX7_parity 25 = some (.iload_n 1) := by decide +kernel
theorem i_X7_parity_26 : ins MX7_parity 26 = some (.invokevirtual 148) := by decide +kernel
theorem i_X7_parity_29 : ins MX7_parity 29 = some (.invokestatic 124) := by decide +kernel
theorem i_X7_parity_32 : ins MX7_parity 32 = some (.i2l) := by decide +kernel
theorem i_X7_parity_33 : ins MX7_parity 33 = some (.lconst 1) := by decide +kernel
theorem i_X7_parity_34 : ins MX7_parity 34 = some (.land) := by decide +kernel
theorem i_X7_parity_35 : ins MX7_parity 35 = some (.iload 4) := by decide +kernel
theorem i_X7_parity_37 : ins MX7_parity 37 = some (.lshl) := by decide +kernel
theorem i_X7_parity_38 : ins MX7_parity 38 = some (.lor) := by decide +kernel
theorem i_X7_parity_39 : ins MX7_parity 39 = some (.lstore_n 2) := by decide +kernel
theorem i_X7_parity_40 : ins MX7_parity 40 = some (.iinc 4 1) := by decide +kernel
theorem i_X7_parity_43 : ins MX7_parity 43 = some (.goto (-29)) := by decide +kernel
theorem i_X7_parity_46 : ins MX7_parity 46 = some (.lload_n 2) := by decide +kernel
theorem i_X7_parity_47 : ins MX7_parity 47 = some (.lreturn) := by decide +kernel
theorem i_X7_words_0 : ins MX7_words 0 = some (.aload_n 0) := by decide +kernel
theorem i_X7_words_1 : ins MX7_words 1 = some (.iload_n 1) := by decide +kernel
theorem i_X7_words_2 : ins MX7_words 2 = some (.iload_n 2) := by decide +kernel
theorem i_X7_words_3 : ins MX7_words 3 = some (.invokevirtual 141) := by decide +kernel
theorem i_X7_words_6 : ins MX7_words 6 = some (.ifCond .ne 6) := by decide +kernel
theorem i_X7_words_9 : ins MX7_words 9 = some (.bipush (-101)) := by decide +kernel
theorem i_X7_words_11 : ins MX7_words 11 = some (.ireturn) := by decide +kernel
theorem i_X7_words_12 : ins MX7_words 12 = some (.iload_n 3) := by decide +kernel
theorem i_X7_words_13 : ins MX7_words 13 = some (.invokestatic 236) := by decide +kernel
theorem i_X7_words_16 : ins MX7_words 16 = some (.ifCond .ne 6) := by decide +kernel
theorem i_X7_words_19 : ins MX7_words 19 = some (.bipush (-102)) := by decide +kernel
theorem i_X7_words_21 : ins MX7_words 21 = some (.ireturn) := by decide +kernel
theorem i_X7_words_22 : ins MX7_words 22 = some (.aload_n 0) := by decide +kernel
theorem i_X7_words_23 : ins MX7_words 23 = some (.getfield 46) := by decide +kernel
theorem i_X7_words_26 : ins MX7_words 26 = some (.aload_n 0) := by decide +kernel
theorem i_X7_words_27 : ins MX7_words 27 = some (.getfield 10) := by decide +kernel
theorem i_X7_words_30 : ins MX7_words 30 = some (.iload_n 3) := by decide +kernel
theorem i_X7_words_31 : ins MX7_words 31 = some (.iload 4) := by decide +kernel
theorem i_X7_words_33 : ins MX7_words 33 = some (.invokevirtual 239) := by decide +kernel
theorem i_X7_words_36 : ins MX7_words 36 = some (.aload_n 0) := by decide +kernel
theorem i_X7_words_37 : ins MX7_words 37 = some (.iload_n 1) := by decide +kernel
theorem i_X7_words_38 : ins MX7_words 38 = some (.lconst 1) := by decide +kernel
theorem i_X7_words_39 : ins MX7_words 39 = some (.iload_n 2) := by decide +kernel
theorem i_X7_words_40 : ins MX7_words 40 = some (.lshl) := by decide +kernel
theorem i_X7_words_41 : ins MX7_words 41 = some (.invokevirtual 243) := by decide +kernel
theorem i_X7_words_44 : ins MX7_words 44 = some (.ireturn) := by decide +kernel
theorem i_X7_all_0 : ins MX7_all 0 = some (.iload_n 1) := by decide +kernel
theorem i_X7_all_1 : ins MX7_all 1 = some (.invokestatic 236) := by decide +kernel
theorem i_X7_all_4 : ins MX7_all 4 = some (.ifCond .eq 12) := by decide +kernel
theorem i_X7_all_7 : ins MX7_all 7 = some (.aload_n 0) := by decide +kernel
theorem i_X7_all_8 : ins MX7_all 8 = some (.iload_n 1) := by decide +kernel
theorem i_X7_all_9 : ins MX7_all 9 = some (.iload_n 2) := by decide +kernel
theorem i_X7_all_10 : ins MX7_all 10 = some (.invokevirtual 247) := by decide +kernel
theorem i_X7_all_13 : ins MX7_all 13 = some (.goto 5) := by decide +kernel
theorem i_X7_all_16 : ins MX7_all 16 = some (.bipush (-102)) := by decide +kernel
theorem i_X7_all_18 : ins MX7_all 18 = some (.ireturn) := by decide +kernel
theorem i_X7_placed_0 : ins MX7_placed 0 = some (.iload_n 1) := by decide +kernel
theorem i_X7_placed_1 : ins MX7_placed 1 = some (.invokestatic 236) := by decide +kernel
theorem i_X7_placed_4 : ins MX7_placed 4 = some (.ifCond .eq 13) := by decide +kernel
theorem i_X7_placed_7 : ins MX7_placed 7 = some (.iload_n 3) := by decide +kernel
theorem i_X7_placed_8 : ins MX7_placed 8 = some (.ifCond .lt 9) := by decide +kernel
theorem i_X7_placed_11 : ins MX7_placed 11 = some (.iload_n 3) := by decide +kernel
theorem i_X7_placed_12 : ins MX7_placed 12 = some (.bipush 64) := by decide +kernel
theorem i_X7_placed_14 : ins MX7_placed 14 = some (.if_icmp .lt 6) := by decide +kernel
theorem i_X7_placed_17 : ins MX7_placed 17 = some (.bipush (-102)) := by decide +kernel
theorem i_X7_placed_19 : ins MX7_placed 19 = some (.ireturn) := by decide +kernel
theorem i_X7_placed_20 : ins MX7_placed 20 = some (.aload_n 0) := by decide +kernel
theorem i_X7_placed_21 : ins MX7_placed 21 = some (.getfield 46) := by decide +kernel
theorem i_X7_placed_24 : ins MX7_placed 24 = some (.aload_n 0) := by decide +kernel
theorem i_X7_placed_25 : ins MX7_placed 25 = some (.getfield 10) := by decide +kernel
theorem i_X7_placed_28 : ins MX7_placed 28 = some (.iload_n 1) := by decide +kernel
theorem i_X7_placed_29 : ins MX7_placed 29 = some (.iload_n 2) := by decide +kernel
theorem i_X7_placed_30 : ins MX7_placed 30 = some (.invokevirtual 239) := by decide +kernel
theorem i_X7_placed_33 : ins MX7_placed 33 = some (.aload_n 0) := by decide +kernel
theorem i_X7_placed_34 : ins MX7_placed 34 = some (.getfield 46) := by decide +kernel
theorem i_X7_placed_37 : ins MX7_placed 37 = some (.getfield 251) := by decide +kernel
theorem i_X7_placed_40 : ins MX7_placed 40 = some (.iload_n 3) := by decide +kernel
theorem i_X7_placed_41 : ins MX7_placed 41 = some (.iaload) := by decide +kernel
theorem i_X7_placed_42 : ins MX7_placed 42 = some (.ireturn) := by decide +kernel
theorem i_X7_order_0 : ins MX7_order 0 = some (.iload_n 1) := by decide +kernel
theorem i_X7_order_1 : ins MX7_order 1 = some (.ifCond .lt 8) := by decide +kernel
theorem i_X7_order_4 : ins MX7_order 4 = some (.iload_n 1) := by decide +kernel
theorem i_X7_order_5 : ins MX7_order 5 = some (.iconst 2) := by decide +kernel
theorem i_X7_order_6 : ins MX7_order 6 = some (.if_icmp .le 6) := by decide +kernel
theorem i_X7_order_9 : ins MX7_order 9 = some (.bipush (-102)) := by decide +kernel
theorem i_X7_order_11 : ins MX7_order 11 = some (.ireturn) := by decide +kernel
theorem i_X7_order_12 : ins MX7_order 12 = some (.aload_n 0) := by decide +kernel
theorem i_X7_order_13 : ins MX7_order 13 = some (.getfield 254) := by decide +kernel
theorem i_X7_order_16 : ins MX7_order 16 = some (.bipush 30) := by decide +kernel
theorem i_X7_order_18 : ins MX7_order 18 = some (.if_icmp .lt 6) := by decide +kernel
theorem i_X7_order_21 : ins MX7_order 21 = some (.bipush (-103)) := by decide +kernel
theorem i_X7_order_23 : ins MX7_order 23 = some (.ireturn) := by decide +kernel
theorem i_X7_order_24 : ins MX7_order 24 = some (.aload_n 0) := by decide +kernel
theorem i_X7_order_25 : ins MX7_order 25 = some (.dup) := by decide +kernel
theorem i_X7_order_26 : ins MX7_order 26 = some (.getfield 254) := by decide +kernel
theorem i_X7_order_29 : ins MX7_order 29 = some (.iconst 1) := by decide +kernel
theorem i_X7_order_30 : ins MX7_order 30 = some (.iadd) := by decide +kernel
theorem i_X7_order_31 : ins MX7_order 31 = some (.putfield 254) := by decide +kernel
theorem i_X7_order_34 : ins MX7_order 34 = some (.iconst (-1)) := by decide +kernel
theorem i_X7_order_35 : ins MX7_order 35 = some (.istore_n 2) := by decide +kernel
theorem i_X7_order_36 : ins MX7_order 36 = some (.iconst 0) := by decide +kernel
theorem i_X7_order_37 : ins MX7_order 37 = some (.istore_n 3) := by decide +kernel
theorem i_X7_order_38 : ins MX7_order 38 = some (.iconst 0) := by decide +kernel
theorem i_X7_order_39 : ins MX7_order 39 = some (.istore 4) := by decide +kernel
theorem i_X7_order_41 : ins MX7_order 41 = some (.iconst 0) := by decide +kernel
theorem i_X7_order_42 : ins MX7_order 42 = some (.istore 5) := by decide +kernel
theorem i_X7_order_44 : ins MX7_order 44 = some (.iload 5) := by decide +kernel
theorem i_X7_order_46 : ins MX7_order 46 = some (.iconst 1) := by decide +kernel
theorem i_X7_order_47 : ins MX7_order 47 = some (.if_icmp .gt 77) := by decide +kernel
theorem i_X7_order_50 : ins MX7_order 50 = some (.iconst 0) := by decide +kernel
theorem i_X7_order_51 : ins MX7_order 51 = some (.istore 6) := by decide +kernel
theorem i_X7_order_53 : ins MX7_order 53 = some (.iload 6) := by decide +kernel
theorem i_X7_order_55 : ins MX7_order 55 = some (.sipush 255) := by decide +kernel
theorem i_X7_order_58 : ins MX7_order 58 = some (.if_icmp .gt 60) := by decide +kernel
theorem i_X7_order_61 : ins MX7_order 61 = some (.iload 6) := by decide +kernel
theorem i_X7_order_63 : ins MX7_order 63 = some (.invokestatic 236) := by decide +kernel
theorem i_X7_order_66 : ins MX7_order 66 = some (.ifCond .ne 6) := by decide +kernel
theorem i_X7_order_69 : ins MX7_order 69 = some (.goto 43) := by decide +kernel
theorem i_X7_order_72 : ins MX7_order 72 = some (.aload_n 0) := by decide +kernel
theorem i_X7_order_73 : ins MX7_order 73 = some (.iload 6) := by decide +kernel
theorem i_X7_order_75 : ins MX7_order 75 = some (.iload 5) := by decide +kernel
theorem i_X7_order_77 : ins MX7_order 77 = some (.iconst 1) := by decide +kernel
theorem i_X7_order_78 : ins MX7_order 78 = some (.if_icmp .ne 7) := by decide +kernel
theorem i_X7_order_81 : ins MX7_order 81 = some (.iconst 1) := by decide +kernel
theorem i_X7_order_82 : ins MX7_order 82 = some (.goto 4) := by decide +kernel
theorem i_X7_order_85 : ins MX7_order 85 = some (.iconst 0) := by decide +kernel
theorem i_X7_order_86 : ins MX7_order 86 = some (.invokevirtual 247) := by decide +kernel
theorem i_X7_order_89 : ins MX7_order 89 = some (.istore 7) := by decide +kernel
theorem i_X7_order_91 : ins MX7_order 91 = some (.iload_n 2) := by decide +kernel
theorem i_X7_order_92 : ins MX7_order 92 = some (.iconst (-1)) := by decide +kernel
theorem i_X7_order_93 : ins MX7_order 93 = some (.if_icmp .eq 9) := by decide +kernel
theorem i_X7_order_96 : ins MX7_order 96 = some (.iload 7) := by decide +kernel
theorem i_X7_order_98 : ins MX7_order 98 = some (.iload_n 2) := by decide +kernel
theorem i_X7_order_99 : ins MX7_order 99 = some (.if_icmp .ge 13) := by decide +kernel
theorem i_X7_order_102 : ins MX7_order 102 = some (.iload 7) := by decide +kernel
theorem i_X7_order_104 : ins MX7_order 104 = some (.istore_n 2) := by decide +kernel
theorem i_X7_order_105 : ins MX7_order 105 = some (.iload 6) := by decide +kernel
theorem i_X7_order_107 : ins MX7_order 107 = some (.istore_n 3) := by decide +kernel
theorem i_X7_order_108 : ins MX7_order 108 = some (.iload 5) := by decide +kernel
theorem i_X7_order_110 : ins MX7_order 110 = some (.istore 4) := by decide +kernel
theorem i_X7_order_112 : ins MX7_order 112 = some (.iinc 6 1) := by decide +kernel
theorem i_X7_order_115 : ins MX7_order 115 = some (.goto (-62)) := by decide +kernel
theorem i_X7_order_118 : ins MX7_order 118 = some (.iinc 5 1) := by decide +kernel
theorem i_X7_order_121 : ins MX7_order 121 = some (.goto (-77)) := by decide +kernel
theorem i_X7_order_124 : ins MX7_order 124 = some (.iload_n 1) := by decide +kernel
theorem i_X7_order_125 : ins MX7_order 125 = some (.ifCond .ne 5) := by decide +kernel
theorem i_X7_order_128 : ins MX7_order 128 = some (.iload_n 2) := by decide +kernel
theorem i_X7_order_129 : ins MX7_order 129 = some (.ireturn) := by decide +kernel
theorem i_X7_order_130 : ins MX7_order 130 = some (.iload_n 1) := by decide +kernel
theorem i_X7_order_131 : ins MX7_order 131 = some (.iconst 1) := by decide +kernel
theorem i_X7_order_132 : ins MX7_order 132 = some (.if_icmp .ne 7) := by decide +kernel
theorem i_X7_order_135 : ins MX7_order 135 = some (.iload_n 3) := by decide +kernel
theorem i_X7_order_136 : ins MX7_order 136 = some (.goto 5) := by decide +kernel
theorem i_X7_order_139 : ins MX7_order 139 = some (.iload 4) := by decide +kernel
theorem i_X7_order_141 : ins MX7_order 141 = some (.ireturn) := by decide +kernel
theorem i_X7_undo_0 : ins MX7_undo 0 = some (.aload_n 0) := by decide +kernel
theorem i_X7_undo_1 : ins MX7_undo 1 = some (.getfield 10) := by decide +kernel
theorem i_X7_undo_4 : ins MX7_undo 4 = some (.invokevirtual 257) := by decide +kernel
theorem i_X7_undo_7 : ins MX7_undo 7 = some (.ifCond .eq 13) := by decide +kernel
theorem i_X7_undo_10 : ins MX7_undo 10 = some (.aload_n 0) := by decide +kernel
theorem i_X7_undo_11 : ins MX7_undo 11 = some (.getfield 10) := by decide +kernel
theorem i_X7_undo_14 : ins MX7_undo 14 = some (.invokevirtual 260) := by decide +kernel
theorem i_X7_undo_17 : ins MX7_undo 17 = some (.goto 5) := by decide +kernel
theorem i_X7_undo_20 : ins MX7_undo 20 = some (.bipush (-103)) := by decide +kernel
theorem i_X7_undo_22 : ins MX7_undo 22 = some (.ireturn) := by decide +kernel
theorem i_X7_mark_0 : ins MX7_mark 0 = some (.aload_n 0) := by decide +kernel
theorem i_X7_mark_1 : ins MX7_mark 1 = some (.getfield 10) := by decide +kernel
theorem i_X7_mark_4 : ins MX7_mark 4 = some (.invokevirtual 263) := by decide +kernel
theorem i_X7_mark_7 : ins MX7_mark 7 = some (.ifCond .eq 13) := by decide +kernel
theorem i_X7_mark_10 : ins MX7_mark 10 = some (.aload_n 0) := by decide +kernel
theorem i_X7_mark_11 : ins MX7_mark 11 = some (.getfield 10) := by decide +kernel
theorem i_X7_mark_14 : ins MX7_mark 14 = some (.invokevirtual 58) := by decide +kernel
theorem i_X7_mark_17 : ins MX7_mark 17 = some (.goto 5) := by decide +kernel
theorem i_X7_mark_20 : ins MX7_mark 20 = some (.bipush (-104)) := by decide +kernel
theorem i_X7_mark_22 : ins MX7_mark 22 = some (.ireturn) := by decide +kernel
theorem i_X7_back_0 : ins MX7_back 0 = some (.aload_n 0) := by decide +kernel
theorem i_X7_back_1 : ins MX7_back 1 = some (.getfield 10) := by decide +kernel
theorem i_X7_back_4 : ins MX7_back 4 = some (.iload_n 1) := by decide +kernel
theorem i_X7_back_5 : ins MX7_back 5 = some (.invokevirtual 266) := by decide +kernel
theorem i_X7_back_8 : ins MX7_back 8 = some (.ifCond .eq 13) := by decide +kernel
theorem i_X7_back_11 : ins MX7_back 11 = some (.aload_n 0) := by decide +kernel
theorem i_X7_back_12 : ins MX7_back 12 = some (.getfield 10) := by decide +kernel
theorem i_X7_back_15 : ins MX7_back 15 = some (.invokevirtual 54) := by decide +kernel
theorem i_X7_back_18 : ins MX7_back 18 = some (.goto 5) := by decide +kernel
theorem i_X7_back_21 : ins MX7_back 21 = some (.bipush (-101)) := by decide +kernel
theorem i_X7_back_23 : ins MX7_back 23 = some (.ireturn) := by decide +kernel
theorem i_X7_count_0 : ins MX7_count 0 = some (.iload_n 1) := by decide +kernel
theorem i_X7_count_1 : ins MX7_count 1 = some (.tableswitch 108 0 8 #[51, 59, 64, 72, 80, 88, 93, 98, 103]) := by decide +kernel
theorem i_X7_count_52 : ins MX7_count 52 = some (.aload_n 0) := by decide +kernel
theorem i_X7_count_53 : ins MX7_count 53 = some (.getfield 10) := by decide +kernel
theorem i_X7_count_56 : ins MX7_count 56 = some (.invokevirtual 54) := by decide +kernel
theorem i_X7_count_59 : ins MX7_count 59 = some (.ireturn) := by decide +kernel
theorem i_X7_count_60 : ins MX7_count 60 = some (.aload_n 0) := by decide +kernel
theorem i_X7_count_61 : ins MX7_count 61 = some (.getfield 208) := by decide +kernel
theorem i_X7_count_64 : ins MX7_count 64 = some (.ireturn) := by decide +kernel
theorem i_X7_count_65 : ins MX7_count 65 = some (.aload_n 0) := by decide +kernel
theorem i_X7_count_66 : ins MX7_count 66 = some (.getfield 26) := by decide +kernel
theorem i_X7_count_69 : ins MX7_count 69 = some (.getfield 194) := by decide +kernel
theorem i_X7_count_72 : ins MX7_count 72 = some (.ireturn) := by decide +kernel
theorem i_X7_count_73 : ins MX7_count 73 = some (.aload_n 0) := by decide +kernel
theorem i_X7_count_74 : ins MX7_count 74 = some (.getfield 10) := by decide +kernel
theorem i_X7_count_77 : ins MX7_count 77 = some (.invokevirtual 260) := by decide +kernel
theorem i_X7_count_80 : ins MX7_count 80 = some (.ireturn) := by decide +kernel
theorem i_X7_count_81 : ins MX7_count 81 = some (.aload_n 0) := by decide +kernel
theorem i_X7_count_82 : ins MX7_count 82 = some (.getfield 10) := by decide +kernel
theorem i_X7_count_85 : ins MX7_count 85 = some (.invokevirtual 58) := by decide +kernel
theorem i_X7_count_88 : ins MX7_count 88 = some (.ireturn) := by decide +kernel
theorem i_X7_count_89 : ins MX7_count 89 = some (.aload_n 0) := by decide +kernel
theorem i_X7_count_90 : ins MX7_count 90 = some (.invokevirtual 269) := by decide +kernel
theorem i_X7_count_93 : ins MX7_count 93 = some (.ireturn) := by decide +kernel
theorem i_X7_count_94 : ins MX7_count 94 = some (.aload_n 0) := by decide +kernel
theorem i_X7_count_95 : ins MX7_count 95 = some (.invokevirtual 272) := by decide +kernel
theorem i_X7_count_98 : ins MX7_count 98 = some (.ireturn) := by decide +kernel
theorem i_X7_count_99 : ins MX7_count 99 = some (.aload_n 0) := by decide +kernel
theorem i_X7_count_100 : ins MX7_count 100 = some (.getfield 165) := by decide +kernel
theorem i_X7_count_103 : ins MX7_count 103 = some (.ireturn) := by decide +kernel
theorem i_X7_count_104 : ins MX7_count 104 = some (.aload_n 0) := by decide +kernel
theorem i_X7_count_105 : ins MX7_count 105 = some (.getfield 254) := by decide +kernel
theorem i_X7_count_108 : ins MX7_count 108 = some (.ireturn) := by decide +kernel
theorem i_X7_count_109 : ins MX7_count 109 = some (.bipush (-102)) := by decide +kernel
theorem i_X7_count_111 : ins MX7_count 111 = some (.ireturn) := by decide +kernel
theorem i_X7_digest_0 : ins MX7_digest 0 = some (.ldc2_w 275) := by decide +kernel
theorem i_X7_digest_3 : ins MX7_digest 3 = some (.lstore_n 1) := by decide +kernel
theorem i_X7_digest_4 : ins MX7_digest 4 = some (.iconst 0) := by decide +kernel
theorem i_X7_digest_5 : ins MX7_digest 5 = some (.istore_n 3) := by decide +kernel
theorem i_X7_digest_6 : ins MX7_digest 6 = some (.iload_n 3) := by decide +kernel
theorem i_X7_digest_7 : ins MX7_digest 7 = some (.bipush 64) := by decide +kernel
theorem i_X7_digest_9 : ins MX7_digest 9 = some (.if_icmp .ge 39) := by decide +kernel
theorem i_X7_digest_12 : ins MX7_digest 12 = some (.iconst 0) := by decide +kernel
theorem i_X7_digest_13 : ins MX7_digest 13 = some (.istore 4) := by decide +kernel
theorem i_X7_digest_15 : ins MX7_digest 15 = some (.iload 4) := by decide +kernel
theorem i_X7_digest_17 : ins MX7_digest 17 = some (.iconst 4) := by decide +kernel
theorem i_X7_digest_18 : ins MX7_digest 18 = some (.if_icmp .ge 24) := by decide +kernel
theorem i_X7_digest_21 : ins MX7_digest 21 = some (.ldc2_w 277) := by decide +kernel
theorem i_X7_digest_24 : ins MX7_digest 24 = some (.lload_n 1) := by decide +kernel
theorem i_X7_digest_25 : ins MX7_digest 25 = some (.lmul) := by decide +kernel
theorem i_X7_digest_26 : ins MX7_digest 26 = some (.aload_n 0) := by decide +kernel
theorem i_X7_digest_27 : ins MX7_digest 27 = some (.iload_n 3) := by decide +kernel
theorem i_X7_digest_28 : ins MX7_digest 28 = some (.iload 4) := by decide +kernel
theorem i_X7_digest_30 : ins MX7_digest 30 = some (.invokevirtual 279) := by decide +kernel
theorem i_X7_digest_33 : ins MX7_digest 33 = some (.i2l) := by decide +kernel
theorem i_X7_digest_34 : ins MX7_digest 34 = some (.ladd) := by decide +kernel
theorem i_X7_digest_35 : ins MX7_digest 35 = some (.lstore_n 1) := by decide +kernel
theorem i_X7_digest_36 : ins MX7_digest 36 = some (.iinc 4 1) := by decide +kernel
theorem i_X7_digest_39 : ins MX7_digest 39 = some (.goto (-24)) := by decide +kernel
theorem i_X7_digest_42 : ins MX7_digest 42 = some (.iinc 3 1) := by decide +kernel
theorem i_X7_digest_45 : ins MX7_digest 45 = some (.goto (-39)) := by decide +kernel
theorem i_X7_digest_48 : ins MX7_digest 48 = some (.iconst 0) := by decide +kernel
theorem i_X7_digest_49 : ins MX7_digest 49 = some (.istore_n 3) := by decide +kernel
theorem i_X7_digest_50 : ins MX7_digest 50 = some (.iload_n 3) := by decide +kernel
theorem i_X7_digest_51 : ins MX7_digest 51 = some (.iconst 4) := by decide +kernel
theorem i_X7_digest_52 : ins MX7_digest 52 = some (.if_icmp .ge 84) := by decide +kernel
theorem i_X7_digest_55 : ins MX7_digest 55 = some (.iconst 0) := by decide +kernel
theorem i_X7_digest_56 : ins MX7_digest 56 = some (.istore 4) := by decide +kernel
theorem i_X7_digest_58 : ins MX7_digest 58 = some (.iload 4) := by decide +kernel
theorem i_X7_digest_60 : ins MX7_digest 60 = some (.iconst 4) := by decide +kernel
theorem i_X7_digest_61 : ins MX7_digest 61 = some (.if_icmp .gt 24) := by decide +kernel
theorem i_X7_digest_64 : ins MX7_digest 64 = some (.ldc2_w 277) := by decide +kernel
theorem i_X7_digest_67 : ins MX7_digest 67 = some (.lload_n 1) := by decide +kernel
theorem i_X7_digest_68 : ins MX7_digest 68 = some (.lmul) := by decide +kernel
theorem i_X7_digest_69 : ins MX7_digest 69 = some (.aload_n 0) := by decide +kernel
theorem i_X7_digest_70 : ins MX7_digest 70 = some (.iload_n 3) := by decide +kernel
theorem i_X7_digest_71 : ins MX7_digest 71 = some (.iload 4) := by decide +kernel
theorem i_X7_digest_73 : ins MX7_digest 73 = some (.invokevirtual 282) := by decide +kernel
theorem i_X7_digest_76 : ins MX7_digest 76 = some (.i2l) := by decide +kernel
theorem i_X7_digest_77 : ins MX7_digest 77 = some (.ladd) := by decide +kernel
theorem i_X7_digest_78 : ins MX7_digest 78 = some (.lstore_n 1) := by decide +kernel
theorem i_X7_digest_79 : ins MX7_digest 79 = some (.iinc 4 1) := by decide +kernel
theorem i_X7_digest_82 : ins MX7_digest 82 = some (.goto (-24)) := by decide +kernel
theorem i_X7_digest_85 : ins MX7_digest 85 = some (.iconst 0) := by decide +kernel
theorem i_X7_digest_86 : ins MX7_digest 86 = some (.istore 4) := by decide +kernel
theorem i_X7_digest_88 : ins MX7_digest 88 = some (.iload 4) := by decide +kernel
theorem i_X7_digest_90 : ins MX7_digest 90 = some (.iconst 5) := by decide +kernel
theorem i_X7_digest_91 : ins MX7_digest 91 = some (.if_icmp .ge 27) := by decide +kernel
theorem i_X7_digest_94 : ins MX7_digest 94 = some (.ldc2_w 277) := by decide +kernel
theorem i_X7_digest_97 : ins MX7_digest 97 = some (.lload_n 1) := by decide +kernel
theorem i_X7_digest_98 : ins MX7_digest 98 = some (.lmul) := by decide +kernel
theorem i_X7_digest_99 : ins MX7_digest 99 = some (.aload_n 0) := by decide +kernel
theorem i_X7_digest_100 : ins MX7_digest 100 = some (.iload_n 3) := by decide +kernel
theorem i_X7_digest_101 : ins MX7_digest 101 = some (.bipush 10) := by decide +kernel
theorem i_X7_digest_103 : ins MX7_digest 103 = some (.iload 4) := by decide +kernel
theorem i_X7_digest_105 : ins MX7_digest 105 = some (.iadd) := by decide +kernel
theorem i_X7_digest_106 : ins MX7_digest 106 = some (.invokevirtual 282) := by decide +kernel
theorem i_X7_digest_109 : ins MX7_digest 109 = some (.i2l) := by decide +kernel
theorem i_X7_digest_110 : ins MX7_digest 110 = some (.ladd) := by decide +kernel
theorem i_X7_digest_111 : ins MX7_digest 111 = some (.lstore_n 1) := by decide +kernel
theorem i_X7_digest_112 : ins MX7_digest 112 = some (.iinc 4 1) := by decide +kernel
theorem i_X7_digest_115 : ins MX7_digest 115 = some (.goto (-27)) := by decide +kernel
theorem i_X7_digest_118 : ins MX7_digest 118 = some (.ldc2_w 277) := by decide +kernel
theorem i_X7_digest_121 : ins MX7_digest 121 = some (.lload_n 1) := by decide +kernel
theorem i_X7_digest_122 : ins MX7_digest 122 = some (.lmul) := by decide +kernel
theorem i_X7_digest_123 : ins MX7_digest 123 = some (.aload_n 0) := by decide +kernel
theorem i_X7_digest_124 : ins MX7_digest 124 = some (.iload_n 3) := by decide +kernel
theorem i_X7_digest_125 : ins MX7_digest 125 = some (.invokevirtual 285) := by decide +kernel
theorem i_X7_digest_128 : ins MX7_digest 128 = some (.ladd) := by decide +kernel
theorem i_X7_digest_129 : ins MX7_digest 129 = some (.lstore_n 1) := by decide +kernel
theorem i_X7_digest_130 : ins MX7_digest 130 = some (.iinc 3 1) := by decide +kernel
theorem i_X7_digest_133 : ins MX7_digest 133 = some (.goto (-83)) := by decide +kernel
theorem i_X7_digest_136 : ins MX7_digest 136 = some (.iconst 0) := by decide +kernel
theorem i_X7_digest_137 : ins MX7_digest 137 = some (.istore_n 3) := by decide +kernel
theorem i_X7_digest_138 : ins MX7_digest 138 = some (.iload_n 3) := by decide +kernel
theorem i_X7_digest_139 : ins MX7_digest 139 = some (.aload_n 0) := by decide +kernel
theorem i_X7_digest_140 : ins MX7_digest 140 = some (.getfield 208) := by decide +kernel
theorem i_X7_digest_143 : ins MX7_digest 143 = some (.if_icmp .ge 39) := by decide +kernel
theorem i_X7_digest_146 : ins MX7_digest 146 = some (.iconst 0) := by decide +kernel
theorem i_X7_digest_147 : ins MX7_digest 147 = some (.istore 4) := by decide +kernel
theorem i_X7_digest_149 : ins MX7_digest 149 = some (.iload 4) := by decide +kernel
theorem i_X7_digest_151 : ins MX7_digest 151 = some (.iconst 2) := by decide +kernel
theorem i_X7_digest_152 : ins MX7_digest 152 = some (.if_icmp .gt 24) := by decide +kernel
theorem i_X7_digest_155 : ins MX7_digest 155 = some (.ldc2_w 277) := by decide +kernel
theorem i_X7_digest_158 : ins MX7_digest 158 = some (.lload_n 1) := by decide +kernel
theorem i_X7_digest_159 : ins MX7_digest 159 = some (.lmul) := by decide +kernel
theorem i_X7_digest_160 : ins MX7_digest 160 = some (.aload_n 0) := by decide +kernel
theorem i_X7_digest_161 : ins MX7_digest 161 = some (.iload_n 3) := by decide +kernel
theorem i_X7_digest_162 : ins MX7_digest 162 = some (.iload 4) := by decide +kernel
theorem i_X7_digest_164 : ins MX7_digest 164 = some (.invokevirtual 288) := by decide +kernel
theorem i_X7_digest_167 : ins MX7_digest 167 = some (.i2l) := by decide +kernel
theorem i_X7_digest_168 : ins MX7_digest 168 = some (.ladd) := by decide +kernel
theorem i_X7_digest_169 : ins MX7_digest 169 = some (.lstore_n 1) := by decide +kernel
theorem i_X7_digest_170 : ins MX7_digest 170 = some (.iinc 4 1) := by decide +kernel
theorem i_X7_digest_173 : ins MX7_digest 173 = some (.goto (-24)) := by decide +kernel
theorem i_X7_digest_176 : ins MX7_digest 176 = some (.iinc 3 1) := by decide +kernel
theorem i_X7_digest_179 : ins MX7_digest 179 = some (.goto (-41)) := by decide +kernel
theorem i_X7_digest_182 : ins MX7_digest 182 = some (.iconst 0) := by decide +kernel
theorem i_X7_digest_183 : ins MX7_digest 183 = some (.istore_n 3) := by decide +kernel
theorem i_X7_digest_184 : ins MX7_digest 184 = some (.iload_n 3) := by decide +kernel
theorem i_X7_digest_185 : ins MX7_digest 185 = some (.aload_n 0) := by decide +kernel
theorem i_X7_digest_186 : ins MX7_digest 186 = some (.getfield 26) := by decide +kernel
theorem i_X7_digest_189 : ins MX7_digest 189 = some (.getfield 194) := by decide +kernel
theorem i_X7_digest_192 : ins MX7_digest 192 = some (.if_icmp .ge 26) := by decide +kernel
theorem i_X7_digest_195 : ins MX7_digest 195 = some (.ldc2_w 277) := by decide +kernel
theorem i_X7_digest_198 : ins MX7_digest 198 = some (.lload_n 1) := by decide +kernel
theorem i_X7_digest_199 : ins MX7_digest 199 = some (.lmul) := by decide +kernel
theorem i_X7_digest_200 : ins MX7_digest 200 = some (.aload_n 0) := by decide +kernel
theorem i_X7_digest_201 : ins MX7_digest 201 = some (.getfield 26) := by decide +kernel
theorem i_X7_digest_204 : ins MX7_digest 204 = some (.getfield 291) := by decide +kernel
theorem i_X7_digest_207 : ins MX7_digest 207 = some (.iload_n 3) := by decide +kernel
theorem i_X7_digest_208 : ins MX7_digest 208 = some (.iaload) := by decide +kernel
theorem i_X7_digest_209 : ins MX7_digest 209 = some (.i2l) := by decide +kernel
theorem i_X7_digest_210 : ins MX7_digest 210 = some (.ladd) := by decide +kernel
theorem i_X7_digest_211 : ins MX7_digest 211 = some (.lstore_n 1) := by decide +kernel
theorem i_X7_digest_212 : ins MX7_digest 212 = some (.iinc 3 1) := by decide +kernel
theorem i_X7_digest_215 : ins MX7_digest 215 = some (.goto (-31)) := by decide +kernel
theorem i_X7_digest_218 : ins MX7_digest 218 = some (.iconst 0) := by decide +kernel
theorem i_X7_digest_219 : ins MX7_digest 219 = some (.istore_n 3) := by decide +kernel
theorem i_X7_digest_220 : ins MX7_digest 220 = some (.iload_n 3) := by decide +kernel
theorem i_X7_digest_221 : ins MX7_digest 221 = some (.bipush 8) := by decide +kernel
theorem i_X7_digest_223 : ins MX7_digest 223 = some (.if_icmp .gt 22) := by decide +kernel
theorem i_X7_digest_226 : ins MX7_digest 226 = some (.ldc2_w 277) := by decide +kernel
theorem i_X7_digest_229 : ins MX7_digest 229 = some (.lload_n 1) := by decide +kernel
theorem i_X7_digest_230 : ins MX7_digest 230 = some (.lmul) := by decide +kernel
theorem i_X7_digest_231 : ins MX7_digest 231 = some (.aload_n 0) := by decide +kernel
theorem i_X7_digest_232 : ins MX7_digest 232 = some (.iload_n 3) := by decide +kernel
theorem i_X7_digest_233 : ins MX7_digest 233 = some (.invokevirtual 294) := by decide +kernel
theorem i_X7_digest_236 : ins MX7_digest 236 = some (.i2l) := by decide +kernel
theorem i_X7_digest_237 : ins MX7_digest 237 = some (.ladd) := by decide +kernel
theorem i_X7_digest_238 : ins MX7_digest 238 = some (.lstore_n 1) := by decide +kernel
theorem i_X7_digest_239 : ins MX7_digest 239 = some (.iinc 3 1) := by decide +kernel
theorem i_X7_digest_242 : ins MX7_digest 242 = some (.goto (-22)) := by decide +kernel
theorem i_X7_digest_245 : ins MX7_digest 245 = some (.lload_n 1) := by decide +kernel
theorem i_X7_digest_246 : ins MX7_digest 246 = some (.lreturn) := by decide +kernel
theorem i_X7_isColumn_0 : ins MX7_isColumn 0 = some (.iload_n 0) := by decide +kernel
theorem i_X7_isColumn_1 : ins MX7_isColumn 1 = some (.ifCond .lt 12) := by decide +kernel
theorem i_X7_isColumn_4 : ins MX7_isColumn 4 = some (.iload_n 0) := by decide +kernel
theorem i_X7_isColumn_5 : ins MX7_isColumn 5 = some (.iconst 4) := by decide +kernel
theorem i_X7_isColumn_6 : ins MX7_isColumn 6 = some (.if_icmp .ge 7) := by decide +kernel
theorem i_X7_isColumn_9 : ins MX7_isColumn 9 = some (.iconst 1) := by decide +kernel
theorem i_X7_isColumn_10 : ins MX7_isColumn 10 = some (.goto 4) := by decide +kernel
theorem i_X7_isColumn_13 : ins MX7_isColumn 13 = some (.iconst 0) := by decide +kernel
theorem i_X7_isColumn_14 : ins MX7_isColumn 14 = some (.ireturn) := by decide +kernel
theorem i_X7_isVector_0 : ins MX7_isVector 0 = some (.iload_n 1) := by decide +kernel
theorem i_X7_isVector_1 : ins MX7_isVector 1 = some (.invokestatic 50) := by decide +kernel
theorem i_X7_isVector_4 : ins MX7_isVector 4 = some (.ifCond .eq 24) := by decide +kernel
theorem i_X7_isVector_7 : ins MX7_isVector 7 = some (.iload_n 2) := by decide +kernel
theorem i_X7_isVector_8 : ins MX7_isVector 8 = some (.ifCond .lt 20) := by decide +kernel
theorem i_X7_isVector_11 : ins MX7_isVector 11 = some (.iload_n 2) := by decide +kernel
theorem i_X7_isVector_12 : ins MX7_isVector 12 = some (.aload_n 0) := by decide +kernel
theorem i_X7_isVector_13 : ins MX7_isVector 13 = some (.getfield 18) := by decide +kernel
theorem i_X7_isVector_16 : ins MX7_isVector 16 = some (.iload_n 1) := by decide +kernel
theorem i_X7_isVector_17 : ins MX7_isVector 17 = some (.aaload) := by decide +kernel
theorem i_X7_isVector_18 : ins MX7_isVector 18 = some (.getfield 111) := by decide +kernel
theorem i_X7_isVector_21 : ins MX7_isVector 21 = some (.if_icmp .ge 7) := by decide +kernel
theorem i_X7_isVector_24 : ins MX7_isVector 24 = some (.iconst 1) := by decide +kernel
theorem i_X7_isVector_25 : ins MX7_isVector 25 = some (.goto 4) := by decide +kernel
theorem i_X7_isVector_28 : ins MX7_isVector 28 = some (.iconst 0) := by decide +kernel
theorem i_X7_isVector_29 : ins MX7_isVector 29 = some (.ireturn) := by decide +kernel
theorem i_X7_isQuestion_0 : ins MX7_isQuestion 0 = some (.iload_n 1) := by decide +kernel
theorem i_X7_isQuestion_1 : ins MX7_isQuestion 1 = some (.ifCond .lt 24) := by decide +kernel
theorem i_X7_isQuestion_4 : ins MX7_isQuestion 4 = some (.iload_n 1) := by decide +kernel
theorem i_X7_isQuestion_5 : ins MX7_isQuestion 5 = some (.aload_n 0) := by decide +kernel
theorem i_X7_isQuestion_6 : ins MX7_isQuestion 6 = some (.getfield 208) := by decide +kernel
theorem i_X7_isQuestion_9 : ins MX7_isQuestion 9 = some (.if_icmp .ge 16) := by decide +kernel
theorem i_X7_isQuestion_12 : ins MX7_isQuestion 12 = some (.aload_n 0) := by decide +kernel
theorem i_X7_isQuestion_13 : ins MX7_isQuestion 13 = some (.getfield 32) := by decide +kernel
theorem i_X7_isQuestion_16 : ins MX7_isQuestion 16 = some (.iload_n 1) := by decide +kernel
theorem i_X7_isQuestion_17 : ins MX7_isQuestion 17 = some (.aaload) := by decide +kernel
theorem i_X7_isQuestion_18 : ins MX7_isQuestion 18 = some (.ifnull 7) := by decide +kernel
theorem i_X7_isQuestion_21 : ins MX7_isQuestion 21 = some (.iconst 1) := by decide +kernel
theorem i_X7_isQuestion_22 : ins MX7_isQuestion 22 = some (.goto 4) := by decide +kernel
theorem i_X7_isQuestion_25 : ins MX7_isQuestion 25 = some (.iconst 0) := by decide +kernel
theorem i_X7_isQuestion_26 : ins MX7_isQuestion 26 = some (.ireturn) := by decide +kernel
theorem i_X7_isWeight_0 : ins MX7_isWeight 0 = some (.iload_n 0) := by decide +kernel
theorem i_X7_isWeight_1 : ins MX7_isWeight 1 = some (.ifCond .lt 13) := by decide +kernel
theorem i_X7_isWeight_4 : ins MX7_isWeight 4 = some (.iload_n 0) := by decide +kernel
theorem i_X7_isWeight_5 : ins MX7_isWeight 5 = some (.bipush 9) := by decide +kernel
theorem i_X7_isWeight_7 : ins MX7_isWeight 7 = some (.if_icmp .gt 7) := by decide +kernel
theorem i_X7_isWeight_10 : ins MX7_isWeight 10 = some (.iconst 1) := by decide +kernel
theorem i_X7_isWeight_11 : ins MX7_isWeight 11 = some (.goto 4) := by decide +kernel
theorem i_X7_isWeight_14 : ins MX7_isWeight 14 = some (.iconst 0) := by decide +kernel
theorem i_X7_isWeight_15 : ins MX7_isWeight 15 = some (.ireturn) := by decide +kernel
theorem i_X7_asksForBase_0 : ins MX7_asksForBase 0 = some (.iload_n 0) := by decide +kernel
theorem i_X7_asksForBase_1 : ins MX7_asksForBase 1 = some (.bipush 10) := by decide +kernel
theorem i_X7_asksForBase_3 : ins MX7_asksForBase 3 = some (.if_icmp .lt 13) := by decide +kernel
theorem i_X7_asksForBase_6 : ins MX7_asksForBase 6 = some (.iload_n 0) := by decide +kernel
theorem i_X7_asksForBase_7 : ins MX7_asksForBase 7 = some (.bipush 15) := by decide +kernel
theorem i_X7_asksForBase_9 : ins MX7_asksForBase 9 = some (.if_icmp .ge 7) := by decide +kernel
theorem i_X7_asksForBase_12 : ins MX7_asksForBase 12 = some (.iconst 1) := by decide +kernel
theorem i_X7_asksForBase_13 : ins MX7_asksForBase 13 = some (.goto 4) := by decide +kernel
theorem i_X7_asksForBase_16 : ins MX7_asksForBase 16 = some (.iconst 0) := by decide +kernel
theorem i_X7_asksForBase_17 : ins MX7_asksForBase 17 = some (.ireturn) := by decide +kernel
theorem i_X7_baseOrNone_0 : ins MX7_baseOrNone 0 = some (.iload_n 2) := by decide +kernel
theorem i_X7_baseOrNone_1 : ins MX7_baseOrNone 1 = some (.ifCond .lt 20) := by decide +kernel
theorem i_X7_baseOrNone_4 : ins MX7_baseOrNone 4 = some (.iload_n 2) := by decide +kernel
theorem i_X7_baseOrNone_5 : ins MX7_baseOrNone 5 = some (.iload_n 1) := by decide +kernel
theorem i_X7_baseOrNone_6 : ins MX7_baseOrNone 6 = some (.if_icmp .ge 15) := by decide +kernel
theorem i_X7_baseOrNone_9 : ins MX7_baseOrNone 9 = some (.iload_n 2) := by decide +kernel
theorem i_X7_baseOrNone_10 : ins MX7_baseOrNone 10 = some (.aload_n 0) := by decide +kernel
theorem i_X7_baseOrNone_11 : ins MX7_baseOrNone 11 = some (.arraylength) := by decide +kernel
theorem i_X7_baseOrNone_12 : ins MX7_baseOrNone 12 = some (.if_icmp .ge 9) := by decide +kernel
theorem i_X7_baseOrNone_15 : ins MX7_baseOrNone 15 = some (.aload_n 0) := by decide +kernel
theorem i_X7_baseOrNone_16 : ins MX7_baseOrNone 16 = some (.iload_n 2) := by decide +kernel
theorem i_X7_baseOrNone_17 : ins MX7_baseOrNone 17 = some (.iaload) := by decide +kernel
theorem i_X7_baseOrNone_18 : ins MX7_baseOrNone 18 = some (.goto 4) := by decide +kernel
theorem i_X7_baseOrNone_21 : ins MX7_baseOrNone 21 = some (.iconst (-1)) := by decide +kernel
theorem i_X7_baseOrNone_22 : ins MX7_baseOrNone 22 = some (.ireturn) := by decide +kernel
theorem i_X7_lowBits_0 : ins MX7_lowBits 0 = some (.iload_n 0) := by decide +kernel
theorem i_X7_lowBits_1 : ins MX7_lowBits 1 = some (.bipush 64) := by decide +kernel
theorem i_X7_lowBits_3 : ins MX7_lowBits 3 = some (.if_icmp .ge 11) := by decide +kernel
theorem i_X7_lowBits_6 : ins MX7_lowBits 6 = some (.lconst 1) := by decide +kernel
theorem i_X7_lowBits_7 : ins MX7_lowBits 7 = some (.iload_n 0) := by decide +kernel
theorem i_X7_lowBits_8 : ins MX7_lowBits 8 = some (.lshl) := by decide +kernel
theorem i_X7_lowBits_9 : ins MX7_lowBits 9 = some (.lconst 1) := by decide +kernel
theorem i_X7_lowBits_10 : ins MX7_lowBits 10 = some (.lsub) := by decide +kernel
theorem i_X7_lowBits_11 : ins MX7_lowBits 11 = some (.goto 6) := by decide +kernel
theorem i_X7_lowBits_14 : ins MX7_lowBits 14 = some (.ldc2_w 297) := by decide +kernel
theorem i_X7_lowBits_17 : ins MX7_lowBits 17 = some (.lreturn) := by decide +kernel
theorem i_X7_bitAt_0 : ins MX7_bitAt 0 = some (.iconst 0) := by decide +kernel
theorem i_X7_bitAt_1 : ins MX7_bitAt 1 = some (.istore_n 3) := by decide +kernel
theorem i_X7_bitAt_2 : ins MX7_bitAt 2 = some (.iconst 0) := by decide +kernel
theorem i_X7_bitAt_3 : ins MX7_bitAt 3 = some (.istore 4) := by decide +kernel
theorem i_X7_bitAt_5 : ins MX7_bitAt 5 = some (.iload 4) := by decide +kernel
theorem i_X7_bitAt_7 : ins MX7_bitAt 7 = some (.bipush 64) := by decide +kernel
theorem i_X7_bitAt_9 : ins MX7_bitAt 9 = some (.if_icmp .ge 34) := by decide +kernel
theorem i_X7_bitAt_12 : ins MX7_bitAt 12 = some (.lload_n 0) := by decide +kernel
theorem i_X7_bitAt_13 : ins MX7_bitAt 13 = some (.iload 4) := by decide +kernel
theorem i_X7_bitAt_15 : ins MX7_bitAt 15 = some (.lushr) := by decide +kernel
theorem i_X7_bitAt_16 : ins MX7_bitAt 16 = some (.lconst 1) := by decide +kernel
theorem i_X7_bitAt_17 : ins MX7_bitAt 17 = some (.land) := by decide +kernel
theorem i_X7_bitAt_18 : ins MX7_bitAt 18 = some (.lconst 0) := by decide +kernel
theorem i_X7_bitAt_19 : ins MX7_bitAt 19 = some (.lcmp) := by decide +kernel
theorem i_X7_bitAt_20 : ins MX7_bitAt 20 = some (.ifCond .ne 6) := by decide +kernel
theorem i_X7_bitAt_23 : ins MX7_bitAt 23 = some (.goto 14) := by decide +kernel
theorem i_X7_bitAt_26 : ins MX7_bitAt 26 = some (.iload_n 3) := by decide +kernel
theorem i_X7_bitAt_27 : ins MX7_bitAt 27 = some (.iload_n 2) := by decide +kernel
theorem i_X7_bitAt_28 : ins MX7_bitAt 28 = some (.if_icmp .ne 6) := by decide +kernel
theorem i_X7_bitAt_31 : ins MX7_bitAt 31 = some (.iload 4) := by decide +kernel
theorem i_X7_bitAt_33 : ins MX7_bitAt 33 = some (.ireturn) := by decide +kernel
theorem i_X7_bitAt_34 : ins MX7_bitAt 34 = some (.iinc 3 1) := by decide +kernel
theorem i_X7_bitAt_37 : ins MX7_bitAt 37 = some (.iinc 4 1) := by decide +kernel
theorem i_X7_bitAt_40 : ins MX7_bitAt 40 = some (.goto (-35)) := by decide +kernel
theorem i_X7_bitAt_43 : ins MX7_bitAt 43 = some (.iconst (-1)) := by decide +kernel
theorem i_X7_bitAt_44 : ins MX7_bitAt 44 = some (.ireturn) := by decide +kernel
theorem i_X7_slicesAt_0 : ins MX7_slicesAt 0 = some (.aload_n 0) := by decide +kernel
theorem i_X7_slicesAt_1 : ins MX7_slicesAt 1 = some (.getfield 18) := by decide +kernel
theorem i_X7_slicesAt_4 : ins MX7_slicesAt 4 = some (.iload_n 2) := by decide +kernel
theorem i_X7_slicesAt_5 : ins MX7_slicesAt 5 = some (.aaload) := by decide +kernel
theorem i_X7_slicesAt_6 : ins MX7_slicesAt 6 = some (.aload_n 0) := by decide +kernel
theorem i_X7_slicesAt_7 : ins MX7_slicesAt 7 = some (.getfield 10) := by decide +kernel
theorem i_X7_slicesAt_10 : ins MX7_slicesAt 10 = some (.iload_n 1) := by decide +kernel
theorem i_X7_slicesAt_11 : ins MX7_slicesAt 11 = some (.iload_n 2) := by decide +kernel
theorem i_X7_slicesAt_12 : ins MX7_slicesAt 12 = some (.invokevirtual 99) := by decide +kernel
theorem i_X7_slicesAt_15 : ins MX7_slicesAt 15 = some (.invokevirtual 299) := by decide +kernel
theorem i_X7_slicesAt_18 : ins MX7_slicesAt 18 = some (.lreturn) := by decide +kernel
theorem i_X7_vectorsRead_0 : ins MX7_vectorsRead 0 = some (.iconst 0) := by decide +kernel
theorem i_X7_vectorsRead_1 : ins MX7_vectorsRead 1 = some (.istore_n 2) := by decide +kernel
theorem i_X7_vectorsRead_2 : ins MX7_vectorsRead 2 = some (.iconst 0) := by decide +kernel
theorem i_X7_vectorsRead_3 : ins MX7_vectorsRead 3 = some (.istore_n 3) := by decide +kernel
theorem i_X7_vectorsRead_4 : ins MX7_vectorsRead 4 = some (.iload_n 3) := by decide +kernel
theorem i_X7_vectorsRead_5 : ins MX7_vectorsRead 5 = some (.iconst 4) := by decide +kernel
theorem i_X7_vectorsRead_6 : ins MX7_vectorsRead 6 = some (.if_icmp .ge 31) := by decide +kernel
theorem i_X7_vectorsRead_9 : ins MX7_vectorsRead 9 = some (.iload_n 2) := by decide +kernel
theorem i_X7_vectorsRead_10 : ins MX7_vectorsRead 10 = some (.aload_n 0) := by decide +kernel
theorem i_X7_vectorsRead_11 : ins MX7_vectorsRead 11 = some (.getfield 32) := by decide +kernel
theorem i_X7_vectorsRead_14 : ins MX7_vectorsRead 14 = some (.iload_n 1) := by decide +kernel
theorem i_X7_vectorsRead_15 : ins MX7_vectorsRead 15 = some (.aaload) := by decide +kernel
theorem i_X7_vectorsRead_16 : ins MX7_vectorsRead 16 = some (.iload_n 3) := by decide +kernel
theorem i_X7_vectorsRead_17 : ins MX7_vectorsRead 17 = some (.aload_n 0) := by decide +kernel
theorem i_X7_vectorsRead_18 : ins MX7_vectorsRead 18 = some (.getfield 18) := by decide +kernel
theorem i_X7_vectorsRead_21 : ins MX7_vectorsRead 21 = some (.iload_n 3) := by decide +kernel
theorem i_X7_vectorsRead_22 : ins MX7_vectorsRead 22 = some (.aaload) := by decide +kernel
theorem i_X7_vectorsRead_23 : ins MX7_vectorsRead 23 = some (.invokevirtual 302) := by decide +kernel
theorem i_X7_vectorsRead_26 : ins MX7_vectorsRead 26 = some (.invokestatic 124) := by decide +kernel
theorem i_X7_vectorsRead_29 : ins MX7_vectorsRead 29 = some (.iadd) := by decide +kernel
theorem i_X7_vectorsRead_30 : ins MX7_vectorsRead 30 = some (.istore_n 2) := by decide +kernel
theorem i_X7_vectorsRead_31 : ins MX7_vectorsRead 31 = some (.iinc 3 1) := by decide +kernel
theorem i_X7_vectorsRead_34 : ins MX7_vectorsRead 34 = some (.goto (-30)) := by decide +kernel
theorem i_X7_vectorsRead_37 : ins MX7_vectorsRead 37 = some (.iload_n 2) := by decide +kernel
theorem i_X7_vectorsRead_38 : ins MX7_vectorsRead 38 = some (.ireturn) := by decide +kernel
theorem i_X7_fails_0 : ins MX7_fails 0 = some (.iconst 0) := by decide +kernel
theorem i_X7_fails_1 : ins MX7_fails 1 = some (.istore_n 2) := by decide +kernel
theorem i_X7_fails_2 : ins MX7_fails 2 = some (.iload_n 2) := by decide +kernel
theorem i_X7_fails_3 : ins MX7_fails 3 = some (.iconst 4) := by decide +kernel
theorem i_X7_fails_4 : ins MX7_fails 4 = some (.if_icmp .ge 42) := by decide +kernel
theorem i_X7_fails_7 : ins MX7_fails 7 = some (.aload_n 0) := by decide +kernel
theorem i_X7_fails_8 : ins MX7_fails 8 = some (.getfield 32) := by decide +kernel
theorem i_X7_fails_11 : ins MX7_fails 11 = some (.iload_n 1) := by decide +kernel
theorem i_X7_fails_12 : ins MX7_fails 12 = some (.aaload) := by decide +kernel
theorem i_X7_fails_13 : ins MX7_fails 13 = some (.iload_n 2) := by decide +kernel
theorem i_X7_fails_14 : ins MX7_fails 14 = some (.aload_n 0) := by decide +kernel
theorem i_X7_fails_15 : ins MX7_fails 15 = some (.getfield 18) := by decide +kernel
theorem i_X7_fails_18 : ins MX7_fails 18 = some (.iload_n 2) := by decide +kernel
theorem i_X7_fails_19 : ins MX7_fails 19 = some (.aaload) := by decide +kernel
theorem i_X7_fails_20 : ins MX7_fails 20 = some (.invokevirtual 302) := by decide +kernel
theorem i_X7_fails_23 : ins MX7_fails 23 = some (.aload_n 0) := by decide +kernel
theorem i_X7_fails_24 : ins MX7_fails 24 = some (.getfield 18) := by decide +kernel
theorem i_X7_fails_27 : ins MX7_fails 27 = some (.iload_n 2) := by decide +kernel
theorem i_X7_fails_28 : ins MX7_fails 28 = some (.aaload) := by decide +kernel
theorem i_X7_fails_29 : ins MX7_fails 29 = some (.getfield 120) := by decide +kernel
theorem i_X7_fails_32 : ins MX7_fails 32 = some (.land) := by decide +kernel
theorem i_X7_fails_33 : ins MX7_fails 33 = some (.lconst 0) := by decide +kernel
theorem i_X7_fails_34 : ins MX7_fails 34 = some (.lcmp) := by decide +kernel
theorem i_X7_fails_35 : ins MX7_fails 35 = some (.ifCond .eq 5) := by decide +kernel
theorem i_X7_fails_38 : ins MX7_fails 38 = some (.iconst 1) := by decide +kernel
theorem i_X7_fails_39 : ins MX7_fails 39 = some (.ireturn) := by decide +kernel
theorem i_X7_fails_40 : ins MX7_fails 40 = some (.iinc 2 1) := by decide +kernel
theorem i_X7_fails_43 : ins MX7_fails 43 = some (.goto (-41)) := by decide +kernel
theorem i_X7_fails_46 : ins MX7_fails 46 = some (.iconst 0) := by decide +kernel
theorem i_X7_fails_47 : ins MX7_fails 47 = some (.ireturn) := by decide +kernel
theorem i_X7_vectorsOfAll_0 : ins MX7_vectorsOfAll 0 = some (.iconst 0) := by decide +kernel
theorem i_X7_vectorsOfAll_1 : ins MX7_vectorsOfAll 1 = some (.istore_n 1) := by decide +kernel
theorem i_X7_vectorsOfAll_2 : ins MX7_vectorsOfAll 2 = some (.iconst 0) := by decide +kernel
theorem i_X7_vectorsOfAll_3 : ins MX7_vectorsOfAll 3 = some (.istore_n 2) := by decide +kernel
theorem i_X7_vectorsOfAll_4 : ins MX7_vectorsOfAll 4 = some (.iload_n 2) := by decide +kernel
theorem i_X7_vectorsOfAll_5 : ins MX7_vectorsOfAll 5 = some (.iconst 4) := by decide +kernel
theorem i_X7_vectorsOfAll_6 : ins MX7_vectorsOfAll 6 = some (.if_icmp .ge 21) := by decide +kernel
theorem i_X7_vectorsOfAll_9 : ins MX7_vectorsOfAll 9 = some (.iload_n 1) := by decide +kernel
theorem i_X7_vectorsOfAll_10 : ins MX7_vectorsOfAll 10 = some (.aload_n 0) := by decide +kernel
theorem i_X7_vectorsOfAll_11 : ins MX7_vectorsOfAll 11 = some (.getfield 18) := by decide +kernel
theorem i_X7_vectorsOfAll_14 : ins MX7_vectorsOfAll 14 = some (.iload_n 2) := by decide +kernel
theorem i_X7_vectorsOfAll_15 : ins MX7_vectorsOfAll 15 = some (.aaload) := by decide +kernel
theorem i_X7_vectorsOfAll_16 : ins MX7_vectorsOfAll 16 = some (.getfield 111) := by decide +kernel
theorem i_X7_vectorsOfAll_19 : ins MX7_vectorsOfAll 19 = some (.iadd) := by decide +kernel
theorem i_X7_vectorsOfAll_20 : ins MX7_vectorsOfAll 20 = some (.istore_n 1) := by decide +kernel
theorem i_X7_vectorsOfAll_21 : ins MX7_vectorsOfAll 21 = some (.iinc 2 1) := by decide +kernel
theorem i_X7_vectorsOfAll_24 : ins MX7_vectorsOfAll 24 = some (.goto (-20)) := by decide +kernel
theorem i_X7_vectorsOfAll_27 : ins MX7_vectorsOfAll 27 = some (.iload_n 1) := by decide +kernel
theorem i_X7_vectorsOfAll_28 : ins MX7_vectorsOfAll 28 = some (.ireturn) := by decide +kernel
theorem i_X7_tornOfAll_0 : ins MX7_tornOfAll 0 = some (.iconst 0) := by decide +kernel
theorem i_X7_tornOfAll_1 : ins MX7_tornOfAll 1 = some (.istore_n 1) := by decide +kernel
theorem i_X7_tornOfAll_2 : ins MX7_tornOfAll 2 = some (.iconst 0) := by decide +kernel
theorem i_X7_tornOfAll_3 : ins MX7_tornOfAll 3 = some (.istore_n 2) := by decide +kernel
theorem i_X7_tornOfAll_4 : ins MX7_tornOfAll 4 = some (.iload_n 2) := by decide +kernel
theorem i_X7_tornOfAll_5 : ins MX7_tornOfAll 5 = some (.iconst 4) := by decide +kernel
theorem i_X7_tornOfAll_6 : ins MX7_tornOfAll 6 = some (.if_icmp .ge 24) := by decide +kernel
theorem i_X7_tornOfAll_9 : ins MX7_tornOfAll 9 = some (.iload_n 1) := by decide +kernel
theorem i_X7_tornOfAll_10 : ins MX7_tornOfAll 10 = some (.aload_n 0) := by decide +kernel
theorem i_X7_tornOfAll_11 : ins MX7_tornOfAll 11 = some (.getfield 18) := by decide +kernel
theorem i_X7_tornOfAll_14 : ins MX7_tornOfAll 14 = some (.iload_n 2) := by decide +kernel
theorem i_X7_tornOfAll_15 : ins MX7_tornOfAll 15 = some (.aaload) := by decide +kernel
theorem i_X7_tornOfAll_16 : ins MX7_tornOfAll 16 = some (.getfield 120) := by decide +kernel
theorem i_X7_tornOfAll_19 : ins MX7_tornOfAll 19 = some (.invokestatic 124) := by decide +kernel
theorem i_X7_tornOfAll_22 : ins MX7_tornOfAll 22 = some (.iadd) := by decide +kernel
theorem i_X7_tornOfAll_23 : ins MX7_tornOfAll 23 = some (.istore_n 1) := by decide +kernel
theorem i_X7_tornOfAll_24 : ins MX7_tornOfAll 24 = some (.iinc 2 1) := by decide +kernel
theorem i_X7_tornOfAll_27 : ins MX7_tornOfAll 27 = some (.goto (-23)) := by decide +kernel
theorem i_X7_tornOfAll_30 : ins MX7_tornOfAll 30 = some (.iload_n 1) := by decide +kernel
theorem i_X7_tornOfAll_31 : ins MX7_tornOfAll 31 = some (.ireturn) := by decide +kernel
theorem i_X7_tableWords_0 : ins MX7_tableWords 0 = some (.aload_n 0) := by decide +kernel
theorem i_X7_tableWords_1 : ins MX7_tableWords 1 = some (.getfield 46) := by decide +kernel
theorem i_X7_tableWords_4 : ins MX7_tableWords 4 = some (.aload_n 0) := by decide +kernel
theorem i_X7_tableWords_5 : ins MX7_tableWords 5 = some (.getfield 10) := by decide +kernel
theorem i_X7_tableWords_8 : ins MX7_tableWords 8 = some (.iload_n 1) := by decide +kernel
theorem i_X7_tableWords_9 : ins MX7_tableWords 9 = some (.iload_n 2) := by decide +kernel
theorem i_X7_tableWords_10 : ins MX7_tableWords 10 = some (.invokevirtual 239) := by decide +kernel
theorem i_X7_tableWords_13 : ins MX7_tableWords 13 = some (.iconst 0) := by decide +kernel
theorem i_X7_tableWords_14 : ins MX7_tableWords 14 = some (.istore_n 3) := by decide +kernel
theorem i_X7_tableWords_15 : ins MX7_tableWords 15 = some (.iconst 0) := by decide +kernel
theorem i_X7_tableWords_16 : ins MX7_tableWords 16 = some (.istore 4) := by decide +kernel
theorem i_X7_tableWords_18 : ins MX7_tableWords 18 = some (.iload 4) := by decide +kernel
theorem i_X7_tableWords_20 : ins MX7_tableWords 20 = some (.iconst 4) := by decide +kernel
theorem i_X7_tableWords_21 : ins MX7_tableWords 21 = some (.if_icmp .ge 31) := by decide +kernel
theorem i_X7_tableWords_24 : ins MX7_tableWords 24 = some (.iload_n 3) := by decide +kernel
theorem i_X7_tableWords_25 : ins MX7_tableWords 25 = some (.aload_n 0) := by decide +kernel
theorem i_X7_tableWords_26 : ins MX7_tableWords 26 = some (.iload 4) := by decide +kernel
theorem i_X7_tableWords_28 : ins MX7_tableWords 28 = some (.aload_n 0) := by decide +kernel
theorem i_X7_tableWords_29 : ins MX7_tableWords 29 = some (.getfield 18) := by decide +kernel
theorem i_X7_tableWords_32 : ins MX7_tableWords 32 = some (.iload 4) := by decide +kernel
theorem i_X7_tableWords_34 : ins MX7_tableWords 34 = some (.aaload) := by decide +kernel
theorem i_X7_tableWords_35 : ins MX7_tableWords 35 = some (.getfield 111) := by decide +kernel
theorem i_X7_tableWords_38 : ins MX7_tableWords 38 = some (.invokestatic 306) := by decide +kernel
theorem i_X7_tableWords_41 : ins MX7_tableWords 41 = some (.invokevirtual 243) := by decide +kernel
theorem i_X7_tableWords_44 : ins MX7_tableWords 44 = some (.iadd) := by decide +kernel
theorem i_X7_tableWords_45 : ins MX7_tableWords 45 = some (.istore_n 3) := by decide +kernel
theorem i_X7_tableWords_46 : ins MX7_tableWords 46 = some (.iinc 4 1) := by decide +kernel
theorem i_X7_tableWords_49 : ins MX7_tableWords 49 = some (.goto (-31)) := by decide +kernel
theorem i_X7_tableWords_52 : ins MX7_tableWords 52 = some (.iload_n 3) := by decide +kernel
theorem i_X7_tableWords_53 : ins MX7_tableWords 53 = some (.ireturn) := by decide +kernel
theorem i_X7_squeezedWords_0 : ins MX7_squeezedWords 0 = some (.iconst 0) := by decide +kernel
theorem i_X7_squeezedWords_1 : ins MX7_squeezedWords 1 = some (.istore 4) := by decide +kernel
theorem i_X7_squeezedWords_3 : ins MX7_squeezedWords 3 = some (.lconst 0) := by decide +kernel
theorem i_X7_squeezedWords_4 : ins MX7_squeezedWords 4 = some (.lstore 5) := by decide +kernel
theorem i_X7_squeezedWords_6 : ins MX7_squeezedWords 6 = some (.lconst 0) := by decide +kernel
theorem i_X7_squeezedWords_7 : ins MX7_squeezedWords 7 = some (.lstore 7) := by decide +kernel
theorem i_X7_squeezedWords_9 : ins MX7_squeezedWords 9 = some (.iconst 0) := by decide +kernel
theorem i_X7_squeezedWords_10 : ins MX7_squeezedWords 10 = some (.istore 9) := by decide +kernel
theorem i_X7_squeezedWords_12 : ins MX7_squeezedWords 12 = some (.iload 9) := by decide +kernel
theorem i_X7_squeezedWords_14 : ins MX7_squeezedWords 14 = some (.bipush 7) := by decide +kernel
theorem i_X7_squeezedWords_16 : ins MX7_squeezedWords 16 = some (.iadd) := by decide +kernel
theorem i_X7_squeezedWords_17 : ins MX7_squeezedWords 17 = some (.bipush 64) := by decide +kernel
theorem i_X7_squeezedWords_19 : ins MX7_squeezedWords 19 = some (.if_icmp .gt 133) := by decide +kernel
theorem i_X7_squeezedWords_22 : ins MX7_squeezedWords 22 = some (.lload_n 2) := by decide +kernel
theorem i_X7_squeezedWords_23 : ins MX7_squeezedWords 23 = some (.lstore 10) := by decide +kernel
theorem i_X7_squeezedWords_25 : ins MX7_squeezedWords 25 = some (.lconst 0) := by decide +kernel
theorem i_X7_squeezedWords_26 : ins MX7_squeezedWords 26 = some (.lstore 12) := by decide +kernel
theorem i_X7_squeezedWords_28 : ins MX7_squeezedWords 28 = some (.iload 9) := by decide +kernel
theorem i_X7_squeezedWords_30 : ins MX7_squeezedWords 30 = some (.istore 14) := by decide +kernel
theorem i_X7_squeezedWords_32 : ins MX7_squeezedWords 32 = some (.iload 14) := by decide +kernel
theorem i_X7_squeezedWords_34 : ins MX7_squeezedWords 34 = some (.iload 9) := by decide +kernel
theorem i_X7_squeezedWords_36 : ins MX7_squeezedWords 36 = some (.bipush 7) := by decide +kernel
theorem i_X7_squeezedWords_38 : ins MX7_squeezedWords 38 = some (.iadd) := by decide +kernel
theorem i_X7_squeezedWords_39 : ins MX7_squeezedWords 39 = some (.if_icmp .ge 42) := by decide +kernel
theorem i_X7_squeezedWords_42 : ins MX7_squeezedWords 42 = some (.aload_n 0) := by decide +kernel
theorem i_X7_squeezedWords_43 : ins MX7_squeezedWords 43 = some (.aload_n 0) := by decide +kernel
theorem i_X7_squeezedWords_44 : ins MX7_squeezedWords 44 = some (.getfield 46) := by decide +kernel
theorem i_X7_squeezedWords_47 : ins MX7_squeezedWords 47 = some (.getfield 251) := by decide +kernel
theorem i_X7_squeezedWords_50 : ins MX7_squeezedWords 50 = some (.iload 14) := by decide +kernel
theorem i_X7_squeezedWords_52 : ins MX7_squeezedWords 52 = some (.iaload) := by decide +kernel
theorem i_X7_squeezedWords_53 : ins MX7_squeezedWords 53 = some (.iload_n 1) := by decide +kernel
theorem i_X7_squeezedWords_54 : ins MX7_squeezedWords 54 = some (.invokevirtual 148) := by decide +kernel
theorem i_X7_squeezedWords_57 : ins MX7_squeezedWords 57 = some (.lload_n 2) := by decide +kernel
theorem i_X7_squeezedWords_58 : ins MX7_squeezedWords 58 = some (.land) := by decide +kernel
theorem i_X7_squeezedWords_59 : ins MX7_squeezedWords 59 = some (.lstore 15) := by decide +kernel
theorem i_X7_squeezedWords_61 : ins MX7_squeezedWords 61 = some (.lload 10) := by decide +kernel
theorem i_X7_squeezedWords_63 : ins MX7_squeezedWords 63 = some (.lload 15) := by decide +kernel
theorem i_X7_squeezedWords_65 : ins MX7_squeezedWords 65 = some (.land) := by decide +kernel
theorem i_X7_squeezedWords_66 : ins MX7_squeezedWords 66 = some (.lstore 10) := by decide +kernel
theorem i_X7_squeezedWords_68 : ins MX7_squeezedWords 68 = some (.lload 12) := by decide +kernel
theorem i_X7_squeezedWords_70 : ins MX7_squeezedWords 70 = some (.lload 15) := by decide +kernel
theorem i_X7_squeezedWords_72 : ins MX7_squeezedWords 72 = some (.lor) := by decide +kernel
theorem i_X7_squeezedWords_73 : ins MX7_squeezedWords 73 = some (.lstore 12) := by decide +kernel
theorem i_X7_squeezedWords_75 : ins MX7_squeezedWords 75 = some (.iinc 14 1) := by decide +kernel
theorem i_X7_squeezedWords_78 : ins MX7_squeezedWords 78 = some (.goto (-46)) := by decide +kernel
theorem i_X7_squeezedWords_81 : ins MX7_squeezedWords 81 = some (.lload_n 2) := by decide +kernel
theorem i_X7_squeezedWords_82 : ins MX7_squeezedWords 82 = some (.lload 12) := by decide +kernel
theorem i_X7_squeezedWords_84 : ins MX7_squeezedWords 84 = some (.ldc2_w 297) := by decide +kernel
theorem i_X7_squeezedWords_87 : ins MX7_squeezedWords 87 = some (.lxor) := by decide +kernel
theorem i_X7_squeezedWords_88 : ins MX7_squeezedWords 88 = some (.land) := by decide +kernel
theorem i_X7_squeezedWords_89 : ins MX7_squeezedWords 89 = some (.lstore 14) := by decide +kernel
theorem i_X7_squeezedWords_91 : ins MX7_squeezedWords 91 = some (.iload 4) := by decide +kernel
theorem i_X7_squeezedWords_93 : ins MX7_squeezedWords 93 = some (.lload 12) := by decide +kernel
theorem i_X7_squeezedWords_95 : ins MX7_squeezedWords 95 = some (.lload 10) := by decide +kernel
theorem i_X7_squeezedWords_97 : ins MX7_squeezedWords 97 = some (.ldc2_w 297) := by decide +kernel
theorem i_X7_squeezedWords_100 : ins MX7_squeezedWords 100 = some (.lxor) := by decide +kernel
theorem i_X7_squeezedWords_101 : ins MX7_squeezedWords 101 = some (.land) := by decide +kernel
theorem i_X7_squeezedWords_102 : ins MX7_squeezedWords 102 = some (.invokestatic 124) := by decide +kernel
theorem i_X7_squeezedWords_105 : ins MX7_squeezedWords 105 = some (.iadd) := by decide +kernel
theorem i_X7_squeezedWords_106 : ins MX7_squeezedWords 106 = some (.istore 4) := by decide +kernel
theorem i_X7_squeezedWords_108 : ins MX7_squeezedWords 108 = some (.iload 4) := by decide +kernel
theorem i_X7_squeezedWords_110 : ins MX7_squeezedWords 110 = some (.lload 10) := by decide +kernel
theorem i_X7_squeezedWords_112 : ins MX7_squeezedWords 112 = some (.lload 7) := by decide +kernel
theorem i_X7_squeezedWords_114 : ins MX7_squeezedWords 114 = some (.ldc2_w 297) := by decide +kernel
theorem i_X7_squeezedWords_117 : ins MX7_squeezedWords 117 = some (.lxor) := by decide +kernel
theorem i_X7_squeezedWords_118 : ins MX7_squeezedWords 118 = some (.land) := by decide +kernel
theorem i_X7_squeezedWords_119 : ins MX7_squeezedWords 119 = some (.invokestatic 124) := by decide +kernel
theorem i_X7_squeezedWords_122 : ins MX7_squeezedWords 122 = some (.lload 14) := by decide +kernel
theorem i_X7_squeezedWords_124 : ins MX7_squeezedWords 124 = some (.lload 5) := by decide +kernel
theorem i_X7_squeezedWords_126 : ins MX7_squeezedWords 126 = some (.ldc2_w 297) := by decide +kernel
theorem i_X7_squeezedWords_129 : ins MX7_squeezedWords 129 = some (.lxor) := by decide +kernel
theorem i_X7_squeezedWords_130 : ins MX7_squeezedWords 130 = some (.land) := by decide +kernel
theorem i_X7_squeezedWords_131 : ins MX7_squeezedWords 131 = some (.invokestatic 124) := by decide +kernel
theorem i_X7_squeezedWords_134 : ins MX7_squeezedWords 134 = some (.iadd) := by decide +kernel
theorem i_X7_squeezedWords_135 : ins MX7_squeezedWords 135 = some (.iadd) := by decide +kernel
theorem i_X7_squeezedWords_136 : ins MX7_squeezedWords 136 = some (.istore 4) := by decide +kernel
theorem i_X7_squeezedWords_138 : ins MX7_squeezedWords 138 = some (.lload 10) := by decide +kernel
theorem i_X7_squeezedWords_140 : ins MX7_squeezedWords 140 = some (.lstore 7) := by decide +kernel
theorem i_X7_squeezedWords_142 : ins MX7_squeezedWords 142 = some (.lload 14) := by decide +kernel
theorem i_X7_squeezedWords_144 : ins MX7_squeezedWords 144 = some (.lstore 5) := by decide +kernel
theorem i_X7_squeezedWords_146 : ins MX7_squeezedWords 146 = some (.iinc 9 7) := by decide +kernel
theorem i_X7_squeezedWords_149 : ins MX7_squeezedWords 149 = some (.goto (-137)) := by decide +kernel
theorem i_X7_squeezedWords_152 : ins MX7_squeezedWords 152 = some (.iload 9) := by decide +kernel
theorem i_X7_squeezedWords_154 : ins MX7_squeezedWords 154 = some (.bipush 64) := by decide +kernel
theorem i_X7_squeezedWords_156 : ins MX7_squeezedWords 156 = some (.if_icmp .ge 13) := by decide +kernel
theorem i_X7_squeezedWords_159 : ins MX7_squeezedWords 159 = some (.iload 4) := by decide +kernel
theorem i_X7_squeezedWords_161 : ins MX7_squeezedWords 161 = some (.lload_n 2) := by decide +kernel
theorem i_X7_squeezedWords_162 : ins MX7_squeezedWords 162 = some (.invokestatic 124) := by decide +kernel
theorem i_X7_squeezedWords_165 : ins MX7_squeezedWords 165 = some (.iadd) := by decide +kernel
theorem i_X7_squeezedWords_166 : ins MX7_squeezedWords 166 = some (.goto 5) := by decide +kernel
theorem i_X7_squeezedWords_169 : ins MX7_squeezedWords 169 = some (.iload 4) := by decide +kernel
theorem i_X7_squeezedWords_171 : ins MX7_squeezedWords 171 = some (.ireturn) := by decide +kernel
theorem i_J13_bitCount_95d88_0 : ins MJ13_bitCount_95d88 0 = some (.lload_n 0) := by decide +kernel
theorem i_J13_bitCount_95d88_1 : ins MJ13_bitCount_95d88 1 = some (.lload_n 0) := by decide +kernel
theorem i_J13_bitCount_95d88_2 : ins MJ13_bitCount_95d88 2 = some (.iconst 1) := by decide +kernel
theorem i_J13_bitCount_95d88_3 : ins MJ13_bitCount_95d88 3 = some (.lushr) := by decide +kernel
theorem i_J13_bitCount_95d88_4 : ins MJ13_bitCount_95d88 4 = some (.ldc2_w 314) := by decide +kernel
theorem i_J13_bitCount_95d88_7 : ins MJ13_bitCount_95d88 7 = some (.land) := by decide +kernel
theorem i_J13_bitCount_95d88_8 : ins MJ13_bitCount_95d88 8 = some (.lsub) := by decide +kernel
theorem i_J13_bitCount_95d88_9 : ins MJ13_bitCount_95d88 9 = some (.lstore_n 0) := by decide +kernel
theorem i_J13_bitCount_95d88_10 : ins MJ13_bitCount_95d88 10 = some (.lload_n 0) := by decide +kernel
theorem i_J13_bitCount_95d88_11 : ins MJ13_bitCount_95d88 11 = some (.ldc2_w 316) := by decide +kernel
theorem i_J13_bitCount_95d88_14 : ins MJ13_bitCount_95d88 14 = some (.land) := by decide +kernel
theorem i_J13_bitCount_95d88_15 : ins MJ13_bitCount_95d88 15 = some (.lload_n 0) := by decide +kernel
theorem i_J13_bitCount_95d88_16 : ins MJ13_bitCount_95d88 16 = some (.iconst 2) := by decide +kernel
theorem i_J13_bitCount_95d88_17 : ins MJ13_bitCount_95d88 17 = some (.lushr) := by decide +kernel
theorem i_J13_bitCount_95d88_18 : ins MJ13_bitCount_95d88 18 = some (.ldc2_w 316) := by decide +kernel
theorem i_J13_bitCount_95d88_21 : ins MJ13_bitCount_95d88 21 = some (.land) := by decide +kernel
theorem i_J13_bitCount_95d88_22 : ins MJ13_bitCount_95d88 22 = some (.ladd) := by decide +kernel
theorem i_J13_bitCount_95d88_23 : ins MJ13_bitCount_95d88 23 = some (.lstore_n 0) := by decide +kernel
theorem i_J13_bitCount_95d88_24 : ins MJ13_bitCount_95d88 24 = some (.lload_n 0) := by decide +kernel
theorem i_J13_bitCount_95d88_25 : ins MJ13_bitCount_95d88 25 = some (.lload_n 0) := by decide +kernel
theorem i_J13_bitCount_95d88_26 : ins MJ13_bitCount_95d88 26 = some (.iconst 4) := by decide +kernel
theorem i_J13_bitCount_95d88_27 : ins MJ13_bitCount_95d88 27 = some (.lushr) := by decide +kernel
theorem i_J13_bitCount_95d88_28 : ins MJ13_bitCount_95d88 28 = some (.ladd) := by decide +kernel
theorem i_J13_bitCount_95d88_29 : ins MJ13_bitCount_95d88 29 = some (.ldc2_w 318) := by decide +kernel
theorem i_J13_bitCount_95d88_32 : ins MJ13_bitCount_95d88 32 = some (.land) := by decide +kernel
theorem i_J13_bitCount_95d88_33 : ins MJ13_bitCount_95d88 33 = some (.lstore_n 0) := by decide +kernel
theorem i_J13_bitCount_95d88_34 : ins MJ13_bitCount_95d88 34 = some (.lload_n 0) := by decide +kernel
theorem i_J13_bitCount_95d88_35 : ins MJ13_bitCount_95d88 35 = some (.lload_n 0) := by decide +kernel
theorem i_J13_bitCount_95d88_36 : ins MJ13_bitCount_95d88 36 = some (.bipush 8) := by decide +kernel
theorem i_J13_bitCount_95d88_38 : ins MJ13_bitCount_95d88 38 = some (.lushr) := by decide +kernel
theorem i_J13_bitCount_95d88_39 : ins MJ13_bitCount_95d88 39 = some (.ladd) := by decide +kernel
theorem i_J13_bitCount_95d88_40 : ins MJ13_bitCount_95d88 40 = some (.lstore_n 0) := by decide +kernel
theorem i_J13_bitCount_95d88_41 : ins MJ13_bitCount_95d88 41 = some (.lload_n 0) := by decide +kernel
theorem i_J13_bitCount_95d88_42 : ins MJ13_bitCount_95d88 42 = some (.lload_n 0) := by decide +kernel
theorem i_J13_bitCount_95d88_43 : ins MJ13_bitCount_95d88 43 = some (.bipush 16) := by decide +kernel
theorem i_J13_bitCount_95d88_45 : ins MJ13_bitCount_95d88 45 = some (.lushr) := by decide +kernel
theorem i_J13_bitCount_95d88_46 : ins MJ13_bitCount_95d88 46 = some (.ladd) := by decide +kernel
theorem i_J13_bitCount_95d88_47 : ins MJ13_bitCount_95d88 47 = some (.lstore_n 0) := by decide +kernel
theorem i_J13_bitCount_95d88_48 : ins MJ13_bitCount_95d88 48 = some (.lload_n 0) := by decide +kernel
theorem i_J13_bitCount_95d88_49 : ins MJ13_bitCount_95d88 49 = some (.lload_n 0) := by decide +kernel
theorem i_J13_bitCount_95d88_50 : ins MJ13_bitCount_95d88 50 = some (.bipush 32) := by decide +kernel
theorem i_J13_bitCount_95d88_52 : ins MJ13_bitCount_95d88 52 = some (.lushr) := by decide +kernel
theorem i_J13_bitCount_95d88_53 : ins MJ13_bitCount_95d88 53 = some (.ladd) := by decide +kernel
theorem i_J13_bitCount_95d88_54 : ins MJ13_bitCount_95d88 54 = some (.lstore_n 0) := by decide +kernel
theorem i_J13_bitCount_95d88_55 : ins MJ13_bitCount_95d88 55 = some (.lload_n 0) := by decide +kernel
theorem i_J13_bitCount_95d88_56 : ins MJ13_bitCount_95d88 56 = some (.l2i) := by decide +kernel
theorem i_J13_bitCount_95d88_57 : ins MJ13_bitCount_95d88 57 = some (.bipush 127) := by decide +kernel
theorem i_J13_bitCount_95d88_59 : ins MJ13_bitCount_95d88 59 = some (.iand) := by decide +kernel
theorem i_J13_bitCount_95d88_60 : ins MJ13_bitCount_95d88 60 = some (.ireturn) := by decide +kernel
