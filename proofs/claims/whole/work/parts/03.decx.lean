theorem dX0_init_0 : decode cX0_init 0 = .ok (.aload_n 0, 1) := by decide +kernel
theorem dX0_init_1 : decode cX0_init 1 = .ok (.invokespecial 3, 3) := by decide +kernel
theorem dX0_init_4 : decode cX0_init 4 = .ok (.aload_n 0, 1) := by decide +kernel
theorem dX0_init_5 : decode cX0_init 5 = .ok (.bipush 9, 2) := by decide +kernel
theorem dX0_init_7 : decode cX0_init 7 = .ok (.bipush 6, 2) := by decide +kernel
theorem dX0_init_9 : decode cX0_init 9 = .ok (.multianewarray 9 2, 4) := by decide +kernel
theorem dX0_init_13 : decode cX0_init 13 = .ok (.putfield 11, 3) := by decide +kernel
theorem dX0_init_16 : decode cX0_init 16 = .ok (.aload_n 0, 1) := by decide +kernel
theorem dX0_init_17 : decode cX0_init 17 = .ok (.aload_n 1, 1) := by decide +kernel
theorem dX0_init_18 : decode cX0_init 18 = .ok (.putfield 16, 3) := by decide +kernel
theorem dX0_init_21 : decode cX0_init 21 = .ok (.return_, 1) := by decide +kernel
theorem dX0_foresee_0 : decode cX0_foresee 0 = .ok (.aload_n 0, 1) := by decide +kernel
theorem dX0_foresee_1 : decode cX0_foresee 1 = .ok (.getfield 16, 3) := by decide +kernel
theorem dX0_foresee_4 : decode cX0_foresee 4 = .ok (.aload_n 1, 1) := by decide +kernel
theorem dX0_foresee_5 : decode cX0_foresee 5 = .ok (.invokevirtual 20, 3) := by decide +kernel
theorem dX0_foresee_8 : decode cX0_foresee 8 = .ok (.aload_n 0, 1) := by decide +kernel
theorem dX0_foresee_9 : decode cX0_foresee 9 = .ok (.iconst 0, 1) := by decide +kernel
theorem dX0_foresee_10 : decode cX0_foresee 10 = .ok (.putfield 26, 3) := by decide +kernel
theorem dX0_foresee_13 : decode cX0_foresee 13 = .ok (.aload_n 0, 1) := by decide +kernel
theorem dX0_foresee_14 : decode cX0_foresee 14 = .ok (.iconst 1, 1) := by decide +kernel
theorem dX0_foresee_15 : decode cX0_foresee 15 = .ok (.putfield 30, 3) := by decide +kernel
theorem dX0_foresee_18 : decode cX0_foresee 18 = .ok (.aload_n 0, 1) := by decide +kernel
theorem dX0_foresee_19 : decode cX0_foresee 19 = .ok (.iconst 0, 1) := by decide +kernel
theorem dX0_foresee_20 : decode cX0_foresee 20 = .ok (.invokestatic 34, 3) := by decide +kernel
theorem dX0_foresee_23 : decode cX0_foresee 23 = .ok (.istore_n 2, 1) := by decide +kernel
theorem dX0_foresee_24 : decode cX0_foresee 24 = .ok (.aload_n 0, 1) := by decide +kernel
theorem dX0_foresee_25 : decode cX0_foresee 25 = .ok (.iconst 0, 1) := by decide +kernel
theorem dX0_foresee_26 : decode cX0_foresee 26 = .ok (.putfield 26, 3) := by decide +kernel
theorem dX0_foresee_29 : decode cX0_foresee 29 = .ok (.aload_n 0, 1) := by decide +kernel
theorem dX0_foresee_30 : decode cX0_foresee 30 = .ok (.iconst 0, 1) := by decide +kernel
theorem dX0_foresee_31 : decode cX0_foresee 31 = .ok (.putfield 30, 3) := by decide +kernel
theorem dX0_foresee_34 : decode cX0_foresee 34 = .ok (.iload_n 2, 1) := by decide +kernel
theorem dX0_foresee_35 : decode cX0_foresee 35 = .ok (.ifCond .eq 15, 3) := by decide +kernel
theorem dX0_foresee_38 : decode cX0_foresee 38 = .ok (.aload_n 0, 1) := by decide +kernel
theorem dX0_foresee_39 : decode cX0_foresee 39 = .ok (.iconst 0, 1) := by decide +kernel
theorem dX0_foresee_40 : decode cX0_foresee 40 = .ok (.invokestatic 34, 3) := by decide +kernel
theorem dX0_foresee_43 : decode cX0_foresee 43 = .ok (.ifCond .eq 7, 3) := by decide +kernel
theorem dX0_foresee_46 : decode cX0_foresee 46 = .ok (.iconst 1, 1) := by decide +kernel
theorem dX0_foresee_47 : decode cX0_foresee 47 = .ok (.goto 4, 3) := by decide +kernel
theorem dX0_foresee_50 : decode cX0_foresee 50 = .ok (.iconst 0, 1) := by decide +kernel
theorem dX0_foresee_51 : decode cX0_foresee 51 = .ok (.ireturn, 1) := by decide +kernel
theorem dX0_think_0 : decode cX0_think 0 = .ok (.aload_n 0, 1) := by decide +kernel
theorem dX0_think_1 : decode cX0_think 1 = .ok (.getfield 16, 3) := by decide +kernel
theorem dX0_think_4 : decode cX0_think 4 = .ok (.getfield 38, 3) := by decide +kernel
theorem dX0_think_7 : decode cX0_think 7 = .ok (.astore_n 2, 1) := by decide +kernel
theorem dX0_think_8 : decode cX0_think 8 = .ok (.iload_n 1, 1) := by decide +kernel
theorem dX0_think_9 : decode cX0_think 9 = .ok (.bipush 8, 2) := by decide +kernel
theorem dX0_think_11 : decode cX0_think 11 = .ok (.if_icmp .ge 11, 3) := by decide +kernel
theorem dX0_think_14 : decode cX0_think 14 = .ok (.iload_n 1, 1) := by decide +kernel
theorem dX0_think_15 : decode cX0_think 15 = .ok (.aload_n 2, 1) := by decide +kernel
theorem dX0_think_16 : decode cX0_think 16 = .ok (.getfield 42, 3) := by decide +kernel
theorem dX0_think_19 : decode cX0_think 19 = .ok (.if_icmp .lt 10, 3) := by decide +kernel
theorem dX0_think_22 : decode cX0_think 22 = .ok (.aload_n 0, 1) := by decide +kernel
theorem dX0_think_23 : decode cX0_think 23 = .ok (.iload_n 1, 1) := by decide +kernel
theorem dX0_think_24 : decode cX0_think 24 = .ok (.invokevirtual 47, 3) := by decide +kernel
theorem dX0_think_27 : decode cX0_think 27 = .ok (.iconst 1, 1) := by decide +kernel
theorem dX0_think_28 : decode cX0_think 28 = .ok (.ireturn, 1) := by decide +kernel
theorem dX0_think_29 : decode cX0_think 29 = .ok (.aload_n 0, 1) := by decide +kernel
theorem dX0_think_30 : decode cX0_think 30 = .ok (.dup, 1) := by decide +kernel
theorem dX0_think_31 : decode cX0_think 31 = .ok (.getfield 26, 3) := by decide +kernel
theorem dX0_think_34 : decode cX0_think 34 = .ok (.iconst 1, 1) := by decide +kernel
theorem dX0_think_35 : decode cX0_think 35 = .ok (.iadd, 1) := by decide +kernel
theorem dX0_think_36 : decode cX0_think 36 = .ok (.putfield 26, 3) := by decide +kernel
theorem dX0_think_39 : decode cX0_think 39 = .ok (.aload_n 0, 1) := by decide +kernel
theorem dX0_think_40 : decode cX0_think 40 = .ok (.getfield 26, 3) := by decide +kernel
theorem dX0_think_43 : decode cX0_think 43 = .ok (.sipush 3000, 3) := by decide +kernel
theorem dX0_think_46 : decode cX0_think 46 = .ok (.if_icmp .le 5, 3) := by decide +kernel
theorem dX0_think_49 : decode cX0_think 49 = .ok (.iconst 0, 1) := by decide +kernel
theorem dX0_think_50 : decode cX0_think 50 = .ok (.ireturn, 1) := by decide +kernel
theorem dX0_think_51 : decode cX0_think 51 = .ok (.aload_n 0, 1) := by decide +kernel
theorem dX0_think_52 : decode cX0_think 52 = .ok (.getfield 30, 3) := by decide +kernel
theorem dX0_think_55 : decode cX0_think 55 = .ok (.ifCond .eq 15, 3) := by decide +kernel
theorem dX0_think_58 : decode cX0_think 58 = .ok (.iload_n 1, 1) := by decide +kernel
theorem dX0_think_59 : decode cX0_think 59 = .ok (.iconst 1, 1) := by decide +kernel
theorem dX0_think_60 : decode cX0_think 60 = .ok (.iadd, 1) := by decide +kernel
theorem dX0_think_61 : decode cX0_think 61 = .ok (.aload_n 2, 1) := by decide +kernel
theorem dX0_think_62 : decode cX0_think 62 = .ok (.getfield 42, 3) := by decide +kernel
theorem dX0_think_65 : decode cX0_think 65 = .ok (.if_icmp .lt 5, 3) := by decide +kernel
theorem dX0_think_68 : decode cX0_think 68 = .ok (.iconst 1, 1) := by decide +kernel
theorem dX0_think_69 : decode cX0_think 69 = .ok (.ireturn, 1) := by decide +kernel
theorem dX0_think_70 : decode cX0_think 70 = .ok (.aload_n 0, 1) := by decide +kernel
theorem dX0_think_71 : decode cX0_think 71 = .ok (.iload_n 1, 1) := by decide +kernel
theorem dX0_think_72 : decode cX0_think 72 = .ok (.iconst 1, 1) := by decide +kernel
theorem dX0_think_73 : decode cX0_think 73 = .ok (.iadd, 1) := by decide +kernel
theorem dX0_think_74 : decode cX0_think 74 = .ok (.invokestatic 34, 3) := by decide +kernel
theorem dX0_think_77 : decode cX0_think 77 = .ok (.ifCond .ne 5, 3) := by decide +kernel
theorem dX0_think_80 : decode cX0_think 80 = .ok (.iconst 0, 1) := by decide +kernel
theorem dX0_think_81 : decode cX0_think 81 = .ok (.ireturn, 1) := by decide +kernel
theorem dX0_think_82 : decode cX0_think 82 = .ok (.aload_n 0, 1) := by decide +kernel
theorem dX0_think_83 : decode cX0_think 83 = .ok (.iload_n 1, 1) := by decide +kernel
theorem dX0_think_84 : decode cX0_think 84 = .ok (.invokevirtual 51, 3) := by decide +kernel
theorem dX0_think_87 : decode cX0_think 87 = .ok (.aload_n 2, 1) := by decide +kernel
theorem dX0_think_88 : decode cX0_think 88 = .ok (.getfield 54, 3) := by decide +kernel
theorem dX0_think_91 : decode cX0_think 91 = .ok (.iload_n 1, 1) := by decide +kernel
theorem dX0_think_92 : decode cX0_think 92 = .ok (.iaload, 1) := by decide +kernel
theorem dX0_think_93 : decode cX0_think 93 = .ok (.istore_n 3, 1) := by decide +kernel
theorem dX0_think_94 : decode cX0_think 94 = .ok (.aload_n 2, 1) := by decide +kernel
theorem dX0_think_95 : decode cX0_think 95 = .ok (.getfield 58, 3) := by decide +kernel
theorem dX0_think_98 : decode cX0_think 98 = .ok (.iload_n 1, 1) := by decide +kernel
theorem dX0_think_99 : decode cX0_think 99 = .ok (.iaload, 1) := by decide +kernel
theorem dX0_think_100 : decode cX0_think 100 = .ok (.istore 4, 2) := by decide +kernel
theorem dX0_think_102 : decode cX0_think 102 = .ok (.aload_n 0, 1) := by decide +kernel
theorem dX0_think_103 : decode cX0_think 103 = .ok (.getfield 11, 3) := by decide +kernel
theorem dX0_think_106 : decode cX0_think 106 = .ok (.iload_n 1, 1) := by decide +kernel
theorem dX0_think_107 : decode cX0_think 107 = .ok (.aaload, 1) := by decide +kernel
theorem dX0_think_108 : decode cX0_think 108 = .ok (.iload 4, 2) := by decide +kernel
theorem dX0_think_110 : decode cX0_think 110 = .ok (.iaload, 1) := by decide +kernel
theorem dX0_think_111 : decode cX0_think 111 = .ok (.istore 5, 2) := by decide +kernel
theorem dX0_think_113 : decode cX0_think 113 = .ok (.iload_n 3, 1) := by decide +kernel
theorem dX0_think_114 : decode cX0_think 114 = .ok (.iload 4, 2) := by decide +kernel
theorem dX0_think_116 : decode cX0_think 116 = .ok (.invokestatic 61, 3) := by decide +kernel
theorem dX0_think_119 : decode cX0_think 119 = .ok (.istore 6, 2) := by decide +kernel
theorem dX0_think_121 : decode cX0_think 121 = .ok (.iload_n 3, 1) := by decide +kernel
theorem dX0_think_122 : decode cX0_think 122 = .ok (.iload 4, 2) := by decide +kernel
theorem dX0_think_124 : decode cX0_think 124 = .ok (.invokestatic 67, 3) := by decide +kernel
theorem dX0_think_127 : decode cX0_think 127 = .ok (.istore 7, 2) := by decide +kernel
theorem dX0_think_129 : decode cX0_think 129 = .ok (.aload_n 0, 1) := by decide +kernel
theorem dX0_think_130 : decode cX0_think 130 = .ok (.iload_n 1, 1) := by decide +kernel
theorem dX0_think_131 : decode cX0_think 131 = .ok (.iload 6, 2) := by decide +kernel
theorem dX0_think_133 : decode cX0_think 133 = .ok (.iload 7, 2) := by decide +kernel
theorem dX0_think_135 : decode cX0_think 135 = .ok (.iload 5, 2) := by decide +kernel
theorem dX0_think_137 : decode cX0_think 137 = .ok (.invokestatic 70, 3) := by decide +kernel
theorem dX0_think_140 : decode cX0_think 140 = .ok (.ifCond .eq 21, 3) := by decide +kernel
theorem dX0_think_143 : decode cX0_think 143 = .ok (.aload_n 0, 1) := by decide +kernel
theorem dX0_think_144 : decode cX0_think 144 = .ok (.iload_n 1, 1) := by decide +kernel
theorem dX0_think_145 : decode cX0_think 145 = .ok (.iload 7, 2) := by decide +kernel
theorem dX0_think_147 : decode cX0_think 147 = .ok (.iload 6, 2) := by decide +kernel
theorem dX0_think_149 : decode cX0_think 149 = .ok (.iload 5, 2) := by decide +kernel
theorem dX0_think_151 : decode cX0_think 151 = .ok (.invokestatic 70, 3) := by decide +kernel
theorem dX0_think_154 : decode cX0_think 154 = .ok (.ifCond .eq 7, 3) := by decide +kernel
theorem dX0_think_157 : decode cX0_think 157 = .ok (.iconst 1, 1) := by decide +kernel
theorem dX0_think_158 : decode cX0_think 158 = .ok (.goto 4, 3) := by decide +kernel
theorem dX0_think_161 : decode cX0_think 161 = .ok (.iconst 0, 1) := by decide +kernel
theorem dX0_think_162 : decode cX0_think 162 = .ok (.ireturn, 1) := by decide +kernel
theorem dX0_thinkTrades_0 : decode cX0_thinkTrades 0 = .ok (.aload_n 0, 1) := by decide +kernel
theorem dX0_thinkTrades_1 : decode cX0_thinkTrades 1 = .ok (.getfield 16, 3) := by decide +kernel
theorem dX0_thinkTrades_4 : decode cX0_thinkTrades 4 = .ok (.astore 5, 2) := by decide +kernel
theorem dX0_thinkTrades_6 : decode cX0_thinkTrades 6 = .ok (.iload_n 1, 1) := by decide +kernel
theorem dX0_thinkTrades_7 : decode cX0_thinkTrades 7 = .ok (.iconst 1, 1) := by decide +kernel
theorem dX0_thinkTrades_8 : decode cX0_thinkTrades 8 = .ok (.iadd, 1) := by decide +kernel
theorem dX0_thinkTrades_9 : decode cX0_thinkTrades 9 = .ok (.aload 5, 2) := by decide +kernel
theorem dX0_thinkTrades_11 : decode cX0_thinkTrades 11 = .ok (.getfield 38, 3) := by decide +kernel
theorem dX0_thinkTrades_14 : decode cX0_thinkTrades 14 = .ok (.getfield 42, 3) := by decide +kernel
theorem dX0_thinkTrades_17 : decode cX0_thinkTrades 17 = .ok (.if_icmp .lt 7, 3) := by decide +kernel
theorem dX0_thinkTrades_20 : decode cX0_thinkTrades 20 = .ok (.iconst 1, 1) := by decide +kernel
theorem dX0_thinkTrades_21 : decode cX0_thinkTrades 21 = .ok (.goto 4, 3) := by decide +kernel
theorem dX0_thinkTrades_24 : decode cX0_thinkTrades 24 = .ok (.iconst 0, 1) := by decide +kernel
theorem dX0_thinkTrades_25 : decode cX0_thinkTrades 25 = .ok (.istore 6, 2) := by decide +kernel
theorem dX0_thinkTrades_27 : decode cX0_thinkTrades 27 = .ok (.iconst 0, 1) := by decide +kernel
theorem dX0_thinkTrades_28 : decode cX0_thinkTrades 28 = .ok (.istore 7, 2) := by decide +kernel
theorem dX0_thinkTrades_30 : decode cX0_thinkTrades 30 = .ok (.iload 7, 2) := by decide +kernel
theorem dX0_thinkTrades_32 : decode cX0_thinkTrades 32 = .ok (.aload 5, 2) := by decide +kernel
theorem dX0_thinkTrades_34 : decode cX0_thinkTrades 34 = .ok (.getfield 74, 3) := by decide +kernel
theorem dX0_thinkTrades_37 : decode cX0_thinkTrades 37 = .ok (.getfield 78, 3) := by decide +kernel
theorem dX0_thinkTrades_40 : decode cX0_thinkTrades 40 = .ok (.if_icmp .ge 125, 3) := by decide +kernel
theorem dX0_thinkTrades_43 : decode cX0_thinkTrades 43 = .ok (.aload 5, 2) := by decide +kernel
theorem dX0_thinkTrades_45 : decode cX0_thinkTrades 45 = .ok (.iload_n 2, 1) := by decide +kernel
theorem dX0_thinkTrades_46 : decode cX0_thinkTrades 46 = .ok (.iload 7, 2) := by decide +kernel
theorem dX0_thinkTrades_48 : decode cX0_thinkTrades 48 = .ok (.invokevirtual 83, 3) := by decide +kernel
theorem dX0_thinkTrades_51 : decode cX0_thinkTrades 51 = .ok (.ifCond .ne 6, 3) := by decide +kernel
theorem dX0_thinkTrades_54 : decode cX0_thinkTrades 54 = .ok (.goto 105, 3) := by decide +kernel
theorem dX0_thinkTrades_57 : decode cX0_thinkTrades 57 = .ok (.iconst 0, 1) := by decide +kernel
theorem dX0_thinkTrades_58 : decode cX0_thinkTrades 58 = .ok (.istore 8, 2) := by decide +kernel
theorem dX0_thinkTrades_60 : decode cX0_thinkTrades 60 = .ok (.iload 8, 2) := by decide +kernel
theorem dX0_thinkTrades_62 : decode cX0_thinkTrades 62 = .ok (.aload 5, 2) := by decide +kernel
theorem dX0_thinkTrades_64 : decode cX0_thinkTrades 64 = .ok (.getfield 38, 3) := by decide +kernel
theorem dX0_thinkTrades_67 : decode cX0_thinkTrades 67 = .ok (.getfield 87, 3) := by decide +kernel
theorem dX0_thinkTrades_70 : decode cX0_thinkTrades 70 = .ok (.if_icmp .ge 89, 3) := by decide +kernel
theorem dX0_thinkTrades_73 : decode cX0_thinkTrades 73 = .ok (.aload 5, 2) := by decide +kernel
theorem dX0_thinkTrades_75 : decode cX0_thinkTrades 75 = .ok (.iload_n 3, 1) := by decide +kernel
theorem dX0_thinkTrades_76 : decode cX0_thinkTrades 76 = .ok (.iload 7, 2) := by decide +kernel
theorem dX0_thinkTrades_78 : decode cX0_thinkTrades 78 = .ok (.iload 8, 2) := by decide +kernel
theorem dX0_thinkTrades_80 : decode cX0_thinkTrades 80 = .ok (.invokevirtual 90, 3) := by decide +kernel
theorem dX0_thinkTrades_83 : decode cX0_thinkTrades 83 = .ok (.ifCond .ne 6, 3) := by decide +kernel
theorem dX0_thinkTrades_86 : decode cX0_thinkTrades 86 = .ok (.goto 67, 3) := by decide +kernel
theorem dX0_thinkTrades_89 : decode cX0_thinkTrades 89 = .ok (.aload 5, 2) := by decide +kernel
theorem dX0_thinkTrades_91 : decode cX0_thinkTrades 91 = .ok (.iload_n 2, 1) := by decide +kernel
theorem dX0_thinkTrades_92 : decode cX0_thinkTrades 92 = .ok (.iload_n 3, 1) := by decide +kernel
theorem dX0_thinkTrades_93 : decode cX0_thinkTrades 93 = .ok (.iload 7, 2) := by decide +kernel
theorem dX0_thinkTrades_95 : decode cX0_thinkTrades 95 = .ok (.iload 8, 2) := by decide +kernel
theorem dX0_thinkTrades_97 : decode cX0_thinkTrades 97 = .ok (.iconst 1, 1) := by decide +kernel
theorem dX0_thinkTrades_98 : decode cX0_thinkTrades 98 = .ok (.invokevirtual 94, 3) := by decide +kernel
theorem dX0_thinkTrades_101 : decode cX0_thinkTrades 101 = .ok (.iload 6, 2) := by decide +kernel
theorem dX0_thinkTrades_103 : decode cX0_thinkTrades 103 = .ok (.ifCond .eq 15, 3) := by decide +kernel
theorem dX0_thinkTrades_106 : decode cX0_thinkTrades 106 = .ok (.aload_n 0, 1) := by decide +kernel
theorem dX0_thinkTrades_107 : decode cX0_thinkTrades 107 = .ok (.iload_n 1, 1) := by decide +kernel
theorem dX0_thinkTrades_108 : decode cX0_thinkTrades 108 = .ok (.iconst 1, 1) := by decide +kernel
theorem dX0_thinkTrades_109 : decode cX0_thinkTrades 109 = .ok (.iadd, 1) := by decide +kernel
theorem dX0_thinkTrades_110 : decode cX0_thinkTrades 110 = .ok (.iload_n 2, 1) := by decide +kernel
theorem dX0_thinkTrades_111 : decode cX0_thinkTrades 111 = .ok (.iload_n 3, 1) := by decide +kernel
theorem dX0_thinkTrades_112 : decode cX0_thinkTrades 112 = .ok (.invokevirtual 98, 3) := by decide +kernel
theorem dX0_thinkTrades_115 : decode cX0_thinkTrades 115 = .ok (.goto 10, 3) := by decide +kernel
theorem dX0_thinkTrades_118 : decode cX0_thinkTrades 118 = .ok (.aload_n 0, 1) := by decide +kernel
theorem dX0_thinkTrades_119 : decode cX0_thinkTrades 119 = .ok (.iload_n 1, 1) := by decide +kernel
theorem dX0_thinkTrades_120 : decode cX0_thinkTrades 120 = .ok (.iconst 1, 1) := by decide +kernel
theorem dX0_thinkTrades_121 : decode cX0_thinkTrades 121 = .ok (.iadd, 1) := by decide +kernel
theorem dX0_thinkTrades_122 : decode cX0_thinkTrades 122 = .ok (.invokestatic 34, 3) := by decide +kernel
theorem dX0_thinkTrades_125 : decode cX0_thinkTrades 125 = .ok (.istore 9, 2) := by decide +kernel
theorem dX0_thinkTrades_127 : decode cX0_thinkTrades 127 = .ok (.aload 5, 2) := by decide +kernel
theorem dX0_thinkTrades_129 : decode cX0_thinkTrades 129 = .ok (.iload_n 2, 1) := by decide +kernel
theorem dX0_thinkTrades_130 : decode cX0_thinkTrades 130 = .ok (.iload_n 3, 1) := by decide +kernel
theorem dX0_thinkTrades_131 : decode cX0_thinkTrades 131 = .ok (.iload 7, 2) := by decide +kernel
theorem dX0_thinkTrades_133 : decode cX0_thinkTrades 133 = .ok (.iload 8, 2) := by decide +kernel
theorem dX0_thinkTrades_135 : decode cX0_thinkTrades 135 = .ok (.iconst (-1), 1) := by decide +kernel
theorem dX0_thinkTrades_136 : decode cX0_thinkTrades 136 = .ok (.invokevirtual 94, 3) := by decide +kernel
theorem dX0_thinkTrades_139 : decode cX0_thinkTrades 139 = .ok (.iload 9, 2) := by decide +kernel
theorem dX0_thinkTrades_141 : decode cX0_thinkTrades 141 = .ok (.ifCond .ne 5, 3) := by decide +kernel
theorem dX0_thinkTrades_144 : decode cX0_thinkTrades 144 = .ok (.iconst 0, 1) := by decide +kernel
theorem dX0_thinkTrades_145 : decode cX0_thinkTrades 145 = .ok (.ireturn, 1) := by decide +kernel
theorem dX0_thinkTrades_146 : decode cX0_thinkTrades 146 = .ok (.aload_n 0, 1) := by decide +kernel
theorem dX0_thinkTrades_147 : decode cX0_thinkTrades 147 = .ok (.iload_n 1, 1) := by decide +kernel
theorem dX0_thinkTrades_148 : decode cX0_thinkTrades 148 = .ok (.iload 4, 2) := by decide +kernel
theorem dX0_thinkTrades_150 : decode cX0_thinkTrades 150 = .ok (.invokevirtual 101, 3) := by decide +kernel
theorem dX0_thinkTrades_153 : decode cX0_thinkTrades 153 = .ok (.iinc 8 1, 3) := by decide +kernel
theorem dX0_thinkTrades_156 : decode cX0_thinkTrades 156 = .ok (.goto (-96), 3) := by decide +kernel
theorem dX0_thinkTrades_159 : decode cX0_thinkTrades 159 = .ok (.iinc 7 1, 3) := by decide +kernel
theorem dX0_thinkTrades_162 : decode cX0_thinkTrades 162 = .ok (.goto (-132), 3) := by decide +kernel
theorem dX0_thinkTrades_165 : decode cX0_thinkTrades 165 = .ok (.iconst 1, 1) := by decide +kernel
theorem dX0_thinkTrades_166 : decode cX0_thinkTrades 166 = .ok (.ireturn, 1) := by decide +kernel
theorem dX0_seeEndOfTwo_0 : decode cX0_seeEndOfTwo 0 = .ok (.aload_n 0, 1) := by decide +kernel
theorem dX0_seeEndOfTwo_1 : decode cX0_seeEndOfTwo 1 = .ok (.getfield 11, 3) := by decide +kernel
theorem dX0_seeEndOfTwo_4 : decode cX0_seeEndOfTwo 4 = .ok (.iload_n 1, 1) := by decide +kernel
theorem dX0_seeEndOfTwo_5 : decode cX0_seeEndOfTwo 5 = .ok (.aaload, 1) := by decide +kernel
theorem dX0_seeEndOfTwo_6 : decode cX0_seeEndOfTwo 6 = .ok (.iload_n 2, 1) := by decide +kernel
theorem dX0_seeEndOfTwo_7 : decode cX0_seeEndOfTwo 7 = .ok (.aload_n 0, 1) := by decide +kernel
theorem dX0_seeEndOfTwo_8 : decode cX0_seeEndOfTwo 8 = .ok (.getfield 16, 3) := by decide +kernel
theorem dX0_seeEndOfTwo_11 : decode cX0_seeEndOfTwo 11 = .ok (.iload_n 2, 1) := by decide +kernel
theorem dX0_seeEndOfTwo_12 : decode cX0_seeEndOfTwo 12 = .ok (.invokevirtual 105, 3) := by decide +kernel
theorem dX0_seeEndOfTwo_15 : decode cX0_seeEndOfTwo 15 = .ok (.iastore, 1) := by decide +kernel
theorem dX0_seeEndOfTwo_16 : decode cX0_seeEndOfTwo 16 = .ok (.aload_n 0, 1) := by decide +kernel
theorem dX0_seeEndOfTwo_17 : decode cX0_seeEndOfTwo 17 = .ok (.getfield 11, 3) := by decide +kernel
theorem dX0_seeEndOfTwo_20 : decode cX0_seeEndOfTwo 20 = .ok (.iload_n 1, 1) := by decide +kernel
theorem dX0_seeEndOfTwo_21 : decode cX0_seeEndOfTwo 21 = .ok (.aaload, 1) := by decide +kernel
theorem dX0_seeEndOfTwo_22 : decode cX0_seeEndOfTwo 22 = .ok (.iload_n 3, 1) := by decide +kernel
theorem dX0_seeEndOfTwo_23 : decode cX0_seeEndOfTwo 23 = .ok (.aload_n 0, 1) := by decide +kernel
theorem dX0_seeEndOfTwo_24 : decode cX0_seeEndOfTwo 24 = .ok (.getfield 16, 3) := by decide +kernel
theorem dX0_seeEndOfTwo_27 : decode cX0_seeEndOfTwo 27 = .ok (.iload_n 3, 1) := by decide +kernel
theorem dX0_seeEndOfTwo_28 : decode cX0_seeEndOfTwo 28 = .ok (.invokevirtual 105, 3) := by decide +kernel
theorem dX0_seeEndOfTwo_31 : decode cX0_seeEndOfTwo 31 = .ok (.iastore, 1) := by decide +kernel
theorem dX0_seeEndOfTwo_32 : decode cX0_seeEndOfTwo 32 = .ok (.iconst 1, 1) := by decide +kernel
theorem dX0_seeEndOfTwo_33 : decode cX0_seeEndOfTwo 33 = .ok (.ireturn, 1) := by decide +kernel
theorem dX0_seeEnd_0 : decode cX0_seeEnd 0 = .ok (.iload_n 1, 1) := by decide +kernel
theorem dX0_seeEnd_1 : decode cX0_seeEnd 1 = .ok (.ifCond .lt 12, 3) := by decide +kernel
theorem dX0_seeEnd_4 : decode cX0_seeEnd 4 = .ok (.iload_n 1, 1) := by decide +kernel
theorem dX0_seeEnd_5 : decode cX0_seeEnd 5 = .ok (.aload_n 0, 1) := by decide +kernel
theorem dX0_seeEnd_6 : decode cX0_seeEnd 6 = .ok (.getfield 11, 3) := by decide +kernel
theorem dX0_seeEnd_9 : decode cX0_seeEnd 9 = .ok (.arraylength, 1) := by decide +kernel
theorem dX0_seeEnd_10 : decode cX0_seeEnd 10 = .ok (.if_icmp .lt 4, 3) := by decide +kernel
theorem dX0_seeEnd_13 : decode cX0_seeEnd 13 = .ok (.return_, 1) := by decide +kernel
theorem dX0_seeEnd_14 : decode cX0_seeEnd 14 = .ok (.iconst 0, 1) := by decide +kernel
theorem dX0_seeEnd_15 : decode cX0_seeEnd 15 = .ok (.istore_n 2, 1) := by decide +kernel
theorem dX0_seeEnd_16 : decode cX0_seeEnd 16 = .ok (.iload_n 2, 1) := by decide +kernel
theorem dX0_seeEnd_17 : decode cX0_seeEnd 17 = .ok (.aload_n 0, 1) := by decide +kernel
theorem dX0_seeEnd_18 : decode cX0_seeEnd 18 = .ok (.getfield 16, 3) := by decide +kernel
theorem dX0_seeEnd_21 : decode cX0_seeEnd 21 = .ok (.getfield 38, 3) := by decide +kernel
theorem dX0_seeEnd_24 : decode cX0_seeEnd 24 = .ok (.getfield 109, 3) := by decide +kernel
theorem dX0_seeEnd_27 : decode cX0_seeEnd 27 = .ok (.if_icmp .ge 25, 3) := by decide +kernel
theorem dX0_seeEnd_30 : decode cX0_seeEnd 30 = .ok (.aload_n 0, 1) := by decide +kernel
theorem dX0_seeEnd_31 : decode cX0_seeEnd 31 = .ok (.getfield 11, 3) := by decide +kernel
theorem dX0_seeEnd_34 : decode cX0_seeEnd 34 = .ok (.iload_n 1, 1) := by decide +kernel
theorem dX0_seeEnd_35 : decode cX0_seeEnd 35 = .ok (.aaload, 1) := by decide +kernel
theorem dX0_seeEnd_36 : decode cX0_seeEnd 36 = .ok (.iload_n 2, 1) := by decide +kernel
theorem dX0_seeEnd_37 : decode cX0_seeEnd 37 = .ok (.aload_n 0, 1) := by decide +kernel
theorem dX0_seeEnd_38 : decode cX0_seeEnd 38 = .ok (.getfield 16, 3) := by decide +kernel
theorem dX0_seeEnd_41 : decode cX0_seeEnd 41 = .ok (.iload_n 2, 1) := by decide +kernel
theorem dX0_seeEnd_42 : decode cX0_seeEnd 42 = .ok (.invokevirtual 105, 3) := by decide +kernel
theorem dX0_seeEnd_45 : decode cX0_seeEnd 45 = .ok (.iastore, 1) := by decide +kernel
theorem dX0_seeEnd_46 : decode cX0_seeEnd 46 = .ok (.iinc 2 1, 3) := by decide +kernel
theorem dX0_seeEnd_49 : decode cX0_seeEnd 49 = .ok (.goto (-33), 3) := by decide +kernel
theorem dX0_seeEnd_52 : decode cX0_seeEnd 52 = .ok (.return_, 1) := by decide +kernel
theorem dX0_takeOver_0 : decode cX0_takeOver 0 = .ok (.aload_n 0, 1) := by decide +kernel
theorem dX0_takeOver_1 : decode cX0_takeOver 1 = .ok (.getfield 11, 3) := by decide +kernel
theorem dX0_takeOver_4 : decode cX0_takeOver 4 = .ok (.iload_n 1, 1) := by decide +kernel
theorem dX0_takeOver_5 : decode cX0_takeOver 5 = .ok (.iconst 1, 1) := by decide +kernel
theorem dX0_takeOver_6 : decode cX0_takeOver 6 = .ok (.iadd, 1) := by decide +kernel
theorem dX0_takeOver_7 : decode cX0_takeOver 7 = .ok (.aaload, 1) := by decide +kernel
theorem dX0_takeOver_8 : decode cX0_takeOver 8 = .ok (.iconst 0, 1) := by decide +kernel
theorem dX0_takeOver_9 : decode cX0_takeOver 9 = .ok (.aload_n 0, 1) := by decide +kernel
theorem dX0_takeOver_10 : decode cX0_takeOver 10 = .ok (.getfield 11, 3) := by decide +kernel
theorem dX0_takeOver_13 : decode cX0_takeOver 13 = .ok (.iload_n 1, 1) := by decide +kernel
theorem dX0_takeOver_14 : decode cX0_takeOver 14 = .ok (.aaload, 1) := by decide +kernel
theorem dX0_takeOver_15 : decode cX0_takeOver 15 = .ok (.iconst 0, 1) := by decide +kernel
theorem dX0_takeOver_16 : decode cX0_takeOver 16 = .ok (.bipush 6, 2) := by decide +kernel
theorem dX0_takeOver_18 : decode cX0_takeOver 18 = .ok (.invokestatic 112, 3) := by decide +kernel
theorem dX0_takeOver_21 : decode cX0_takeOver 21 = .ok (.return_, 1) := by decide +kernel
theorem dX0_weigh_0 : decode cX0_weigh 0 = .ok (.aload_n 0, 1) := by decide +kernel
theorem dX0_weigh_1 : decode cX0_weigh 1 = .ok (.getfield 16, 3) := by decide +kernel
theorem dX0_weigh_4 : decode cX0_weigh 4 = .ok (.getfield 38, 3) := by decide +kernel
theorem dX0_weigh_7 : decode cX0_weigh 7 = .ok (.getfield 54, 3) := by decide +kernel
theorem dX0_weigh_10 : decode cX0_weigh 10 = .ok (.iload_n 1, 1) := by decide +kernel
theorem dX0_weigh_11 : decode cX0_weigh 11 = .ok (.iaload, 1) := by decide +kernel
theorem dX0_weigh_12 : decode cX0_weigh 12 = .ok (.istore_n 3, 1) := by decide +kernel
theorem dX0_weigh_13 : decode cX0_weigh 13 = .ok (.aload_n 0, 1) := by decide +kernel
theorem dX0_weigh_14 : decode cX0_weigh 14 = .ok (.getfield 16, 3) := by decide +kernel
theorem dX0_weigh_17 : decode cX0_weigh 17 = .ok (.getfield 38, 3) := by decide +kernel
theorem dX0_weigh_20 : decode cX0_weigh 20 = .ok (.getfield 58, 3) := by decide +kernel
theorem dX0_weigh_23 : decode cX0_weigh 23 = .ok (.iload_n 1, 1) := by decide +kernel
theorem dX0_weigh_24 : decode cX0_weigh 24 = .ok (.iaload, 1) := by decide +kernel
theorem dX0_weigh_25 : decode cX0_weigh 25 = .ok (.istore 4, 2) := by decide +kernel
theorem dX0_weigh_27 : decode cX0_weigh 27 = .ok (.aload_n 0, 1) := by decide +kernel
theorem dX0_weigh_28 : decode cX0_weigh 28 = .ok (.getfield 11, 3) := by decide +kernel
theorem dX0_weigh_31 : decode cX0_weigh 31 = .ok (.iload_n 1, 1) := by decide +kernel
theorem dX0_weigh_32 : decode cX0_weigh 32 = .ok (.iconst 1, 1) := by decide +kernel
theorem dX0_weigh_33 : decode cX0_weigh 33 = .ok (.iadd, 1) := by decide +kernel
theorem dX0_weigh_34 : decode cX0_weigh 34 = .ok (.aaload, 1) := by decide +kernel
theorem dX0_weigh_35 : decode cX0_weigh 35 = .ok (.iload_n 3, 1) := by decide +kernel
theorem dX0_weigh_36 : decode cX0_weigh 36 = .ok (.iaload, 1) := by decide +kernel
theorem dX0_weigh_37 : decode cX0_weigh 37 = .ok (.aload_n 0, 1) := by decide +kernel
theorem dX0_weigh_38 : decode cX0_weigh 38 = .ok (.getfield 11, 3) := by decide +kernel
theorem dX0_weigh_41 : decode cX0_weigh 41 = .ok (.iload_n 1, 1) := by decide +kernel
theorem dX0_weigh_42 : decode cX0_weigh 42 = .ok (.aaload, 1) := by decide +kernel
theorem dX0_weigh_43 : decode cX0_weigh 43 = .ok (.iload_n 3, 1) := by decide +kernel
theorem dX0_weigh_44 : decode cX0_weigh 44 = .ok (.iaload, 1) := by decide +kernel
theorem dX0_weigh_45 : decode cX0_weigh 45 = .ok (.if_icmp .le 7, 3) := by decide +kernel
theorem dX0_weigh_48 : decode cX0_weigh 48 = .ok (.iconst 1, 1) := by decide +kernel
theorem dX0_weigh_49 : decode cX0_weigh 49 = .ok (.goto 4, 3) := by decide +kernel
theorem dX0_weigh_52 : decode cX0_weigh 52 = .ok (.iconst 0, 1) := by decide +kernel
theorem dX0_weigh_53 : decode cX0_weigh 53 = .ok (.istore 5, 2) := by decide +kernel
theorem dX0_weigh_55 : decode cX0_weigh 55 = .ok (.iload 5, 2) := by decide +kernel
theorem dX0_weigh_57 : decode cX0_weigh 57 = .ok (.ifCond .eq 23, 3) := by decide +kernel
theorem dX0_weigh_60 : decode cX0_weigh 60 = .ok (.aload_n 0, 1) := by decide +kernel
theorem dX0_weigh_61 : decode cX0_weigh 61 = .ok (.getfield 11, 3) := by decide +kernel
theorem dX0_weigh_64 : decode cX0_weigh 64 = .ok (.iload_n 1, 1) := by decide +kernel
theorem dX0_weigh_65 : decode cX0_weigh 65 = .ok (.iconst 1, 1) := by decide +kernel
theorem dX0_weigh_66 : decode cX0_weigh 66 = .ok (.iadd, 1) := by decide +kernel
theorem dX0_weigh_67 : decode cX0_weigh 67 = .ok (.aaload, 1) := by decide +kernel
theorem dX0_weigh_68 : decode cX0_weigh 68 = .ok (.iload 4, 2) := by decide +kernel
theorem dX0_weigh_70 : decode cX0_weigh 70 = .ok (.iaload, 1) := by decide +kernel
theorem dX0_weigh_71 : decode cX0_weigh 71 = .ok (.iload_n 2, 1) := by decide +kernel
theorem dX0_weigh_72 : decode cX0_weigh 72 = .ok (.if_icmp .le 8, 3) := by decide +kernel
theorem dX0_weigh_75 : decode cX0_weigh 75 = .ok (.aload_n 0, 1) := by decide +kernel
theorem dX0_weigh_76 : decode cX0_weigh 76 = .ok (.iload_n 1, 1) := by decide +kernel
theorem dX0_weigh_77 : decode cX0_weigh 77 = .ok (.invokevirtual 51, 3) := by decide +kernel
theorem dX0_weigh_80 : decode cX0_weigh 80 = .ok (.return_, 1) := by decide +kernel
theorem dX1_init_0 : decode cX1_init 0 = .ok (.aload_n 0, 1) := by decide +kernel
theorem dX1_init_1 : decode cX1_init 1 = .ok (.invokespecial 3, 3) := by decide +kernel
theorem dX1_init_4 : decode cX1_init 4 = .ok (.aload_n 0, 1) := by decide +kernel
theorem dX1_init_5 : decode cX1_init 5 = .ok (.sipush 1000, 3) := by decide +kernel
theorem dX1_init_8 : decode cX1_init 8 = .ok (.newarray .int, 2) := by decide +kernel
theorem dX1_init_10 : decode cX1_init 10 = .ok (.putfield 9, 3) := by decide +kernel
theorem dX1_init_13 : decode cX1_init 13 = .ok (.aload_n 0, 1) := by decide +kernel
theorem dX1_init_14 : decode cX1_init 14 = .ok (.bipush 8, 2) := by decide +kernel
theorem dX1_init_16 : decode cX1_init 16 = .ok (.newarray .int, 2) := by decide +kernel
theorem dX1_init_18 : decode cX1_init 18 = .ok (.putfield 15, 3) := by decide +kernel
theorem dX1_init_21 : decode cX1_init 21 = .ok (.aload_n 0, 1) := by decide +kernel
theorem dX1_init_22 : decode cX1_init 22 = .ok (.iconst 5, 1) := by decide +kernel
theorem dX1_init_23 : decode cX1_init 23 = .ok (.newarray .int, 2) := by decide +kernel
theorem dX1_init_25 : decode cX1_init 25 = .ok (.putfield 18, 3) := by decide +kernel
theorem dX1_init_28 : decode cX1_init 28 = .ok (.aload_n 0, 1) := by decide +kernel
theorem dX1_init_29 : decode cX1_init 29 = .ok (.bipush 48, 2) := by decide +kernel
theorem dX1_init_31 : decode cX1_init 31 = .ok (.newarray .int, 2) := by decide +kernel
theorem dX1_init_33 : decode cX1_init 33 = .ok (.putfield 21, 3) := by decide +kernel
theorem dX1_init_36 : decode cX1_init 36 = .ok (.aload_n 0, 1) := by decide +kernel
theorem dX1_init_37 : decode cX1_init 37 = .ok (.bipush 48, 2) := by decide +kernel
theorem dX1_init_39 : decode cX1_init 39 = .ok (.newarray .int, 2) := by decide +kernel
theorem dX1_init_41 : decode cX1_init 41 = .ok (.putfield 24, 3) := by decide +kernel
theorem dX1_init_44 : decode cX1_init 44 = .ok (.return_, 1) := by decide +kernel
theorem dX1_forget_0 : decode cX1_forget 0 = .ok (.aload_n 0, 1) := by decide +kernel
theorem dX1_forget_1 : decode cX1_forget 1 = .ok (.iconst 0, 1) := by decide +kernel
theorem dX1_forget_2 : decode cX1_forget 2 = .ok (.putfield 27, 3) := by decide +kernel
theorem dX1_forget_5 : decode cX1_forget 5 = .ok (.aload_n 0, 1) := by decide +kernel
theorem dX1_forget_6 : decode cX1_forget 6 = .ok (.iconst 0, 1) := by decide +kernel
theorem dX1_forget_7 : decode cX1_forget 7 = .ok (.putfield 31, 3) := by decide +kernel
theorem dX1_forget_10 : decode cX1_forget 10 = .ok (.aload_n 0, 1) := by decide +kernel
theorem dX1_forget_11 : decode cX1_forget 11 = .ok (.iconst 0, 1) := by decide +kernel
theorem dX1_forget_12 : decode cX1_forget 12 = .ok (.putfield 35, 3) := by decide +kernel
theorem dX1_forget_15 : decode cX1_forget 15 = .ok (.aload_n 0, 1) := by decide +kernel
theorem dX1_forget_16 : decode cX1_forget 16 = .ok (.iconst 0, 1) := by decide +kernel
theorem dX1_forget_17 : decode cX1_forget 17 = .ok (.putfield 38, 3) := by decide +kernel
theorem dX1_forget_20 : decode cX1_forget 20 = .ok (.aload_n 0, 1) := by decide +kernel
theorem dX1_forget_21 : decode cX1_forget 21 = .ok (.iconst 0, 1) := by decide +kernel
theorem dX1_forget_22 : decode cX1_forget 22 = .ok (.putfield 41, 3) := by decide +kernel
theorem dX1_forget_25 : decode cX1_forget 25 = .ok (.return_, 1) := by decide +kernel
theorem dX1_keepBag_0 : decode cX1_keepBag 0 = .ok (.aload_n 1, 1) := by decide +kernel
theorem dX1_keepBag_1 : decode cX1_keepBag 1 = .ok (.iconst 0, 1) := by decide +kernel
theorem dX1_keepBag_2 : decode cX1_keepBag 2 = .ok (.aload_n 0, 1) := by decide +kernel
theorem dX1_keepBag_3 : decode cX1_keepBag 3 = .ok (.getfield 15, 3) := by decide +kernel
theorem dX1_keepBag_6 : decode cX1_keepBag 6 = .ok (.iconst 0, 1) := by decide +kernel
theorem dX1_keepBag_7 : decode cX1_keepBag 7 = .ok (.bipush 8, 2) := by decide +kernel
theorem dX1_keepBag_9 : decode cX1_keepBag 9 = .ok (.invokestatic 44, 3) := by decide +kernel
theorem dX1_keepBag_12 : decode cX1_keepBag 12 = .ok (.aload_n 0, 1) := by decide +kernel
theorem dX1_keepBag_13 : decode cX1_keepBag 13 = .ok (.iconst 1, 1) := by decide +kernel
theorem dX1_keepBag_14 : decode cX1_keepBag 14 = .ok (.putfield 31, 3) := by decide +kernel
theorem dX1_keepBag_17 : decode cX1_keepBag 17 = .ok (.return_, 1) := by decide +kernel
theorem dX1_keepOrder_0 : decode cX1_keepOrder 0 = .ok (.aload_n 0, 1) := by decide +kernel
theorem dX1_keepOrder_1 : decode cX1_keepOrder 1 = .ok (.iload_n 2, 1) := by decide +kernel
theorem dX1_keepOrder_2 : decode cX1_keepOrder 2 = .ok (.iconst 5, 1) := by decide +kernel
theorem dX1_keepOrder_3 : decode cX1_keepOrder 3 = .ok (.invokestatic 50, 3) := by decide +kernel
theorem dX1_keepOrder_6 : decode cX1_keepOrder 6 = .ok (.putfield 35, 3) := by decide +kernel
theorem dX1_keepOrder_9 : decode cX1_keepOrder 9 = .ok (.aload_n 1, 1) := by decide +kernel
theorem dX1_keepOrder_10 : decode cX1_keepOrder 10 = .ok (.iconst 0, 1) := by decide +kernel
theorem dX1_keepOrder_11 : decode cX1_keepOrder 11 = .ok (.aload_n 0, 1) := by decide +kernel
theorem dX1_keepOrder_12 : decode cX1_keepOrder 12 = .ok (.getfield 18, 3) := by decide +kernel
theorem dX1_keepOrder_15 : decode cX1_keepOrder 15 = .ok (.iconst 0, 1) := by decide +kernel
theorem dX1_keepOrder_16 : decode cX1_keepOrder 16 = .ok (.aload_n 0, 1) := by decide +kernel
theorem dX1_keepOrder_17 : decode cX1_keepOrder 17 = .ok (.getfield 35, 3) := by decide +kernel
theorem dX1_keepOrder_20 : decode cX1_keepOrder 20 = .ok (.invokestatic 44, 3) := by decide +kernel
theorem dX1_keepOrder_23 : decode cX1_keepOrder 23 = .ok (.return_, 1) := by decide +kernel
theorem dX1_keepShare_0 : decode cX1_keepShare 0 = .ok (.aload_n 1, 1) := by decide +kernel
theorem dX1_keepShare_1 : decode cX1_keepShare 1 = .ok (.iconst 0, 1) := by decide +kernel
theorem dX1_keepShare_2 : decode cX1_keepShare 2 = .ok (.aload_n 0, 1) := by decide +kernel
theorem dX1_keepShare_3 : decode cX1_keepShare 3 = .ok (.getfield 21, 3) := by decide +kernel
theorem dX1_keepShare_6 : decode cX1_keepShare 6 = .ok (.iconst 0, 1) := by decide +kernel
theorem dX1_keepShare_7 : decode cX1_keepShare 7 = .ok (.bipush 48, 2) := by decide +kernel
theorem dX1_keepShare_9 : decode cX1_keepShare 9 = .ok (.invokestatic 44, 3) := by decide +kernel
theorem dX1_keepShare_12 : decode cX1_keepShare 12 = .ok (.aload_n 0, 1) := by decide +kernel
theorem dX1_keepShare_13 : decode cX1_keepShare 13 = .ok (.iconst 1, 1) := by decide +kernel
theorem dX1_keepShare_14 : decode cX1_keepShare 14 = .ok (.putfield 38, 3) := by decide +kernel
theorem dX1_keepShare_17 : decode cX1_keepShare 17 = .ok (.return_, 1) := by decide +kernel
theorem dX2_init_0 : decode cX2_init 0 = .ok (.aload_n 0, 1) := by decide +kernel
theorem dX2_init_1 : decode cX2_init 1 = .ok (.invokespecial 3, 3) := by decide +kernel
theorem dX2_init_4 : decode cX2_init 4 = .ok (.aload_n 0, 1) := by decide +kernel
theorem dX2_init_5 : decode cX2_init 5 = .ok (.iconst 2, 1) := by decide +kernel
theorem dX2_init_6 : decode cX2_init 6 = .ok (.putfield 9, 3) := by decide +kernel
theorem dX2_init_9 : decode cX2_init 9 = .ok (.aload_n 0, 1) := by decide +kernel
theorem dX2_init_10 : decode cX2_init 10 = .ok (.iconst (-1), 1) := by decide +kernel
theorem dX2_init_11 : decode cX2_init 11 = .ok (.putfield 15, 3) := by decide +kernel
theorem dX2_init_14 : decode cX2_init 14 = .ok (.aload_n 0, 1) := by decide +kernel
theorem dX2_init_15 : decode cX2_init 15 = .ok (.sipush 360, 3) := by decide +kernel
theorem dX2_init_18 : decode cX2_init 18 = .ok (.newarray .int, 2) := by decide +kernel
theorem dX2_init_20 : decode cX2_init 20 = .ok (.putfield 18, 3) := by decide +kernel
theorem dX2_init_23 : decode cX2_init 23 = .ok (.aload_n 0, 1) := by decide +kernel
theorem dX2_init_24 : decode cX2_init 24 = .ok (.bipush 120, 2) := by decide +kernel
theorem dX2_init_26 : decode cX2_init 26 = .ok (.newarray .int, 2) := by decide +kernel
theorem dX2_init_28 : decode cX2_init 28 = .ok (.putfield 22, 3) := by decide +kernel
theorem dX2_init_31 : decode cX2_init 31 = .ok (.aload_n 0, 1) := by decide +kernel
theorem dX2_init_32 : decode cX2_init 32 = .ok (.bipush 120, 2) := by decide +kernel
theorem dX2_init_34 : decode cX2_init 34 = .ok (.newarray .int, 2) := by decide +kernel
theorem dX2_init_36 : decode cX2_init 36 = .ok (.putfield 25, 3) := by decide +kernel
theorem dX2_init_39 : decode cX2_init 39 = .ok (.aload_n 0, 1) := by decide +kernel
theorem dX2_init_40 : decode cX2_init 40 = .ok (.bipush 120, 2) := by decide +kernel
theorem dX2_init_42 : decode cX2_init 42 = .ok (.newarray .int, 2) := by decide +kernel
theorem dX2_init_44 : decode cX2_init 44 = .ok (.putfield 28, 3) := by decide +kernel
theorem dX2_init_47 : decode cX2_init 47 = .ok (.aload_n 0, 1) := by decide +kernel
theorem dX2_init_48 : decode cX2_init 48 = .ok (.bipush 120, 2) := by decide +kernel
theorem dX2_init_50 : decode cX2_init 50 = .ok (.newarray .boolean, 2) := by decide +kernel
theorem dX2_init_52 : decode cX2_init 52 = .ok (.putfield 31, 3) := by decide +kernel
theorem dX2_init_55 : decode cX2_init 55 = .ok (.return_, 1) := by decide +kernel
theorem dX2_makeOffers_0 : decode cX2_makeOffers 0 = .ok (.aload_n 0, 1) := by decide +kernel
theorem dX2_makeOffers_1 : decode cX2_makeOffers 1 = .ok (.iconst 0, 1) := by decide +kernel
theorem dX2_makeOffers_2 : decode cX2_makeOffers 2 = .ok (.putfield 35, 3) := by decide +kernel
theorem dX2_makeOffers_5 : decode cX2_makeOffers 5 = .ok (.iconst 0, 1) := by decide +kernel
theorem dX2_makeOffers_6 : decode cX2_makeOffers 6 = .ok (.istore_n 2, 1) := by decide +kernel
theorem dX2_makeOffers_7 : decode cX2_makeOffers 7 = .ok (.iload_n 2, 1) := by decide +kernel
theorem dX2_makeOffers_8 : decode cX2_makeOffers 8 = .ok (.iload_n 1, 1) := by decide +kernel
theorem dX2_makeOffers_9 : decode cX2_makeOffers 9 = .ok (.if_icmp .ge 84, 3) := by decide +kernel
theorem dX2_makeOffers_12 : decode cX2_makeOffers 12 = .ok (.aload_n 0, 1) := by decide +kernel
theorem dX2_makeOffers_13 : decode cX2_makeOffers 13 = .ok (.getfield 9, 3) := by decide +kernel
theorem dX2_makeOffers_16 : decode cX2_makeOffers 16 = .ok (.iconst 1, 1) := by decide +kernel
theorem dX2_makeOffers_17 : decode cX2_makeOffers 17 = .ok (.if_icmp .le 9, 3) := by decide +kernel
theorem dX2_makeOffers_20 : decode cX2_makeOffers 20 = .ok (.iload_n 1, 1) := by decide +kernel
theorem dX2_makeOffers_21 : decode cX2_makeOffers 21 = .ok (.iconst 1, 1) := by decide +kernel
theorem dX2_makeOffers_22 : decode cX2_makeOffers 22 = .ok (.isub, 1) := by decide +kernel
theorem dX2_makeOffers_23 : decode cX2_makeOffers 23 = .ok (.goto 4, 3) := by decide +kernel
theorem dX2_makeOffers_26 : decode cX2_makeOffers 26 = .ok (.iload_n 2, 1) := by decide +kernel
theorem dX2_makeOffers_27 : decode cX2_makeOffers 27 = .ok (.istore_n 3, 1) := by decide +kernel
theorem dX2_makeOffers_28 : decode cX2_makeOffers 28 = .ok (.iload_n 2, 1) := by decide +kernel
theorem dX2_makeOffers_29 : decode cX2_makeOffers 29 = .ok (.istore 4, 2) := by decide +kernel
theorem dX2_makeOffers_31 : decode cX2_makeOffers 31 = .ok (.iload 4, 2) := by decide +kernel
theorem dX2_makeOffers_33 : decode cX2_makeOffers 33 = .ok (.iload_n 3, 1) := by decide +kernel
theorem dX2_makeOffers_34 : decode cX2_makeOffers 34 = .ok (.if_icmp .gt 53, 3) := by decide +kernel
theorem dX2_makeOffers_37 : decode cX2_makeOffers 37 = .ok (.aload_n 0, 1) := by decide +kernel
theorem dX2_makeOffers_38 : decode cX2_makeOffers 38 = .ok (.getfield 9, 3) := by decide +kernel
theorem dX2_makeOffers_41 : decode cX2_makeOffers 41 = .ok (.iconst 2, 1) := by decide +kernel
theorem dX2_makeOffers_42 : decode cX2_makeOffers 42 = .ok (.if_icmp .le 9, 3) := by decide +kernel
theorem dX2_makeOffers_45 : decode cX2_makeOffers 45 = .ok (.iload_n 1, 1) := by decide +kernel
theorem dX2_makeOffers_46 : decode cX2_makeOffers 46 = .ok (.iconst 1, 1) := by decide +kernel
theorem dX2_makeOffers_47 : decode cX2_makeOffers 47 = .ok (.isub, 1) := by decide +kernel
theorem dX2_makeOffers_48 : decode cX2_makeOffers 48 = .ok (.goto 5, 3) := by decide +kernel
theorem dX2_makeOffers_51 : decode cX2_makeOffers 51 = .ok (.iload 4, 2) := by decide +kernel
theorem dX2_makeOffers_53 : decode cX2_makeOffers 53 = .ok (.istore 5, 2) := by decide +kernel
theorem dX2_makeOffers_55 : decode cX2_makeOffers 55 = .ok (.iload 4, 2) := by decide +kernel
theorem dX2_makeOffers_57 : decode cX2_makeOffers 57 = .ok (.istore 6, 2) := by decide +kernel
theorem dX2_makeOffers_59 : decode cX2_makeOffers 59 = .ok (.iload 6, 2) := by decide +kernel
theorem dX2_makeOffers_61 : decode cX2_makeOffers 61 = .ok (.iload 5, 2) := by decide +kernel
theorem dX2_makeOffers_63 : decode cX2_makeOffers 63 = .ok (.if_icmp .gt 18, 3) := by decide +kernel
theorem dX2_makeOffers_66 : decode cX2_makeOffers 66 = .ok (.aload_n 0, 1) := by decide +kernel
theorem dX2_makeOffers_67 : decode cX2_makeOffers 67 = .ok (.iload_n 2, 1) := by decide +kernel
theorem dX2_makeOffers_68 : decode cX2_makeOffers 68 = .ok (.iload 4, 2) := by decide +kernel
theorem dX2_makeOffers_70 : decode cX2_makeOffers 70 = .ok (.iload 6, 2) := by decide +kernel
theorem dX2_makeOffers_72 : decode cX2_makeOffers 72 = .ok (.invokevirtual 38, 3) := by decide +kernel
theorem dX2_makeOffers_75 : decode cX2_makeOffers 75 = .ok (.iinc 6 1, 3) := by decide +kernel
theorem dX2_makeOffers_78 : decode cX2_makeOffers 78 = .ok (.goto (-19), 3) := by decide +kernel
theorem dX2_makeOffers_81 : decode cX2_makeOffers 81 = .ok (.iinc 4 1, 3) := by decide +kernel
theorem dX2_makeOffers_84 : decode cX2_makeOffers 84 = .ok (.goto (-53), 3) := by decide +kernel
theorem dX2_makeOffers_87 : decode cX2_makeOffers 87 = .ok (.iinc 2 1, 3) := by decide +kernel
theorem dX2_makeOffers_90 : decode cX2_makeOffers 90 = .ok (.goto (-83), 3) := by decide +kernel
theorem dX2_makeOffers_93 : decode cX2_makeOffers 93 = .ok (.return_, 1) := by decide +kernel
theorem dX2_addOffer_0 : decode cX2_addOffer 0 = .ok (.aload_n 0, 1) := by decide +kernel
theorem dX2_addOffer_1 : decode cX2_addOffer 1 = .ok (.getfield 35, 3) := by decide +kernel
theorem dX2_addOffer_4 : decode cX2_addOffer 4 = .ok (.bipush 120, 2) := by decide +kernel
theorem dX2_addOffer_6 : decode cX2_addOffer 6 = .ok (.if_icmp .lt 4, 3) := by decide +kernel
theorem dX2_addOffer_9 : decode cX2_addOffer 9 = .ok (.return_, 1) := by decide +kernel
theorem dX2_addOffer_10 : decode cX2_addOffer 10 = .ok (.aload_n 0, 1) := by decide +kernel
theorem dX2_addOffer_11 : decode cX2_addOffer 11 = .ok (.getfield 35, 3) := by decide +kernel
theorem dX2_addOffer_14 : decode cX2_addOffer 14 = .ok (.iconst 3, 1) := by decide +kernel
theorem dX2_addOffer_15 : decode cX2_addOffer 15 = .ok (.imul, 1) := by decide +kernel
theorem dX2_addOffer_16 : decode cX2_addOffer 16 = .ok (.istore 4, 2) := by decide +kernel
theorem dX2_addOffer_18 : decode cX2_addOffer 18 = .ok (.aload_n 0, 1) := by decide +kernel
theorem dX2_addOffer_19 : decode cX2_addOffer 19 = .ok (.getfield 18, 3) := by decide +kernel
theorem dX2_addOffer_22 : decode cX2_addOffer 22 = .ok (.iload 4, 2) := by decide +kernel
theorem dX2_addOffer_24 : decode cX2_addOffer 24 = .ok (.iload_n 1, 1) := by decide +kernel
theorem dX2_addOffer_25 : decode cX2_addOffer 25 = .ok (.iastore, 1) := by decide +kernel
theorem dX2_addOffer_26 : decode cX2_addOffer 26 = .ok (.aload_n 0, 1) := by decide +kernel
theorem dX2_addOffer_27 : decode cX2_addOffer 27 = .ok (.getfield 18, 3) := by decide +kernel
theorem dX2_addOffer_30 : decode cX2_addOffer 30 = .ok (.iload 4, 2) := by decide +kernel
theorem dX2_addOffer_32 : decode cX2_addOffer 32 = .ok (.iconst 1, 1) := by decide +kernel
theorem dX2_addOffer_33 : decode cX2_addOffer 33 = .ok (.iadd, 1) := by decide +kernel
theorem dX2_addOffer_34 : decode cX2_addOffer 34 = .ok (.iload_n 2, 1) := by decide +kernel
theorem dX2_addOffer_35 : decode cX2_addOffer 35 = .ok (.iastore, 1) := by decide +kernel
theorem dX2_addOffer_36 : decode cX2_addOffer 36 = .ok (.aload_n 0, 1) := by decide +kernel
theorem dX2_addOffer_37 : decode cX2_addOffer 37 = .ok (.getfield 18, 3) := by decide +kernel
theorem dX2_addOffer_40 : decode cX2_addOffer 40 = .ok (.iload 4, 2) := by decide +kernel
theorem dX2_addOffer_42 : decode cX2_addOffer 42 = .ok (.iconst 2, 1) := by decide +kernel
theorem dX2_addOffer_43 : decode cX2_addOffer 43 = .ok (.iadd, 1) := by decide +kernel
theorem dX2_addOffer_44 : decode cX2_addOffer 44 = .ok (.iload_n 3, 1) := by decide +kernel
theorem dX2_addOffer_45 : decode cX2_addOffer 45 = .ok (.iastore, 1) := by decide +kernel
theorem dX2_addOffer_46 : decode cX2_addOffer 46 = .ok (.iconst 0, 1) := by decide +kernel
theorem dX2_addOffer_47 : decode cX2_addOffer 47 = .ok (.istore 5, 2) := by decide +kernel
theorem dX2_addOffer_49 : decode cX2_addOffer 49 = .ok (.iconst (-1), 1) := by decide +kernel
theorem dX2_addOffer_50 : decode cX2_addOffer 50 = .ok (.istore 6, 2) := by decide +kernel
theorem dX2_addOffer_52 : decode cX2_addOffer 52 = .ok (.iconst 0, 1) := by decide +kernel
theorem dX2_addOffer_53 : decode cX2_addOffer 53 = .ok (.istore 7, 2) := by decide +kernel
theorem dX2_addOffer_55 : decode cX2_addOffer 55 = .ok (.aload_n 0, 1) := by decide +kernel
theorem dX2_addOffer_56 : decode cX2_addOffer 56 = .ok (.getfield 15, 3) := by decide +kernel
theorem dX2_addOffer_59 : decode cX2_addOffer 59 = .ok (.iconst (-1), 1) := by decide +kernel
theorem dX2_addOffer_60 : decode cX2_addOffer 60 = .ok (.if_icmp .ne 7, 3) := by decide +kernel
theorem dX2_addOffer_63 : decode cX2_addOffer 63 = .ok (.iconst 1, 1) := by decide +kernel
theorem dX2_addOffer_64 : decode cX2_addOffer 64 = .ok (.goto 4, 3) := by decide +kernel
theorem dX2_addOffer_67 : decode cX2_addOffer 67 = .ok (.iconst 0, 1) := by decide +kernel
theorem dX2_addOffer_68 : decode cX2_addOffer 68 = .ok (.istore 8, 2) := by decide +kernel
theorem dX2_addOffer_70 : decode cX2_addOffer 70 = .ok (.iconst 0, 1) := by decide +kernel
theorem dX2_addOffer_71 : decode cX2_addOffer 71 = .ok (.istore 9, 2) := by decide +kernel
theorem dX2_addOffer_73 : decode cX2_addOffer 73 = .ok (.iload 9, 2) := by decide +kernel
theorem dX2_addOffer_75 : decode cX2_addOffer 75 = .ok (.aload_n 0, 1) := by decide +kernel
theorem dX2_addOffer_76 : decode cX2_addOffer 76 = .ok (.getfield 9, 3) := by decide +kernel
theorem dX2_addOffer_79 : decode cX2_addOffer 79 = .ok (.if_icmp .ge 88, 3) := by decide +kernel
theorem dX2_addOffer_82 : decode cX2_addOffer 82 = .ok (.iload 9, 2) := by decide +kernel
theorem dX2_addOffer_84 : decode cX2_addOffer 84 = .ok (.iconst 3, 1) := by decide +kernel
theorem dX2_addOffer_85 : decode cX2_addOffer 85 = .ok (.if_icmp .ge 82, 3) := by decide +kernel
theorem dX2_addOffer_88 : decode cX2_addOffer 88 = .ok (.aload_n 0, 1) := by decide +kernel
theorem dX2_addOffer_89 : decode cX2_addOffer 89 = .ok (.getfield 18, 3) := by decide +kernel
theorem dX2_addOffer_92 : decode cX2_addOffer 92 = .ok (.iload 4, 2) := by decide +kernel
theorem dX2_addOffer_94 : decode cX2_addOffer 94 = .ok (.iload 9, 2) := by decide +kernel
theorem dX2_addOffer_96 : decode cX2_addOffer 96 = .ok (.iadd, 1) := by decide +kernel
theorem dX2_addOffer_97 : decode cX2_addOffer 97 = .ok (.iaload, 1) := by decide +kernel
theorem dX2_addOffer_98 : decode cX2_addOffer 98 = .ok (.istore 10, 2) := by decide +kernel
theorem dX2_addOffer_100 : decode cX2_addOffer 100 = .ok (.iload 5, 2) := by decide +kernel
theorem dX2_addOffer_102 : decode cX2_addOffer 102 = .ok (.bipush 9, 2) := by decide +kernel
theorem dX2_addOffer_104 : decode cX2_addOffer 104 = .ok (.imul, 1) := by decide +kernel
theorem dX2_addOffer_105 : decode cX2_addOffer 105 = .ok (.iload 10, 2) := by decide +kernel
theorem dX2_addOffer_107 : decode cX2_addOffer 107 = .ok (.iadd, 1) := by decide +kernel
theorem dX2_addOffer_108 : decode cX2_addOffer 108 = .ok (.iconst 1, 1) := by decide +kernel
theorem dX2_addOffer_109 : decode cX2_addOffer 109 = .ok (.iadd, 1) := by decide +kernel
theorem dX2_addOffer_110 : decode cX2_addOffer 110 = .ok (.istore 5, 2) := by decide +kernel
theorem dX2_addOffer_112 : decode cX2_addOffer 112 = .ok (.iload 7, 2) := by decide +kernel
theorem dX2_addOffer_114 : decode cX2_addOffer 114 = .ok (.iconst 1, 1) := by decide +kernel
theorem dX2_addOffer_115 : decode cX2_addOffer 115 = .ok (.iload 10, 2) := by decide +kernel
theorem dX2_addOffer_117 : decode cX2_addOffer 117 = .ok (.ishl, 1) := by decide +kernel
theorem dX2_addOffer_118 : decode cX2_addOffer 118 = .ok (.ior, 1) := by decide +kernel
theorem dX2_addOffer_119 : decode cX2_addOffer 119 = .ok (.istore 7, 2) := by decide +kernel
theorem dX2_addOffer_121 : decode cX2_addOffer 121 = .ok (.iload 8, 2) := by decide +kernel
theorem dX2_addOffer_123 : decode cX2_addOffer 123 = .ok (.ifCond .ne 12, 3) := by decide +kernel
theorem dX2_addOffer_126 : decode cX2_addOffer 126 = .ok (.iload 10, 2) := by decide +kernel
theorem dX2_addOffer_128 : decode cX2_addOffer 128 = .ok (.aload_n 0, 1) := by decide +kernel
theorem dX2_addOffer_129 : decode cX2_addOffer 129 = .ok (.getfield 15, 3) := by decide +kernel
theorem dX2_addOffer_132 : decode cX2_addOffer 132 = .ok (.if_icmp .ne 7, 3) := by decide +kernel
theorem dX2_addOffer_135 : decode cX2_addOffer 135 = .ok (.iconst 1, 1) := by decide +kernel
theorem dX2_addOffer_136 : decode cX2_addOffer 136 = .ok (.goto 4, 3) := by decide +kernel
theorem dX2_addOffer_139 : decode cX2_addOffer 139 = .ok (.iconst 0, 1) := by decide +kernel
theorem dX2_addOffer_140 : decode cX2_addOffer 140 = .ok (.istore 8, 2) := by decide +kernel
theorem dX2_addOffer_142 : decode cX2_addOffer 142 = .ok (.iload 6, 2) := by decide +kernel
theorem dX2_addOffer_144 : decode cX2_addOffer 144 = .ok (.iconst (-1), 1) := by decide +kernel
theorem dX2_addOffer_145 : decode cX2_addOffer 145 = .ok (.if_icmp .ne 16, 3) := by decide +kernel
theorem dX2_addOffer_148 : decode cX2_addOffer 148 = .ok (.iload 10, 2) := by decide +kernel
theorem dX2_addOffer_150 : decode cX2_addOffer 150 = .ok (.aload_n 0, 1) := by decide +kernel
theorem dX2_addOffer_151 : decode cX2_addOffer 151 = .ok (.getfield 15, 3) := by decide +kernel
theorem dX2_addOffer_154 : decode cX2_addOffer 154 = .ok (.if_icmp .eq 7, 3) := by decide +kernel
theorem dX2_addOffer_157 : decode cX2_addOffer 157 = .ok (.iload 10, 2) := by decide +kernel
theorem dX2_addOffer_159 : decode cX2_addOffer 159 = .ok (.istore 6, 2) := by decide +kernel
theorem dX2_addOffer_161 : decode cX2_addOffer 161 = .ok (.iinc 9 1, 3) := by decide +kernel
theorem dX2_addOffer_164 : decode cX2_addOffer 164 = .ok (.goto (-91), 3) := by decide +kernel
theorem dX2_addOffer_167 : decode cX2_addOffer 167 = .ok (.aload_n 0, 1) := by decide +kernel
theorem dX2_addOffer_168 : decode cX2_addOffer 168 = .ok (.getfield 22, 3) := by decide +kernel
theorem dX2_addOffer_171 : decode cX2_addOffer 171 = .ok (.aload_n 0, 1) := by decide +kernel
theorem dX2_addOffer_172 : decode cX2_addOffer 172 = .ok (.getfield 35, 3) := by decide +kernel
theorem dX2_addOffer_175 : decode cX2_addOffer 175 = .ok (.iload 5, 2) := by decide +kernel
theorem dX2_addOffer_177 : decode cX2_addOffer 177 = .ok (.iastore, 1) := by decide +kernel
theorem dX2_addOffer_178 : decode cX2_addOffer 178 = .ok (.aload_n 0, 1) := by decide +kernel
theorem dX2_addOffer_179 : decode cX2_addOffer 179 = .ok (.getfield 25, 3) := by decide +kernel
theorem dX2_addOffer_182 : decode cX2_addOffer 182 = .ok (.aload_n 0, 1) := by decide +kernel
theorem dX2_addOffer_183 : decode cX2_addOffer 183 = .ok (.getfield 35, 3) := by decide +kernel
theorem dX2_addOffer_186 : decode cX2_addOffer 186 = .ok (.iload 6, 2) := by decide +kernel
theorem dX2_addOffer_188 : decode cX2_addOffer 188 = .ok (.iconst (-1), 1) := by decide +kernel
theorem dX2_addOffer_189 : decode cX2_addOffer 189 = .ok (.if_icmp .ne 7, 3) := by decide +kernel
theorem dX2_addOffer_192 : decode cX2_addOffer 192 = .ok (.iload_n 1, 1) := by decide +kernel
theorem dX2_addOffer_193 : decode cX2_addOffer 193 = .ok (.goto 5, 3) := by decide +kernel
theorem dX2_addOffer_196 : decode cX2_addOffer 196 = .ok (.iload 6, 2) := by decide +kernel
theorem dX2_addOffer_198 : decode cX2_addOffer 198 = .ok (.iastore, 1) := by decide +kernel
theorem dX2_addOffer_199 : decode cX2_addOffer 199 = .ok (.aload_n 0, 1) := by decide +kernel
theorem dX2_addOffer_200 : decode cX2_addOffer 200 = .ok (.getfield 28, 3) := by decide +kernel
theorem dX2_addOffer_203 : decode cX2_addOffer 203 = .ok (.aload_n 0, 1) := by decide +kernel
theorem dX2_addOffer_204 : decode cX2_addOffer 204 = .ok (.getfield 35, 3) := by decide +kernel
theorem dX2_addOffer_207 : decode cX2_addOffer 207 = .ok (.iload 7, 2) := by decide +kernel
theorem dX2_addOffer_209 : decode cX2_addOffer 209 = .ok (.iastore, 1) := by decide +kernel
theorem dX2_addOffer_210 : decode cX2_addOffer 210 = .ok (.aload_n 0, 1) := by decide +kernel
theorem dX2_addOffer_211 : decode cX2_addOffer 211 = .ok (.getfield 31, 3) := by decide +kernel
theorem dX2_addOffer_214 : decode cX2_addOffer 214 = .ok (.aload_n 0, 1) := by decide +kernel
theorem dX2_addOffer_215 : decode cX2_addOffer 215 = .ok (.getfield 35, 3) := by decide +kernel
theorem dX2_addOffer_218 : decode cX2_addOffer 218 = .ok (.iload 8, 2) := by decide +kernel
theorem dX2_addOffer_220 : decode cX2_addOffer 220 = .ok (.bastore, 1) := by decide +kernel
theorem dX2_addOffer_221 : decode cX2_addOffer 221 = .ok (.aload_n 0, 1) := by decide +kernel
theorem dX2_addOffer_222 : decode cX2_addOffer 222 = .ok (.dup, 1) := by decide +kernel
theorem dX2_addOffer_223 : decode cX2_addOffer 223 = .ok (.getfield 35, 3) := by decide +kernel
theorem dX2_addOffer_226 : decode cX2_addOffer 226 = .ok (.iconst 1, 1) := by decide +kernel
theorem dX2_addOffer_227 : decode cX2_addOffer 227 = .ok (.iadd, 1) := by decide +kernel
theorem dX2_addOffer_228 : decode cX2_addOffer 228 = .ok (.putfield 35, 3) := by decide +kernel
theorem dX2_addOffer_231 : decode cX2_addOffer 231 = .ok (.return_, 1) := by decide +kernel
theorem dX2_offerOf_0 : decode cX2_offerOf 0 = .ok (.iconst 0, 1) := by decide +kernel
theorem dX2_offerOf_1 : decode cX2_offerOf 1 = .ok (.istore_n 2, 1) := by decide +kernel
theorem dX2_offerOf_2 : decode cX2_offerOf 2 = .ok (.iload_n 2, 1) := by decide +kernel
theorem dX2_offerOf_3 : decode cX2_offerOf 3 = .ok (.aload_n 0, 1) := by decide +kernel
theorem dX2_offerOf_4 : decode cX2_offerOf 4 = .ok (.getfield 35, 3) := by decide +kernel
theorem dX2_offerOf_7 : decode cX2_offerOf 7 = .ok (.if_icmp .ge 21, 3) := by decide +kernel
theorem dX2_offerOf_10 : decode cX2_offerOf 10 = .ok (.aload_n 0, 1) := by decide +kernel
theorem dX2_offerOf_11 : decode cX2_offerOf 11 = .ok (.getfield 22, 3) := by decide +kernel
theorem dX2_offerOf_14 : decode cX2_offerOf 14 = .ok (.iload_n 2, 1) := by decide +kernel
theorem dX2_offerOf_15 : decode cX2_offerOf 15 = .ok (.iaload, 1) := by decide +kernel
theorem dX2_offerOf_16 : decode cX2_offerOf 16 = .ok (.iload_n 1, 1) := by decide +kernel
theorem dX2_offerOf_17 : decode cX2_offerOf 17 = .ok (.if_icmp .ne 5, 3) := by decide +kernel
theorem dX2_offerOf_20 : decode cX2_offerOf 20 = .ok (.iload_n 2, 1) := by decide +kernel
theorem dX2_offerOf_21 : decode cX2_offerOf 21 = .ok (.ireturn, 1) := by decide +kernel
theorem dX2_offerOf_22 : decode cX2_offerOf 22 = .ok (.iinc 2 1, 3) := by decide +kernel
theorem dX2_offerOf_25 : decode cX2_offerOf 25 = .ok (.goto (-23), 3) := by decide +kernel
theorem dX2_offerOf_28 : decode cX2_offerOf 28 = .ok (.iconst (-1), 1) := by decide +kernel
theorem dX2_offerOf_29 : decode cX2_offerOf 29 = .ok (.ireturn, 1) := by decide +kernel
theorem dX3_init_0 : decode cX3_init 0 = .ok (.aload_n 0, 1) := by decide +kernel
theorem dX3_init_1 : decode cX3_init 1 = .ok (.invokespecial 3, 3) := by decide +kernel
theorem dX3_init_4 : decode cX3_init 4 = .ok (.aload_n 0, 1) := by decide +kernel
theorem dX3_init_5 : decode cX3_init 5 = .ok (.bipush 48, 2) := by decide +kernel
theorem dX3_init_7 : decode cX3_init 7 = .ok (.newarray .int, 2) := by decide +kernel
theorem dX3_init_9 : decode cX3_init 9 = .ok (.putfield 9, 3) := by decide +kernel
theorem dX3_init_12 : decode cX3_init 12 = .ok (.aload_n 0, 1) := by decide +kernel
theorem dX3_init_13 : decode cX3_init 13 = .ok (.aload_n 1, 1) := by decide +kernel
theorem dX3_init_14 : decode cX3_init 14 = .ok (.putfield 15, 3) := by decide +kernel
theorem dX3_init_17 : decode cX3_init 17 = .ok (.aload_n 0, 1) := by decide +kernel
theorem dX3_init_18 : decode cX3_init 18 = .ok (.aload_n 1, 1) := by decide +kernel
theorem dX3_init_19 : decode cX3_init 19 = .ok (.getfield 19, 3) := by decide +kernel
theorem dX3_init_22 : decode cX3_init 22 = .ok (.putfield 25, 3) := by decide +kernel
theorem dX3_init_25 : decode cX3_init 25 = .ok (.return_, 1) := by decide +kernel
theorem dX3_settleIn_0 : decode cX3_settleIn 0 = .ok (.aload_n 0, 1) := by decide +kernel
theorem dX3_settleIn_1 : decode cX3_settleIn 1 = .ok (.aload_n 1, 1) := by decide +kernel
theorem dX3_settleIn_2 : decode cX3_settleIn 2 = .ok (.putfield 15, 3) := by decide +kernel
theorem dX3_settleIn_5 : decode cX3_settleIn 5 = .ok (.aload_n 0, 1) := by decide +kernel
theorem dX3_settleIn_6 : decode cX3_settleIn 6 = .ok (.aload_n 1, 1) := by decide +kernel
theorem dX3_settleIn_7 : decode cX3_settleIn 7 = .ok (.getfield 19, 3) := by decide +kernel
theorem dX3_settleIn_10 : decode cX3_settleIn 10 = .ok (.putfield 25, 3) := by decide +kernel
theorem dX3_settleIn_13 : decode cX3_settleIn 13 = .ok (.aload_n 1, 1) := by decide +kernel
theorem dX3_settleIn_14 : decode cX3_settleIn 14 = .ok (.getfield 26, 3) := by decide +kernel
theorem dX3_settleIn_17 : decode cX3_settleIn 17 = .ok (.iconst 0, 1) := by decide +kernel
theorem dX3_settleIn_18 : decode cX3_settleIn 18 = .ok (.aload_n 0, 1) := by decide +kernel
theorem dX3_settleIn_19 : decode cX3_settleIn 19 = .ok (.getfield 9, 3) := by decide +kernel
theorem dX3_settleIn_22 : decode cX3_settleIn 22 = .ok (.iconst 0, 1) := by decide +kernel
theorem dX3_settleIn_23 : decode cX3_settleIn 23 = .ok (.bipush 48, 2) := by decide +kernel
theorem dX3_settleIn_25 : decode cX3_settleIn 25 = .ok (.invokestatic 29, 3) := by decide +kernel
theorem dX3_settleIn_28 : decode cX3_settleIn 28 = .ok (.return_, 1) := by decide +kernel
theorem dX3_take_0 : decode cX3_take 0 = .ok (.aload_n 0, 1) := by decide +kernel
theorem dX3_take_1 : decode cX3_take 1 = .ok (.aload_n 1, 1) := by decide +kernel
theorem dX3_take_2 : decode cX3_take 2 = .ok (.aload_n 1, 1) := by decide +kernel
theorem dX3_take_3 : decode cX3_take 3 = .ok (.getfield 9, 3) := by decide +kernel
theorem dX3_take_6 : decode cX3_take 6 = .ok (.invokevirtual 35, 3) := by decide +kernel
theorem dX3_take_9 : decode cX3_take 9 = .ok (.return_, 1) := by decide +kernel
theorem dX3_takeRow_0 : decode cX3_takeRow 0 = .ok (.aload_n 0, 1) := by decide +kernel
theorem dX3_takeRow_1 : decode cX3_takeRow 1 = .ok (.aload_n 1, 1) := by decide +kernel
theorem dX3_takeRow_2 : decode cX3_takeRow 2 = .ok (.getfield 15, 3) := by decide +kernel
theorem dX3_takeRow_5 : decode cX3_takeRow 5 = .ok (.putfield 15, 3) := by decide +kernel
theorem dX3_takeRow_8 : decode cX3_takeRow 8 = .ok (.aload_n 0, 1) := by decide +kernel
theorem dX3_takeRow_9 : decode cX3_takeRow 9 = .ok (.aload_n 1, 1) := by decide +kernel
theorem dX3_takeRow_10 : decode cX3_takeRow 10 = .ok (.getfield 25, 3) := by decide +kernel
theorem dX3_takeRow_13 : decode cX3_takeRow 13 = .ok (.putfield 25, 3) := by decide +kernel
theorem dX3_takeRow_16 : decode cX3_takeRow 16 = .ok (.iconst 0, 1) := by decide +kernel
theorem dX3_takeRow_17 : decode cX3_takeRow 17 = .ok (.istore_n 3, 1) := by decide +kernel
theorem dX3_takeRow_18 : decode cX3_takeRow 18 = .ok (.iload_n 3, 1) := by decide +kernel
theorem dX3_takeRow_19 : decode cX3_takeRow 19 = .ok (.bipush 48, 2) := by decide +kernel
theorem dX3_takeRow_21 : decode cX3_takeRow 21 = .ok (.if_icmp .ge 24, 3) := by decide +kernel
theorem dX3_takeRow_24 : decode cX3_takeRow 24 = .ok (.iload_n 3, 1) := by decide +kernel
theorem dX3_takeRow_25 : decode cX3_takeRow 25 = .ok (.aload_n 2, 1) := by decide +kernel
theorem dX3_takeRow_26 : decode cX3_takeRow 26 = .ok (.arraylength, 1) := by decide +kernel
theorem dX3_takeRow_27 : decode cX3_takeRow 27 = .ok (.if_icmp .ge 18, 3) := by decide +kernel
theorem dX3_takeRow_30 : decode cX3_takeRow 30 = .ok (.aload_n 0, 1) := by decide +kernel
theorem dX3_takeRow_31 : decode cX3_takeRow 31 = .ok (.getfield 9, 3) := by decide +kernel
theorem dX3_takeRow_34 : decode cX3_takeRow 34 = .ok (.iload_n 3, 1) := by decide +kernel
theorem dX3_takeRow_35 : decode cX3_takeRow 35 = .ok (.aload_n 2, 1) := by decide +kernel
theorem dX3_takeRow_36 : decode cX3_takeRow 36 = .ok (.iload_n 3, 1) := by decide +kernel
theorem dX3_takeRow_37 : decode cX3_takeRow 37 = .ok (.iaload, 1) := by decide +kernel
theorem dX3_takeRow_38 : decode cX3_takeRow 38 = .ok (.iastore, 1) := by decide +kernel
theorem dX3_takeRow_39 : decode cX3_takeRow 39 = .ok (.iinc 3 1, 3) := by decide +kernel
theorem dX3_takeRow_42 : decode cX3_takeRow 42 = .ok (.goto (-24), 3) := by decide +kernel
theorem dX3_takeRow_45 : decode cX3_takeRow 45 = .ok (.return_, 1) := by decide +kernel
theorem dX3_takeBag_0 : decode cX3_takeBag 0 = .ok (.aload_n 0, 1) := by decide +kernel
theorem dX3_takeBag_1 : decode cX3_takeBag 1 = .ok (.aload_n 1, 1) := by decide +kernel
theorem dX3_takeBag_2 : decode cX3_takeBag 2 = .ok (.aload_n 1, 1) := by decide +kernel
theorem dX3_takeBag_3 : decode cX3_takeBag 3 = .ok (.getfield 9, 3) := by decide +kernel
theorem dX3_takeBag_6 : decode cX3_takeBag 6 = .ok (.invokevirtual 35, 3) := by decide +kernel
theorem dX3_takeBag_9 : decode cX3_takeBag 9 = .ok (.iload_n 2, 1) := by decide +kernel
theorem dX3_takeBag_10 : decode cX3_takeBag 10 = .ok (.bipush 8, 2) := by decide +kernel
theorem dX3_takeBag_12 : decode cX3_takeBag 12 = .ok (.imul, 1) := by decide +kernel
theorem dX3_takeBag_13 : decode cX3_takeBag 13 = .ok (.istore 4, 2) := by decide +kernel
theorem dX3_takeBag_15 : decode cX3_takeBag 15 = .ok (.iconst 0, 1) := by decide +kernel
theorem dX3_takeBag_16 : decode cX3_takeBag 16 = .ok (.istore 5, 2) := by decide +kernel
theorem dX3_takeBag_18 : decode cX3_takeBag 18 = .ok (.iload 5, 2) := by decide +kernel
theorem dX3_takeBag_20 : decode cX3_takeBag 20 = .ok (.bipush 8, 2) := by decide +kernel
theorem dX3_takeBag_22 : decode cX3_takeBag 22 = .ok (.if_icmp .ge 23, 3) := by decide +kernel
theorem dX3_takeBag_25 : decode cX3_takeBag 25 = .ok (.aload_n 0, 1) := by decide +kernel
theorem dX3_takeBag_26 : decode cX3_takeBag 26 = .ok (.getfield 9, 3) := by decide +kernel
theorem dX3_takeBag_29 : decode cX3_takeBag 29 = .ok (.iload 4, 2) := by decide +kernel
theorem dX3_takeBag_31 : decode cX3_takeBag 31 = .ok (.iload 5, 2) := by decide +kernel
theorem dX3_takeBag_33 : decode cX3_takeBag 33 = .ok (.iadd, 1) := by decide +kernel
theorem dX3_takeBag_34 : decode cX3_takeBag 34 = .ok (.aload_n 3, 1) := by decide +kernel
theorem dX3_takeBag_35 : decode cX3_takeBag 35 = .ok (.iload 5, 2) := by decide +kernel
theorem dX3_takeBag_37 : decode cX3_takeBag 37 = .ok (.iaload, 1) := by decide +kernel
theorem dX3_takeBag_38 : decode cX3_takeBag 38 = .ok (.iastore, 1) := by decide +kernel
theorem dX3_takeBag_39 : decode cX3_takeBag 39 = .ok (.iinc 5 1, 3) := by decide +kernel
theorem dX3_takeBag_42 : decode cX3_takeBag 42 = .ok (.goto (-24), 3) := by decide +kernel
theorem dX3_takeBag_45 : decode cX3_takeBag 45 = .ok (.return_, 1) := by decide +kernel
theorem dX3_thingsOf_0 : decode cX3_thingsOf 0 = .ok (.iconst 0, 1) := by decide +kernel
theorem dX3_thingsOf_1 : decode cX3_thingsOf 1 = .ok (.istore_n 2, 1) := by decide +kernel
theorem dX3_thingsOf_2 : decode cX3_thingsOf 2 = .ok (.iconst 0, 1) := by decide +kernel
theorem dX3_thingsOf_3 : decode cX3_thingsOf 3 = .ok (.istore_n 3, 1) := by decide +kernel
theorem dX3_thingsOf_4 : decode cX3_thingsOf 4 = .ok (.iload_n 3, 1) := by decide +kernel
theorem dX3_thingsOf_5 : decode cX3_thingsOf 5 = .ok (.aload_n 0, 1) := by decide +kernel
theorem dX3_thingsOf_6 : decode cX3_thingsOf 6 = .ok (.getfield 15, 3) := by decide +kernel
theorem dX3_thingsOf_9 : decode cX3_thingsOf 9 = .ok (.getfield 39, 3) := by decide +kernel
theorem dX3_thingsOf_12 : decode cX3_thingsOf 12 = .ok (.if_icmp .ge 23, 3) := by decide +kernel
theorem dX3_thingsOf_15 : decode cX3_thingsOf 15 = .ok (.iload_n 2, 1) := by decide +kernel
theorem dX3_thingsOf_16 : decode cX3_thingsOf 16 = .ok (.aload_n 0, 1) := by decide +kernel
theorem dX3_thingsOf_17 : decode cX3_thingsOf 17 = .ok (.getfield 9, 3) := by decide +kernel
theorem dX3_thingsOf_20 : decode cX3_thingsOf 20 = .ok (.iload_n 3, 1) := by decide +kernel
theorem dX3_thingsOf_21 : decode cX3_thingsOf 21 = .ok (.bipush 8, 2) := by decide +kernel
theorem dX3_thingsOf_23 : decode cX3_thingsOf 23 = .ok (.imul, 1) := by decide +kernel
theorem dX3_thingsOf_24 : decode cX3_thingsOf 24 = .ok (.iload_n 1, 1) := by decide +kernel
theorem dX3_thingsOf_25 : decode cX3_thingsOf 25 = .ok (.iadd, 1) := by decide +kernel
theorem dX3_thingsOf_26 : decode cX3_thingsOf 26 = .ok (.iaload, 1) := by decide +kernel
theorem dX3_thingsOf_27 : decode cX3_thingsOf 27 = .ok (.iadd, 1) := by decide +kernel
theorem dX3_thingsOf_28 : decode cX3_thingsOf 28 = .ok (.istore_n 2, 1) := by decide +kernel
theorem dX3_thingsOf_29 : decode cX3_thingsOf 29 = .ok (.iinc 3 1, 3) := by decide +kernel
theorem dX3_thingsOf_32 : decode cX3_thingsOf 32 = .ok (.goto (-28), 3) := by decide +kernel
theorem dX3_thingsOf_35 : decode cX3_thingsOf 35 = .ok (.iload_n 2, 1) := by decide +kernel
theorem dX3_thingsOf_36 : decode cX3_thingsOf 36 = .ok (.ireturn, 1) := by decide +kernel
theorem dX3_things_0 : decode cX3_things 0 = .ok (.iconst 0, 1) := by decide +kernel
theorem dX3_things_1 : decode cX3_things 1 = .ok (.istore_n 1, 1) := by decide +kernel
theorem dX3_things_2 : decode cX3_things 2 = .ok (.iconst 0, 1) := by decide +kernel
theorem dX3_things_3 : decode cX3_things 3 = .ok (.istore_n 2, 1) := by decide +kernel
theorem dX3_things_4 : decode cX3_things 4 = .ok (.iload_n 2, 1) := by decide +kernel
theorem dX3_things_5 : decode cX3_things 5 = .ok (.aload_n 0, 1) := by decide +kernel
theorem dX3_things_6 : decode cX3_things 6 = .ok (.getfield 15, 3) := by decide +kernel
theorem dX3_things_9 : decode cX3_things 9 = .ok (.getfield 43, 3) := by decide +kernel
theorem dX3_things_12 : decode cX3_things 12 = .ok (.if_icmp .ge 17, 3) := by decide +kernel
theorem dX3_things_15 : decode cX3_things 15 = .ok (.iload_n 1, 1) := by decide +kernel
theorem dX3_things_16 : decode cX3_things 16 = .ok (.aload_n 0, 1) := by decide +kernel
theorem dX3_things_17 : decode cX3_things 17 = .ok (.iload_n 2, 1) := by decide +kernel
theorem dX3_things_18 : decode cX3_things 18 = .ok (.invokevirtual 46, 3) := by decide +kernel
theorem dX3_things_21 : decode cX3_things 21 = .ok (.iadd, 1) := by decide +kernel
theorem dX3_things_22 : decode cX3_things 22 = .ok (.istore_n 1, 1) := by decide +kernel
theorem dX3_things_23 : decode cX3_things 23 = .ok (.iinc 2 1, 3) := by decide +kernel
theorem dX3_things_26 : decode cX3_things 26 = .ok (.goto (-22), 3) := by decide +kernel
theorem dX3_things_29 : decode cX3_things 29 = .ok (.iload_n 1, 1) := by decide +kernel
theorem dX3_things_30 : decode cX3_things 30 = .ok (.ireturn, 1) := by decide +kernel
theorem dX3_bagWorth_0 : decode cX3_bagWorth 0 = .ok (.iload_n 1, 1) := by decide +kernel
theorem dX3_bagWorth_1 : decode cX3_bagWorth 1 = .ok (.bipush 8, 2) := by decide +kernel
theorem dX3_bagWorth_3 : decode cX3_bagWorth 3 = .ok (.imul, 1) := by decide +kernel
theorem dX3_bagWorth_4 : decode cX3_bagWorth 4 = .ok (.istore_n 2, 1) := by decide +kernel
theorem dX3_bagWorth_5 : decode cX3_bagWorth 5 = .ok (.aload_n 0, 1) := by decide +kernel
theorem dX3_bagWorth_6 : decode cX3_bagWorth 6 = .ok (.getfield 15, 3) := by decide +kernel
theorem dX3_bagWorth_9 : decode cX3_bagWorth 9 = .ok (.getfield 50, 3) := by decide +kernel
theorem dX3_bagWorth_12 : decode cX3_bagWorth 12 = .ok (.iload_n 1, 1) := by decide +kernel
theorem dX3_bagWorth_13 : decode cX3_bagWorth 13 = .ok (.iaload, 1) := by decide +kernel
theorem dX3_bagWorth_14 : decode cX3_bagWorth 14 = .ok (.istore_n 3, 1) := by decide +kernel
theorem dX3_bagWorth_15 : decode cX3_bagWorth 15 = .ok (.iload_n 3, 1) := by decide +kernel
theorem dX3_bagWorth_16 : decode cX3_bagWorth 16 = .ok (.ifCond .le 12, 3) := by decide +kernel
theorem dX3_bagWorth_19 : decode cX3_bagWorth 19 = .ok (.bipush 99, 2) := by decide +kernel
theorem dX3_bagWorth_21 : decode cX3_bagWorth 21 = .ok (.iload_n 3, 1) := by decide +kernel
theorem dX3_bagWorth_22 : decode cX3_bagWorth 22 = .ok (.iadd, 1) := by decide +kernel
theorem dX3_bagWorth_23 : decode cX3_bagWorth 23 = .ok (.iload_n 3, 1) := by decide +kernel
theorem dX3_bagWorth_24 : decode cX3_bagWorth 24 = .ok (.idiv, 1) := by decide +kernel
theorem dX3_bagWorth_25 : decode cX3_bagWorth 25 = .ok (.goto 5, 3) := by decide +kernel
theorem dX3_bagWorth_28 : decode cX3_bagWorth 28 = .ok (.ldc 53, 2) := by decide +kernel
theorem dX3_bagWorth_30 : decode cX3_bagWorth 30 = .ok (.istore 4, 2) := by decide +kernel
theorem dX3_bagWorth_32 : decode cX3_bagWorth 32 = .ok (.iconst 0, 1) := by decide +kernel
theorem dX3_bagWorth_33 : decode cX3_bagWorth 33 = .ok (.istore 5, 2) := by decide +kernel
theorem dX3_bagWorth_35 : decode cX3_bagWorth 35 = .ok (.iconst 0, 1) := by decide +kernel
theorem dX3_bagWorth_36 : decode cX3_bagWorth 36 = .ok (.istore 6, 2) := by decide +kernel
theorem dX3_bagWorth_38 : decode cX3_bagWorth 38 = .ok (.iload 6, 2) := by decide +kernel
theorem dX3_bagWorth_40 : decode cX3_bagWorth 40 = .ok (.aload_n 0, 1) := by decide +kernel
theorem dX3_bagWorth_41 : decode cX3_bagWorth 41 = .ok (.getfield 15, 3) := by decide +kernel
theorem dX3_bagWorth_44 : decode cX3_bagWorth 44 = .ok (.getfield 43, 3) := by decide +kernel
theorem dX3_bagWorth_47 : decode cX3_bagWorth 47 = .ok (.if_icmp .ge 80, 3) := by decide +kernel
theorem dX3_bagWorth_50 : decode cX3_bagWorth 50 = .ok (.aload_n 0, 1) := by decide +kernel
theorem dX3_bagWorth_51 : decode cX3_bagWorth 51 = .ok (.getfield 9, 3) := by decide +kernel
theorem dX3_bagWorth_54 : decode cX3_bagWorth 54 = .ok (.iload_n 2, 1) := by decide +kernel
theorem dX3_bagWorth_55 : decode cX3_bagWorth 55 = .ok (.iload 6, 2) := by decide +kernel
theorem dX3_bagWorth_57 : decode cX3_bagWorth 57 = .ok (.iadd, 1) := by decide +kernel
theorem dX3_bagWorth_58 : decode cX3_bagWorth 58 = .ok (.iaload, 1) := by decide +kernel
theorem dX3_bagWorth_59 : decode cX3_bagWorth 59 = .ok (.istore 7, 2) := by decide +kernel
theorem dX3_bagWorth_61 : decode cX3_bagWorth 61 = .ok (.iload 7, 2) := by decide +kernel
theorem dX3_bagWorth_63 : decode cX3_bagWorth 63 = .ok (.ifCond .le 58, 3) := by decide +kernel
theorem dX3_bagWorth_66 : decode cX3_bagWorth 66 = .ok (.iload 7, 2) := by decide +kernel
theorem dX3_bagWorth_68 : decode cX3_bagWorth 68 = .ok (.iload 4, 2) := by decide +kernel
theorem dX3_bagWorth_70 : decode cX3_bagWorth 70 = .ok (.if_icmp .ge 8, 3) := by decide +kernel
theorem dX3_bagWorth_73 : decode cX3_bagWorth 73 = .ok (.iload 7, 2) := by decide +kernel
theorem dX3_bagWorth_75 : decode cX3_bagWorth 75 = .ok (.goto 5, 3) := by decide +kernel
theorem dX3_bagWorth_78 : decode cX3_bagWorth 78 = .ok (.iload 4, 2) := by decide +kernel
theorem dX3_bagWorth_80 : decode cX3_bagWorth 80 = .ok (.istore 8, 2) := by decide +kernel
theorem dX3_bagWorth_82 : decode cX3_bagWorth 82 = .ok (.iload_n 3, 1) := by decide +kernel
theorem dX3_bagWorth_83 : decode cX3_bagWorth 83 = .ok (.iload 8, 2) := by decide +kernel
theorem dX3_bagWorth_85 : decode cX3_bagWorth 85 = .ok (.iload 8, 2) := by decide +kernel
theorem dX3_bagWorth_87 : decode cX3_bagWorth 87 = .ok (.iconst 1, 1) := by decide +kernel
theorem dX3_bagWorth_88 : decode cX3_bagWorth 88 = .ok (.isub, 1) := by decide +kernel
theorem dX3_bagWorth_89 : decode cX3_bagWorth 89 = .ok (.imul, 1) := by decide +kernel
theorem dX3_bagWorth_90 : decode cX3_bagWorth 90 = .ok (.iconst 2, 1) := by decide +kernel
theorem dX3_bagWorth_91 : decode cX3_bagWorth 91 = .ok (.idiv, 1) := by decide +kernel
theorem dX3_bagWorth_92 : decode cX3_bagWorth 92 = .ok (.imul, 1) := by decide +kernel
theorem dX3_bagWorth_93 : decode cX3_bagWorth 93 = .ok (.istore 9, 2) := by decide +kernel
theorem dX3_bagWorth_95 : decode cX3_bagWorth 95 = .ok (.iload 5, 2) := by decide +kernel
theorem dX3_bagWorth_97 : decode cX3_bagWorth 97 = .ok (.aload_n 0, 1) := by decide +kernel
theorem dX3_bagWorth_98 : decode cX3_bagWorth 98 = .ok (.getfield 15, 3) := by decide +kernel
theorem dX3_bagWorth_101 : decode cX3_bagWorth 101 = .ok (.getfield 54, 3) := by decide +kernel
theorem dX3_bagWorth_104 : decode cX3_bagWorth 104 = .ok (.iload_n 2, 1) := by decide +kernel
theorem dX3_bagWorth_105 : decode cX3_bagWorth 105 = .ok (.iload 6, 2) := by decide +kernel
theorem dX3_bagWorth_107 : decode cX3_bagWorth 107 = .ok (.iadd, 1) := by decide +kernel
theorem dX3_bagWorth_108 : decode cX3_bagWorth 108 = .ok (.iaload, 1) := by decide +kernel
theorem dX3_bagWorth_109 : decode cX3_bagWorth 109 = .ok (.bipush 100, 2) := by decide +kernel
theorem dX3_bagWorth_111 : decode cX3_bagWorth 111 = .ok (.iload 8, 2) := by decide +kernel
theorem dX3_bagWorth_113 : decode cX3_bagWorth 113 = .ok (.imul, 1) := by decide +kernel
theorem dX3_bagWorth_114 : decode cX3_bagWorth 114 = .ok (.iload 9, 2) := by decide +kernel
theorem dX3_bagWorth_116 : decode cX3_bagWorth 116 = .ok (.isub, 1) := by decide +kernel
theorem dX3_bagWorth_117 : decode cX3_bagWorth 117 = .ok (.imul, 1) := by decide +kernel
theorem dX3_bagWorth_118 : decode cX3_bagWorth 118 = .ok (.iadd, 1) := by decide +kernel
theorem dX3_bagWorth_119 : decode cX3_bagWorth 119 = .ok (.istore 5, 2) := by decide +kernel
theorem dX3_bagWorth_121 : decode cX3_bagWorth 121 = .ok (.iinc 6 1, 3) := by decide +kernel
theorem dX3_bagWorth_124 : decode cX3_bagWorth 124 = .ok (.goto (-86), 3) := by decide +kernel
theorem dX3_bagWorth_127 : decode cX3_bagWorth 127 = .ok (.iload_n 1, 1) := by decide +kernel
theorem dX3_bagWorth_128 : decode cX3_bagWorth 128 = .ok (.bipush 6, 2) := by decide +kernel
theorem dX3_bagWorth_130 : decode cX3_bagWorth 130 = .ok (.imul, 1) := by decide +kernel
theorem dX3_bagWorth_131 : decode cX3_bagWorth 131 = .ok (.istore 6, 2) := by decide +kernel
theorem dX3_bagWorth_133 : decode cX3_bagWorth 133 = .ok (.iconst 0, 1) := by decide +kernel
theorem dX3_bagWorth_134 : decode cX3_bagWorth 134 = .ok (.istore 7, 2) := by decide +kernel
theorem dX3_bagWorth_136 : decode cX3_bagWorth 136 = .ok (.iload 7, 2) := by decide +kernel
theorem dX3_bagWorth_138 : decode cX3_bagWorth 138 = .ok (.aload_n 0, 1) := by decide +kernel
theorem dX3_bagWorth_139 : decode cX3_bagWorth 139 = .ok (.getfield 15, 3) := by decide +kernel
theorem dX3_bagWorth_142 : decode cX3_bagWorth 142 = .ok (.getfield 57, 3) := by decide +kernel
theorem dX3_bagWorth_145 : decode cX3_bagWorth 145 = .ok (.iload_n 1, 1) := by decide +kernel
theorem dX3_bagWorth_146 : decode cX3_bagWorth 146 = .ok (.iaload, 1) := by decide +kernel
theorem dX3_bagWorth_147 : decode cX3_bagWorth 147 = .ok (.if_icmp .ge 88, 3) := by decide +kernel
theorem dX3_bagWorth_150 : decode cX3_bagWorth 150 = .ok (.aload_n 0, 1) := by decide +kernel
theorem dX3_bagWorth_151 : decode cX3_bagWorth 151 = .ok (.getfield 9, 3) := by decide +kernel
theorem dX3_bagWorth_154 : decode cX3_bagWorth 154 = .ok (.iload_n 2, 1) := by decide +kernel
theorem dX3_bagWorth_155 : decode cX3_bagWorth 155 = .ok (.aload_n 0, 1) := by decide +kernel
theorem dX3_bagWorth_156 : decode cX3_bagWorth 156 = .ok (.getfield 15, 3) := by decide +kernel
theorem dX3_bagWorth_159 : decode cX3_bagWorth 159 = .ok (.getfield 60, 3) := by decide +kernel
theorem dX3_bagWorth_162 : decode cX3_bagWorth 162 = .ok (.iload 6, 2) := by decide +kernel
theorem dX3_bagWorth_164 : decode cX3_bagWorth 164 = .ok (.iload 7, 2) := by decide +kernel
theorem dX3_bagWorth_166 : decode cX3_bagWorth 166 = .ok (.iadd, 1) := by decide +kernel
theorem dX3_bagWorth_167 : decode cX3_bagWorth 167 = .ok (.iaload, 1) := by decide +kernel
theorem dX3_bagWorth_168 : decode cX3_bagWorth 168 = .ok (.iadd, 1) := by decide +kernel
theorem dX3_bagWorth_169 : decode cX3_bagWorth 169 = .ok (.iaload, 1) := by decide +kernel
theorem dX3_bagWorth_170 : decode cX3_bagWorth 170 = .ok (.ifCond .le 30, 3) := by decide +kernel
theorem dX3_bagWorth_173 : decode cX3_bagWorth 173 = .ok (.aload_n 0, 1) := by decide +kernel
theorem dX3_bagWorth_174 : decode cX3_bagWorth 174 = .ok (.getfield 9, 3) := by decide +kernel
theorem dX3_bagWorth_177 : decode cX3_bagWorth 177 = .ok (.iload_n 2, 1) := by decide +kernel
theorem dX3_bagWorth_178 : decode cX3_bagWorth 178 = .ok (.aload_n 0, 1) := by decide +kernel
theorem dX3_bagWorth_179 : decode cX3_bagWorth 179 = .ok (.getfield 15, 3) := by decide +kernel
theorem dX3_bagWorth_182 : decode cX3_bagWorth 182 = .ok (.getfield 63, 3) := by decide +kernel
theorem dX3_bagWorth_185 : decode cX3_bagWorth 185 = .ok (.iload 6, 2) := by decide +kernel
theorem dX3_bagWorth_187 : decode cX3_bagWorth 187 = .ok (.iload 7, 2) := by decide +kernel
theorem dX3_bagWorth_189 : decode cX3_bagWorth 189 = .ok (.iadd, 1) := by decide +kernel
theorem dX3_bagWorth_190 : decode cX3_bagWorth 190 = .ok (.iaload, 1) := by decide +kernel
theorem dX3_bagWorth_191 : decode cX3_bagWorth 191 = .ok (.iadd, 1) := by decide +kernel
theorem dX3_bagWorth_192 : decode cX3_bagWorth 192 = .ok (.iaload, 1) := by decide +kernel
theorem dX3_bagWorth_193 : decode cX3_bagWorth 193 = .ok (.ifCond .le 7, 3) := by decide +kernel
theorem dX3_bagWorth_196 : decode cX3_bagWorth 196 = .ok (.iconst 1, 1) := by decide +kernel
theorem dX3_bagWorth_197 : decode cX3_bagWorth 197 = .ok (.goto 4, 3) := by decide +kernel
theorem dX3_bagWorth_200 : decode cX3_bagWorth 200 = .ok (.iconst 0, 1) := by decide +kernel
theorem dX3_bagWorth_201 : decode cX3_bagWorth 201 = .ok (.istore 8, 2) := by decide +kernel
theorem dX3_bagWorth_203 : decode cX3_bagWorth 203 = .ok (.iload 8, 2) := by decide +kernel
theorem dX3_bagWorth_205 : decode cX3_bagWorth 205 = .ok (.ifCond .eq 24, 3) := by decide +kernel
theorem dX3_bagWorth_208 : decode cX3_bagWorth 208 = .ok (.iload 5, 2) := by decide +kernel
theorem dX3_bagWorth_210 : decode cX3_bagWorth 210 = .ok (.bipush 100, 2) := by decide +kernel
theorem dX3_bagWorth_212 : decode cX3_bagWorth 212 = .ok (.aload_n 0, 1) := by decide +kernel
theorem dX3_bagWorth_213 : decode cX3_bagWorth 213 = .ok (.getfield 15, 3) := by decide +kernel
theorem dX3_bagWorth_216 : decode cX3_bagWorth 216 = .ok (.getfield 66, 3) := by decide +kernel
theorem dX3_bagWorth_219 : decode cX3_bagWorth 219 = .ok (.iload 6, 2) := by decide +kernel
theorem dX3_bagWorth_221 : decode cX3_bagWorth 221 = .ok (.iload 7, 2) := by decide +kernel
theorem dX3_bagWorth_223 : decode cX3_bagWorth 223 = .ok (.iadd, 1) := by decide +kernel
theorem dX3_bagWorth_224 : decode cX3_bagWorth 224 = .ok (.iaload, 1) := by decide +kernel
theorem dX3_bagWorth_225 : decode cX3_bagWorth 225 = .ok (.imul, 1) := by decide +kernel
theorem dX3_bagWorth_226 : decode cX3_bagWorth 226 = .ok (.iadd, 1) := by decide +kernel
theorem dX3_bagWorth_227 : decode cX3_bagWorth 227 = .ok (.istore 5, 2) := by decide +kernel
theorem dX3_bagWorth_229 : decode cX3_bagWorth 229 = .ok (.iinc 7 1, 3) := by decide +kernel
theorem dX3_bagWorth_232 : decode cX3_bagWorth 232 = .ok (.goto (-96), 3) := by decide +kernel
theorem dX3_bagWorth_235 : decode cX3_bagWorth 235 = .ok (.iload 5, 2) := by decide +kernel
theorem dX3_bagWorth_237 : decode cX3_bagWorth 237 = .ok (.ireturn, 1) := by decide +kernel
theorem dX3_allWorth_0 : decode cX3_allWorth 0 = .ok (.iconst 0, 1) := by decide +kernel
theorem dX3_allWorth_1 : decode cX3_allWorth 1 = .ok (.istore_n 1, 1) := by decide +kernel
theorem dX3_allWorth_2 : decode cX3_allWorth 2 = .ok (.iconst 0, 1) := by decide +kernel
theorem dX3_allWorth_3 : decode cX3_allWorth 3 = .ok (.istore_n 2, 1) := by decide +kernel
theorem dX3_allWorth_4 : decode cX3_allWorth 4 = .ok (.iload_n 2, 1) := by decide +kernel
theorem dX3_allWorth_5 : decode cX3_allWorth 5 = .ok (.aload_n 0, 1) := by decide +kernel
theorem dX3_allWorth_6 : decode cX3_allWorth 6 = .ok (.getfield 15, 3) := by decide +kernel
theorem dX3_allWorth_9 : decode cX3_allWorth 9 = .ok (.getfield 39, 3) := by decide +kernel
theorem dX3_allWorth_12 : decode cX3_allWorth 12 = .ok (.if_icmp .ge 17, 3) := by decide +kernel
theorem dX3_allWorth_15 : decode cX3_allWorth 15 = .ok (.iload_n 1, 1) := by decide +kernel
theorem dX3_allWorth_16 : decode cX3_allWorth 16 = .ok (.aload_n 0, 1) := by decide +kernel
theorem dX3_allWorth_17 : decode cX3_allWorth 17 = .ok (.iload_n 2, 1) := by decide +kernel
theorem dX3_allWorth_18 : decode cX3_allWorth 18 = .ok (.invokevirtual 69, 3) := by decide +kernel
theorem dX3_allWorth_21 : decode cX3_allWorth 21 = .ok (.iadd, 1) := by decide +kernel
theorem dX3_allWorth_22 : decode cX3_allWorth 22 = .ok (.istore_n 1, 1) := by decide +kernel
theorem dX3_allWorth_23 : decode cX3_allWorth 23 = .ok (.iinc 2 1, 3) := by decide +kernel
theorem dX3_allWorth_26 : decode cX3_allWorth 26 = .ok (.goto (-22), 3) := by decide +kernel
theorem dX3_allWorth_29 : decode cX3_allWorth 29 = .ok (.iload_n 1, 1) := by decide +kernel
theorem dX3_allWorth_30 : decode cX3_allWorth 30 = .ok (.ireturn, 1) := by decide +kernel
theorem dX3_leastWorth_0 : decode cX3_leastWorth 0 = .ok (.aload_n 0, 1) := by decide +kernel
theorem dX3_leastWorth_1 : decode cX3_leastWorth 1 = .ok (.iconst 0, 1) := by decide +kernel
theorem dX3_leastWorth_2 : decode cX3_leastWorth 2 = .ok (.invokevirtual 69, 3) := by decide +kernel
theorem dX3_leastWorth_5 : decode cX3_leastWorth 5 = .ok (.istore_n 1, 1) := by decide +kernel
theorem dX3_leastWorth_6 : decode cX3_leastWorth 6 = .ok (.iconst 1, 1) := by decide +kernel
theorem dX3_leastWorth_7 : decode cX3_leastWorth 7 = .ok (.istore_n 2, 1) := by decide +kernel
theorem dX3_leastWorth_8 : decode cX3_leastWorth 8 = .ok (.iload_n 2, 1) := by decide +kernel
theorem dX3_leastWorth_9 : decode cX3_leastWorth 9 = .ok (.aload_n 0, 1) := by decide +kernel
theorem dX3_leastWorth_10 : decode cX3_leastWorth 10 = .ok (.getfield 15, 3) := by decide +kernel
theorem dX3_leastWorth_13 : decode cX3_leastWorth 13 = .ok (.getfield 39, 3) := by decide +kernel
theorem dX3_leastWorth_16 : decode cX3_leastWorth 16 = .ok (.if_icmp .ge 19, 3) := by decide +kernel
theorem dX3_leastWorth_19 : decode cX3_leastWorth 19 = .ok (.iload_n 1, 1) := by decide +kernel
theorem dX3_leastWorth_20 : decode cX3_leastWorth 20 = .ok (.aload_n 0, 1) := by decide +kernel
theorem dX3_leastWorth_21 : decode cX3_leastWorth 21 = .ok (.iload_n 2, 1) := by decide +kernel
theorem dX3_leastWorth_22 : decode cX3_leastWorth 22 = .ok (.invokevirtual 69, 3) := by decide +kernel
theorem dX3_leastWorth_25 : decode cX3_leastWorth 25 = .ok (.invokestatic 72, 3) := by decide +kernel
theorem dX3_leastWorth_28 : decode cX3_leastWorth 28 = .ok (.istore_n 1, 1) := by decide +kernel
theorem dX3_leastWorth_29 : decode cX3_leastWorth 29 = .ok (.iinc 2 1, 3) := by decide +kernel
theorem dX3_leastWorth_32 : decode cX3_leastWorth 32 = .ok (.goto (-24), 3) := by decide +kernel
theorem dX3_leastWorth_35 : decode cX3_leastWorth 35 = .ok (.iload_n 1, 1) := by decide +kernel
theorem dX3_leastWorth_36 : decode cX3_leastWorth 36 = .ok (.ireturn, 1) := by decide +kernel
theorem dX3_isLawful_0 : decode cX3_isLawful 0 = .ok (.aload_n 0, 1) := by decide +kernel
theorem dX3_isLawful_1 : decode cX3_isLawful 1 = .ok (.iload_n 1, 1) := by decide +kernel
theorem dX3_isLawful_2 : decode cX3_isLawful 2 = .ok (.iload_n 3, 1) := by decide +kernel
theorem dX3_isLawful_3 : decode cX3_isLawful 3 = .ok (.invokevirtual 78, 3) := by decide +kernel
theorem dX3_isLawful_6 : decode cX3_isLawful 6 = .ok (.ifCond .eq 18, 3) := by decide +kernel
theorem dX3_isLawful_9 : decode cX3_isLawful 9 = .ok (.aload_n 0, 1) := by decide +kernel
theorem dX3_isLawful_10 : decode cX3_isLawful 10 = .ok (.iload_n 2, 1) := by decide +kernel
theorem dX3_isLawful_11 : decode cX3_isLawful 11 = .ok (.iload_n 3, 1) := by decide +kernel
theorem dX3_isLawful_12 : decode cX3_isLawful 12 = .ok (.iload 4, 2) := by decide +kernel
theorem dX3_isLawful_14 : decode cX3_isLawful 14 = .ok (.invokevirtual 82, 3) := by decide +kernel
theorem dX3_isLawful_17 : decode cX3_isLawful 17 = .ok (.ifCond .eq 7, 3) := by decide +kernel
theorem dX3_isLawful_20 : decode cX3_isLawful 20 = .ok (.iconst 1, 1) := by decide +kernel
theorem dX3_isLawful_21 : decode cX3_isLawful 21 = .ok (.goto 4, 3) := by decide +kernel
theorem dX3_isLawful_24 : decode cX3_isLawful 24 = .ok (.iconst 0, 1) := by decide +kernel
theorem dX3_isLawful_25 : decode cX3_isLawful 25 = .ok (.ireturn, 1) := by decide +kernel
theorem dX3_canGive_0 : decode cX3_canGive 0 = .ok (.aload_n 0, 1) := by decide +kernel
theorem dX3_canGive_1 : decode cX3_canGive 1 = .ok (.getfield 25, 3) := by decide +kernel
theorem dX3_canGive_4 : decode cX3_canGive 4 = .ok (.getfield 86, 3) := by decide +kernel
theorem dX3_canGive_7 : decode cX3_canGive 7 = .ok (.iload_n 2, 1) := by decide +kernel
theorem dX3_canGive_8 : decode cX3_canGive 8 = .ok (.baload, 1) := by decide +kernel
theorem dX3_canGive_9 : decode cX3_canGive 9 = .ok (.ifCond .ne 5, 3) := by decide +kernel
theorem dX3_canGive_12 : decode cX3_canGive 12 = .ok (.iconst 0, 1) := by decide +kernel
theorem dX3_canGive_13 : decode cX3_canGive 13 = .ok (.ireturn, 1) := by decide +kernel
theorem dX3_canGive_14 : decode cX3_canGive 14 = .ok (.iload_n 2, 1) := by decide +kernel
theorem dX3_canGive_15 : decode cX3_canGive 15 = .ok (.iconst 3, 1) := by decide +kernel
theorem dX3_canGive_16 : decode cX3_canGive 16 = .ok (.imul, 1) := by decide +kernel
theorem dX3_canGive_17 : decode cX3_canGive 17 = .ok (.istore_n 3, 1) := by decide +kernel
theorem dX3_canGive_18 : decode cX3_canGive 18 = .ok (.iconst 0, 1) := by decide +kernel
theorem dX3_canGive_19 : decode cX3_canGive 19 = .ok (.istore 4, 2) := by decide +kernel
theorem dX3_canGive_21 : decode cX3_canGive 21 = .ok (.iconst 0, 1) := by decide +kernel
theorem dX3_canGive_22 : decode cX3_canGive 22 = .ok (.istore 5, 2) := by decide +kernel
theorem dX3_canGive_24 : decode cX3_canGive 24 = .ok (.iload 5, 2) := by decide +kernel
theorem dX3_canGive_26 : decode cX3_canGive 26 = .ok (.aload_n 0, 1) := by decide +kernel
theorem dX3_canGive_27 : decode cX3_canGive 27 = .ok (.getfield 25, 3) := by decide +kernel
theorem dX3_canGive_30 : decode cX3_canGive 30 = .ok (.getfield 92, 3) := by decide +kernel
theorem dX3_canGive_33 : decode cX3_canGive 33 = .ok (.if_icmp .ge 76, 3) := by decide +kernel
theorem dX3_canGive_36 : decode cX3_canGive 36 = .ok (.aload_n 0, 1) := by decide +kernel
theorem dX3_canGive_37 : decode cX3_canGive 37 = .ok (.getfield 25, 3) := by decide +kernel
theorem dX3_canGive_40 : decode cX3_canGive 40 = .ok (.getfield 95, 3) := by decide +kernel
theorem dX3_canGive_43 : decode cX3_canGive 43 = .ok (.iload_n 3, 1) := by decide +kernel
theorem dX3_canGive_44 : decode cX3_canGive 44 = .ok (.iload 5, 2) := by decide +kernel
theorem dX3_canGive_46 : decode cX3_canGive 46 = .ok (.iadd, 1) := by decide +kernel
theorem dX3_canGive_47 : decode cX3_canGive 47 = .ok (.iaload, 1) := by decide +kernel
theorem dX3_canGive_48 : decode cX3_canGive 48 = .ok (.istore 6, 2) := by decide +kernel
theorem dX3_canGive_50 : decode cX3_canGive 50 = .ok (.iload 5, 2) := by decide +kernel
theorem dX3_canGive_52 : decode cX3_canGive 52 = .ok (.ifCond .le 29, 3) := by decide +kernel
theorem dX3_canGive_55 : decode cX3_canGive 55 = .ok (.aload_n 0, 1) := by decide +kernel
theorem dX3_canGive_56 : decode cX3_canGive 56 = .ok (.getfield 25, 3) := by decide +kernel
theorem dX3_canGive_59 : decode cX3_canGive 59 = .ok (.getfield 95, 3) := by decide +kernel
theorem dX3_canGive_62 : decode cX3_canGive 62 = .ok (.iload_n 3, 1) := by decide +kernel
theorem dX3_canGive_63 : decode cX3_canGive 63 = .ok (.iload 5, 2) := by decide +kernel
theorem dX3_canGive_65 : decode cX3_canGive 65 = .ok (.iadd, 1) := by decide +kernel
theorem dX3_canGive_66 : decode cX3_canGive 66 = .ok (.iconst 1, 1) := by decide +kernel
theorem dX3_canGive_67 : decode cX3_canGive 67 = .ok (.isub, 1) := by decide +kernel
theorem dX3_canGive_68 : decode cX3_canGive 68 = .ok (.iaload, 1) := by decide +kernel
theorem dX3_canGive_69 : decode cX3_canGive 69 = .ok (.iload 6, 2) := by decide +kernel
theorem dX3_canGive_71 : decode cX3_canGive 71 = .ok (.if_icmp .ne 10, 3) := by decide +kernel
theorem dX3_canGive_74 : decode cX3_canGive 74 = .ok (.iload 4, 2) := by decide +kernel
theorem dX3_canGive_76 : decode cX3_canGive 76 = .ok (.iconst 1, 1) := by decide +kernel
theorem dX3_canGive_77 : decode cX3_canGive 77 = .ok (.iadd, 1) := by decide +kernel
theorem dX3_canGive_78 : decode cX3_canGive 78 = .ok (.goto 4, 3) := by decide +kernel
theorem dX3_canGive_81 : decode cX3_canGive 81 = .ok (.iconst 1, 1) := by decide +kernel
theorem dX3_canGive_82 : decode cX3_canGive 82 = .ok (.istore 4, 2) := by decide +kernel
theorem dX3_canGive_84 : decode cX3_canGive 84 = .ok (.aload_n 0, 1) := by decide +kernel
theorem dX3_canGive_85 : decode cX3_canGive 85 = .ok (.getfield 9, 3) := by decide +kernel
theorem dX3_canGive_88 : decode cX3_canGive 88 = .ok (.iload_n 1, 1) := by decide +kernel
theorem dX3_canGive_89 : decode cX3_canGive 89 = .ok (.bipush 8, 2) := by decide +kernel
theorem dX3_canGive_91 : decode cX3_canGive 91 = .ok (.imul, 1) := by decide +kernel
theorem dX3_canGive_92 : decode cX3_canGive 92 = .ok (.iload 6, 2) := by decide +kernel
theorem dX3_canGive_94 : decode cX3_canGive 94 = .ok (.iadd, 1) := by decide +kernel
theorem dX3_canGive_95 : decode cX3_canGive 95 = .ok (.iaload, 1) := by decide +kernel
theorem dX3_canGive_96 : decode cX3_canGive 96 = .ok (.iload 4, 2) := by decide +kernel
theorem dX3_canGive_98 : decode cX3_canGive 98 = .ok (.if_icmp .ge 5, 3) := by decide +kernel
theorem dX3_canGive_101 : decode cX3_canGive 101 = .ok (.iconst 0, 1) := by decide +kernel
theorem dX3_canGive_102 : decode cX3_canGive 102 = .ok (.ireturn, 1) := by decide +kernel
theorem dX3_canGive_103 : decode cX3_canGive 103 = .ok (.iinc 5 1, 3) := by decide +kernel
theorem dX3_canGive_106 : decode cX3_canGive 106 = .ok (.goto (-82), 3) := by decide +kernel
theorem dX3_canGive_109 : decode cX3_canGive 109 = .ok (.iconst 1, 1) := by decide +kernel
theorem dX3_canGive_110 : decode cX3_canGive 110 = .ok (.ireturn, 1) := by decide +kernel
theorem dX3_canGet_0 : decode cX3_canGet 0 = .ok (.aload_n 0, 1) := by decide +kernel
theorem dX3_canGet_1 : decode cX3_canGet 1 = .ok (.getfield 9, 3) := by decide +kernel
theorem dX3_canGet_4 : decode cX3_canGet 4 = .ok (.iload_n 1, 1) := by decide +kernel
theorem dX3_canGet_5 : decode cX3_canGet 5 = .ok (.bipush 8, 2) := by decide +kernel
theorem dX3_canGet_7 : decode cX3_canGet 7 = .ok (.imul, 1) := by decide +kernel
theorem dX3_canGet_8 : decode cX3_canGet 8 = .ok (.iload_n 3, 1) := by decide +kernel
theorem dX3_canGet_9 : decode cX3_canGet 9 = .ok (.iadd, 1) := by decide +kernel
theorem dX3_canGet_10 : decode cX3_canGet 10 = .ok (.iaload, 1) := by decide +kernel
theorem dX3_canGet_11 : decode cX3_canGet 11 = .ok (.ifCond .le 23, 3) := by decide +kernel
theorem dX3_canGet_14 : decode cX3_canGet 14 = .ok (.aload_n 0, 1) := by decide +kernel
theorem dX3_canGet_15 : decode cX3_canGet 15 = .ok (.getfield 25, 3) := by decide +kernel
theorem dX3_canGet_18 : decode cX3_canGet 18 = .ok (.getfield 98, 3) := by decide +kernel
theorem dX3_canGet_21 : decode cX3_canGet 21 = .ok (.iload_n 2, 1) := by decide +kernel
theorem dX3_canGet_22 : decode cX3_canGet 22 = .ok (.iaload, 1) := by decide +kernel
theorem dX3_canGet_23 : decode cX3_canGet 23 = .ok (.iload_n 3, 1) := by decide +kernel
theorem dX3_canGet_24 : decode cX3_canGet 24 = .ok (.ishr, 1) := by decide +kernel
theorem dX3_canGet_25 : decode cX3_canGet 25 = .ok (.iconst 1, 1) := by decide +kernel
theorem dX3_canGet_26 : decode cX3_canGet 26 = .ok (.iand, 1) := by decide +kernel
theorem dX3_canGet_27 : decode cX3_canGet 27 = .ok (.ifCond .ne 7, 3) := by decide +kernel
theorem dX3_canGet_30 : decode cX3_canGet 30 = .ok (.iconst 1, 1) := by decide +kernel
theorem dX3_canGet_31 : decode cX3_canGet 31 = .ok (.goto 4, 3) := by decide +kernel
theorem dX3_canGet_34 : decode cX3_canGet 34 = .ok (.iconst 0, 1) := by decide +kernel
theorem dX3_canGet_35 : decode cX3_canGet 35 = .ok (.ireturn, 1) := by decide +kernel
theorem dX3_deal_0 : decode cX3_deal 0 = .ok (.iload_n 1, 1) := by decide +kernel
theorem dX3_deal_1 : decode cX3_deal 1 = .ok (.bipush 8, 2) := by decide +kernel
theorem dX3_deal_3 : decode cX3_deal 3 = .ok (.imul, 1) := by decide +kernel
theorem dX3_deal_4 : decode cX3_deal 4 = .ok (.istore 6, 2) := by decide +kernel
theorem dX3_deal_6 : decode cX3_deal 6 = .ok (.iload_n 2, 1) := by decide +kernel
theorem dX3_deal_7 : decode cX3_deal 7 = .ok (.bipush 8, 2) := by decide +kernel
theorem dX3_deal_9 : decode cX3_deal 9 = .ok (.imul, 1) := by decide +kernel
theorem dX3_deal_10 : decode cX3_deal 10 = .ok (.istore 7, 2) := by decide +kernel
theorem dX3_deal_12 : decode cX3_deal 12 = .ok (.iload_n 3, 1) := by decide +kernel
theorem dX3_deal_13 : decode cX3_deal 13 = .ok (.iconst 3, 1) := by decide +kernel
theorem dX3_deal_14 : decode cX3_deal 14 = .ok (.imul, 1) := by decide +kernel
theorem dX3_deal_15 : decode cX3_deal 15 = .ok (.istore 8, 2) := by decide +kernel
theorem dX3_deal_17 : decode cX3_deal 17 = .ok (.iconst 0, 1) := by decide +kernel
theorem dX3_deal_18 : decode cX3_deal 18 = .ok (.istore 9, 2) := by decide +kernel
theorem dX3_deal_20 : decode cX3_deal 20 = .ok (.iload 9, 2) := by decide +kernel
theorem dX3_deal_22 : decode cX3_deal 22 = .ok (.aload_n 0, 1) := by decide +kernel
theorem dX3_deal_23 : decode cX3_deal 23 = .ok (.getfield 25, 3) := by decide +kernel
theorem dX3_deal_26 : decode cX3_deal 26 = .ok (.getfield 92, 3) := by decide +kernel
theorem dX3_deal_29 : decode cX3_deal 29 = .ok (.if_icmp .ge 64, 3) := by decide +kernel
theorem dX3_deal_32 : decode cX3_deal 32 = .ok (.aload_n 0, 1) := by decide +kernel
theorem dX3_deal_33 : decode cX3_deal 33 = .ok (.getfield 25, 3) := by decide +kernel
theorem dX3_deal_36 : decode cX3_deal 36 = .ok (.getfield 95, 3) := by decide +kernel
theorem dX3_deal_39 : decode cX3_deal 39 = .ok (.iload 8, 2) := by decide +kernel
theorem dX3_deal_41 : decode cX3_deal 41 = .ok (.iload 9, 2) := by decide +kernel
theorem dX3_deal_43 : decode cX3_deal 43 = .ok (.iadd, 1) := by decide +kernel
theorem dX3_deal_44 : decode cX3_deal 44 = .ok (.iaload, 1) := by decide +kernel
theorem dX3_deal_45 : decode cX3_deal 45 = .ok (.istore 10, 2) := by decide +kernel
theorem dX3_deal_47 : decode cX3_deal 47 = .ok (.aload_n 0, 1) := by decide +kernel
theorem dX3_deal_48 : decode cX3_deal 48 = .ok (.getfield 9, 3) := by decide +kernel
theorem dX3_deal_51 : decode cX3_deal 51 = .ok (.iload 6, 2) := by decide +kernel
theorem dX3_deal_53 : decode cX3_deal 53 = .ok (.iload 10, 2) := by decide +kernel
theorem dX3_deal_55 : decode cX3_deal 55 = .ok (.iadd, 1) := by decide +kernel
theorem dX3_deal_56 : decode cX3_deal 56 = .ok (.dup2, 1) := by decide +kernel
theorem dX3_deal_57 : decode cX3_deal 57 = .ok (.iaload, 1) := by decide +kernel
theorem dX3_deal_58 : decode cX3_deal 58 = .ok (.iload 5, 2) := by decide +kernel
theorem dX3_deal_60 : decode cX3_deal 60 = .ok (.isub, 1) := by decide +kernel
theorem dX3_deal_61 : decode cX3_deal 61 = .ok (.iastore, 1) := by decide +kernel
theorem dX3_deal_62 : decode cX3_deal 62 = .ok (.aload_n 0, 1) := by decide +kernel
theorem dX3_deal_63 : decode cX3_deal 63 = .ok (.getfield 25, 3) := by decide +kernel
theorem dX3_deal_66 : decode cX3_deal 66 = .ok (.getfield 101, 3) := by decide +kernel
theorem dX3_deal_69 : decode cX3_deal 69 = .ok (.ifCond .ne 18, 3) := by decide +kernel
theorem dX3_deal_72 : decode cX3_deal 72 = .ok (.aload_n 0, 1) := by decide +kernel
theorem dX3_deal_73 : decode cX3_deal 73 = .ok (.getfield 9, 3) := by decide +kernel
theorem dX3_deal_76 : decode cX3_deal 76 = .ok (.iload 7, 2) := by decide +kernel
theorem dX3_deal_78 : decode cX3_deal 78 = .ok (.iload 10, 2) := by decide +kernel
theorem dX3_deal_80 : decode cX3_deal 80 = .ok (.iadd, 1) := by decide +kernel
theorem dX3_deal_81 : decode cX3_deal 81 = .ok (.dup2, 1) := by decide +kernel
theorem dX3_deal_82 : decode cX3_deal 82 = .ok (.iaload, 1) := by decide +kernel
theorem dX3_deal_83 : decode cX3_deal 83 = .ok (.iload 5, 2) := by decide +kernel
theorem dX3_deal_85 : decode cX3_deal 85 = .ok (.iadd, 1) := by decide +kernel
theorem dX3_deal_86 : decode cX3_deal 86 = .ok (.iastore, 1) := by decide +kernel
theorem dX3_deal_87 : decode cX3_deal 87 = .ok (.iinc 9 1, 3) := by decide +kernel
theorem dX3_deal_90 : decode cX3_deal 90 = .ok (.goto (-70), 3) := by decide +kernel
theorem dX3_deal_93 : decode cX3_deal 93 = .ok (.aload_n 0, 1) := by decide +kernel
theorem dX3_deal_94 : decode cX3_deal 94 = .ok (.getfield 25, 3) := by decide +kernel
theorem dX3_deal_97 : decode cX3_deal 97 = .ok (.getfield 101, 3) := by decide +kernel
theorem dX3_deal_100 : decode cX3_deal 100 = .ok (.ifCond .eq 25, 3) := by decide +kernel
theorem dX3_deal_103 : decode cX3_deal 103 = .ok (.aload_n 0, 1) := by decide +kernel
theorem dX3_deal_104 : decode cX3_deal 104 = .ok (.getfield 9, 3) := by decide +kernel
theorem dX3_deal_107 : decode cX3_deal 107 = .ok (.iload 7, 2) := by decide +kernel
theorem dX3_deal_109 : decode cX3_deal 109 = .ok (.aload_n 0, 1) := by decide +kernel
theorem dX3_deal_110 : decode cX3_deal 110 = .ok (.getfield 25, 3) := by decide +kernel
theorem dX3_deal_113 : decode cX3_deal 113 = .ok (.getfield 105, 3) := by decide +kernel
theorem dX3_deal_116 : decode cX3_deal 116 = .ok (.iload_n 3, 1) := by decide +kernel
theorem dX3_deal_117 : decode cX3_deal 117 = .ok (.iaload, 1) := by decide +kernel
theorem dX3_deal_118 : decode cX3_deal 118 = .ok (.iadd, 1) := by decide +kernel
theorem dX3_deal_119 : decode cX3_deal 119 = .ok (.dup2, 1) := by decide +kernel
theorem dX3_deal_120 : decode cX3_deal 120 = .ok (.iaload, 1) := by decide +kernel
theorem dX3_deal_121 : decode cX3_deal 121 = .ok (.iload 5, 2) := by decide +kernel
theorem dX3_deal_123 : decode cX3_deal 123 = .ok (.iadd, 1) := by decide +kernel
theorem dX3_deal_124 : decode cX3_deal 124 = .ok (.iastore, 1) := by decide +kernel
theorem dX3_deal_125 : decode cX3_deal 125 = .ok (.aload_n 0, 1) := by decide +kernel
theorem dX3_deal_126 : decode cX3_deal 126 = .ok (.getfield 9, 3) := by decide +kernel
theorem dX3_deal_129 : decode cX3_deal 129 = .ok (.iload 6, 2) := by decide +kernel
theorem dX3_deal_131 : decode cX3_deal 131 = .ok (.iload 4, 2) := by decide +kernel
theorem dX3_deal_133 : decode cX3_deal 133 = .ok (.iadd, 1) := by decide +kernel
theorem dX3_deal_134 : decode cX3_deal 134 = .ok (.dup2, 1) := by decide +kernel
theorem dX3_deal_135 : decode cX3_deal 135 = .ok (.iaload, 1) := by decide +kernel
theorem dX3_deal_136 : decode cX3_deal 136 = .ok (.iload 5, 2) := by decide +kernel
theorem dX3_deal_138 : decode cX3_deal 138 = .ok (.iadd, 1) := by decide +kernel
theorem dX3_deal_139 : decode cX3_deal 139 = .ok (.iastore, 1) := by decide +kernel
theorem dX3_deal_140 : decode cX3_deal 140 = .ok (.aload_n 0, 1) := by decide +kernel
theorem dX3_deal_141 : decode cX3_deal 141 = .ok (.getfield 9, 3) := by decide +kernel
theorem dX3_deal_144 : decode cX3_deal 144 = .ok (.iload 7, 2) := by decide +kernel
theorem dX3_deal_146 : decode cX3_deal 146 = .ok (.iload 4, 2) := by decide +kernel
theorem dX3_deal_148 : decode cX3_deal 148 = .ok (.iadd, 1) := by decide +kernel
theorem dX3_deal_149 : decode cX3_deal 149 = .ok (.dup2, 1) := by decide +kernel
theorem dX3_deal_150 : decode cX3_deal 150 = .ok (.iaload, 1) := by decide +kernel
theorem dX3_deal_151 : decode cX3_deal 151 = .ok (.iload 5, 2) := by decide +kernel
theorem dX3_deal_153 : decode cX3_deal 153 = .ok (.isub, 1) := by decide +kernel
theorem dX3_deal_154 : decode cX3_deal 154 = .ok (.iastore, 1) := by decide +kernel
theorem dX3_deal_155 : decode cX3_deal 155 = .ok (.return_, 1) := by decide +kernel
theorem dX3_canTie_0 : decode cX3_canTie 0 = .ok (.iload_n 1, 1) := by decide +kernel
theorem dX3_canTie_1 : decode cX3_canTie 1 = .ok (.bipush 8, 2) := by decide +kernel
theorem dX3_canTie_3 : decode cX3_canTie 3 = .ok (.imul, 1) := by decide +kernel
theorem dX3_canTie_4 : decode cX3_canTie 4 = .ok (.istore_n 3, 1) := by decide +kernel
theorem dX3_canTie_5 : decode cX3_canTie 5 = .ok (.aload_n 0, 1) := by decide +kernel
theorem dX3_canTie_6 : decode cX3_canTie 6 = .ok (.getfield 15, 3) := by decide +kernel
theorem dX3_canTie_9 : decode cX3_canTie 9 = .ok (.getfield 108, 3) := by decide +kernel
theorem dX3_canTie_12 : decode cX3_canTie 12 = .ok (.iload_n 2, 1) := by decide +kernel
theorem dX3_canTie_13 : decode cX3_canTie 13 = .ok (.iaload, 1) := by decide +kernel
theorem dX3_canTie_14 : decode cX3_canTie 14 = .ok (.istore 4, 2) := by decide +kernel
theorem dX3_canTie_16 : decode cX3_canTie 16 = .ok (.aload_n 0, 1) := by decide +kernel
theorem dX3_canTie_17 : decode cX3_canTie 17 = .ok (.getfield 15, 3) := by decide +kernel
theorem dX3_canTie_20 : decode cX3_canTie 20 = .ok (.getfield 111, 3) := by decide +kernel
theorem dX3_canTie_23 : decode cX3_canTie 23 = .ok (.iload_n 2, 1) := by decide +kernel
theorem dX3_canTie_24 : decode cX3_canTie 24 = .ok (.iaload, 1) := by decide +kernel
theorem dX3_canTie_25 : decode cX3_canTie 25 = .ok (.istore 5, 2) := by decide +kernel
theorem dX3_canTie_27 : decode cX3_canTie 27 = .ok (.iload 4, 2) := by decide +kernel
theorem dX3_canTie_29 : decode cX3_canTie 29 = .ok (.iload 5, 2) := by decide +kernel
theorem dX3_canTie_31 : decode cX3_canTie 31 = .ok (.if_icmp .ne 22, 3) := by decide +kernel
theorem dX3_canTie_34 : decode cX3_canTie 34 = .ok (.aload_n 0, 1) := by decide +kernel
theorem dX3_canTie_35 : decode cX3_canTie 35 = .ok (.getfield 9, 3) := by decide +kernel
theorem dX3_canTie_38 : decode cX3_canTie 38 = .ok (.iload_n 3, 1) := by decide +kernel
theorem dX3_canTie_39 : decode cX3_canTie 39 = .ok (.iload 4, 2) := by decide +kernel
theorem dX3_canTie_41 : decode cX3_canTie 41 = .ok (.iadd, 1) := by decide +kernel
theorem dX3_canTie_42 : decode cX3_canTie 42 = .ok (.iaload, 1) := by decide +kernel
theorem dX3_canTie_43 : decode cX3_canTie 43 = .ok (.iconst 1, 1) := by decide +kernel
theorem dX3_canTie_44 : decode cX3_canTie 44 = .ok (.if_icmp .le 7, 3) := by decide +kernel
theorem dX3_canTie_47 : decode cX3_canTie 47 = .ok (.iconst 1, 1) := by decide +kernel
theorem dX3_canTie_48 : decode cX3_canTie 48 = .ok (.goto 4, 3) := by decide +kernel
theorem dX3_canTie_51 : decode cX3_canTie 51 = .ok (.iconst 0, 1) := by decide +kernel
theorem dX3_canTie_52 : decode cX3_canTie 52 = .ok (.ireturn, 1) := by decide +kernel
theorem dX3_canTie_53 : decode cX3_canTie 53 = .ok (.aload_n 0, 1) := by decide +kernel
theorem dX3_canTie_54 : decode cX3_canTie 54 = .ok (.getfield 9, 3) := by decide +kernel
theorem dX3_canTie_57 : decode cX3_canTie 57 = .ok (.iload_n 3, 1) := by decide +kernel
theorem dX3_canTie_58 : decode cX3_canTie 58 = .ok (.iload 4, 2) := by decide +kernel
theorem dX3_canTie_60 : decode cX3_canTie 60 = .ok (.iadd, 1) := by decide +kernel
theorem dX3_canTie_61 : decode cX3_canTie 61 = .ok (.iaload, 1) := by decide +kernel
theorem dX3_canTie_62 : decode cX3_canTie 62 = .ok (.ifCond .le 19, 3) := by decide +kernel
theorem dX3_canTie_65 : decode cX3_canTie 65 = .ok (.aload_n 0, 1) := by decide +kernel
theorem dX3_canTie_66 : decode cX3_canTie 66 = .ok (.getfield 9, 3) := by decide +kernel
theorem dX3_canTie_69 : decode cX3_canTie 69 = .ok (.iload_n 3, 1) := by decide +kernel
theorem dX3_canTie_70 : decode cX3_canTie 70 = .ok (.iload 5, 2) := by decide +kernel
theorem dX3_canTie_72 : decode cX3_canTie 72 = .ok (.iadd, 1) := by decide +kernel
theorem dX3_canTie_73 : decode cX3_canTie 73 = .ok (.iaload, 1) := by decide +kernel
theorem dX3_canTie_74 : decode cX3_canTie 74 = .ok (.ifCond .le 7, 3) := by decide +kernel
theorem dX3_canTie_77 : decode cX3_canTie 77 = .ok (.iconst 1, 1) := by decide +kernel
theorem dX3_canTie_78 : decode cX3_canTie 78 = .ok (.goto 4, 3) := by decide +kernel
theorem dX3_canTie_81 : decode cX3_canTie 81 = .ok (.iconst 0, 1) := by decide +kernel
theorem dX3_canTie_82 : decode cX3_canTie 82 = .ok (.ireturn, 1) := by decide +kernel
theorem dX3_knot_0 : decode cX3_knot 0 = .ok (.iload_n 1, 1) := by decide +kernel
theorem dX3_knot_1 : decode cX3_knot 1 = .ok (.bipush 8, 2) := by decide +kernel
theorem dX3_knot_3 : decode cX3_knot 3 = .ok (.imul, 1) := by decide +kernel
theorem dX3_knot_4 : decode cX3_knot 4 = .ok (.istore 4, 2) := by decide +kernel
theorem dX3_knot_6 : decode cX3_knot 6 = .ok (.aload_n 0, 1) := by decide +kernel
theorem dX3_knot_7 : decode cX3_knot 7 = .ok (.getfield 9, 3) := by decide +kernel
theorem dX3_knot_10 : decode cX3_knot 10 = .ok (.iload 4, 2) := by decide +kernel
theorem dX3_knot_12 : decode cX3_knot 12 = .ok (.aload_n 0, 1) := by decide +kernel
theorem dX3_knot_13 : decode cX3_knot 13 = .ok (.getfield 15, 3) := by decide +kernel
theorem dX3_knot_16 : decode cX3_knot 16 = .ok (.getfield 108, 3) := by decide +kernel
theorem dX3_knot_19 : decode cX3_knot 19 = .ok (.iload_n 2, 1) := by decide +kernel
theorem dX3_knot_20 : decode cX3_knot 20 = .ok (.iaload, 1) := by decide +kernel
theorem dX3_knot_21 : decode cX3_knot 21 = .ok (.iadd, 1) := by decide +kernel
theorem dX3_knot_22 : decode cX3_knot 22 = .ok (.dup2, 1) := by decide +kernel
theorem dX3_knot_23 : decode cX3_knot 23 = .ok (.iaload, 1) := by decide +kernel
theorem dX3_knot_24 : decode cX3_knot 24 = .ok (.iload_n 3, 1) := by decide +kernel
theorem dX3_knot_25 : decode cX3_knot 25 = .ok (.isub, 1) := by decide +kernel
theorem dX3_knot_26 : decode cX3_knot 26 = .ok (.iastore, 1) := by decide +kernel
theorem dX3_knot_27 : decode cX3_knot 27 = .ok (.aload_n 0, 1) := by decide +kernel
theorem dX3_knot_28 : decode cX3_knot 28 = .ok (.getfield 9, 3) := by decide +kernel
theorem dX3_knot_31 : decode cX3_knot 31 = .ok (.iload 4, 2) := by decide +kernel
theorem dX3_knot_33 : decode cX3_knot 33 = .ok (.aload_n 0, 1) := by decide +kernel
theorem dX3_knot_34 : decode cX3_knot 34 = .ok (.getfield 15, 3) := by decide +kernel
theorem dX3_knot_37 : decode cX3_knot 37 = .ok (.getfield 111, 3) := by decide +kernel
theorem dX3_knot_40 : decode cX3_knot 40 = .ok (.iload_n 2, 1) := by decide +kernel
theorem dX3_knot_41 : decode cX3_knot 41 = .ok (.iaload, 1) := by decide +kernel
theorem dX3_knot_42 : decode cX3_knot 42 = .ok (.iadd, 1) := by decide +kernel
theorem dX3_knot_43 : decode cX3_knot 43 = .ok (.dup2, 1) := by decide +kernel
theorem dX3_knot_44 : decode cX3_knot 44 = .ok (.iaload, 1) := by decide +kernel
theorem dX3_knot_45 : decode cX3_knot 45 = .ok (.iload_n 3, 1) := by decide +kernel
theorem dX3_knot_46 : decode cX3_knot 46 = .ok (.isub, 1) := by decide +kernel
theorem dX3_knot_47 : decode cX3_knot 47 = .ok (.iastore, 1) := by decide +kernel
theorem dX3_knot_48 : decode cX3_knot 48 = .ok (.aload_n 0, 1) := by decide +kernel
theorem dX3_knot_49 : decode cX3_knot 49 = .ok (.getfield 9, 3) := by decide +kernel
theorem dX3_knot_52 : decode cX3_knot 52 = .ok (.iload 4, 2) := by decide +kernel
theorem dX3_knot_54 : decode cX3_knot 54 = .ok (.aload_n 0, 1) := by decide +kernel
theorem dX3_knot_55 : decode cX3_knot 55 = .ok (.getfield 15, 3) := by decide +kernel
theorem dX3_knot_58 : decode cX3_knot 58 = .ok (.getfield 114, 3) := by decide +kernel
theorem dX3_knot_61 : decode cX3_knot 61 = .ok (.iload_n 2, 1) := by decide +kernel
theorem dX3_knot_62 : decode cX3_knot 62 = .ok (.iaload, 1) := by decide +kernel
theorem dX3_knot_63 : decode cX3_knot 63 = .ok (.iadd, 1) := by decide +kernel
theorem dX3_knot_64 : decode cX3_knot 64 = .ok (.dup2, 1) := by decide +kernel
theorem dX3_knot_65 : decode cX3_knot 65 = .ok (.iaload, 1) := by decide +kernel
theorem dX3_knot_66 : decode cX3_knot 66 = .ok (.iload_n 3, 1) := by decide +kernel
theorem dX3_knot_67 : decode cX3_knot 67 = .ok (.iadd, 1) := by decide +kernel
theorem dX3_knot_68 : decode cX3_knot 68 = .ok (.iastore, 1) := by decide +kernel
theorem dX3_knot_69 : decode cX3_knot 69 = .ok (.return_, 1) := by decide +kernel
theorem dX3_encounter_0 : decode cX3_encounter 0 = .ok (.aload_n 0, 1) := by decide +kernel
theorem dX3_encounter_1 : decode cX3_encounter 1 = .ok (.iconst 0, 1) := by decide +kernel
theorem dX3_encounter_2 : decode cX3_encounter 2 = .ok (.putfield 117, 3) := by decide +kernel
theorem dX3_encounter_5 : decode cX3_encounter 5 = .ok (.aload_n 0, 1) := by decide +kernel
theorem dX3_encounter_6 : decode cX3_encounter 6 = .ok (.iload_n 1, 1) := by decide +kernel
theorem dX3_encounter_7 : decode cX3_encounter 7 = .ok (.iload_n 2, 1) := by decide +kernel
theorem dX3_encounter_8 : decode cX3_encounter 8 = .ok (.invokestatic 72, 3) := by decide +kernel
theorem dX3_encounter_11 : decode cX3_encounter 11 = .ok (.iload_n 1, 1) := by decide +kernel
theorem dX3_encounter_12 : decode cX3_encounter 12 = .ok (.iload_n 2, 1) := by decide +kernel
theorem dX3_encounter_13 : decode cX3_encounter 13 = .ok (.invokestatic 120, 3) := by decide +kernel
theorem dX3_encounter_16 : decode cX3_encounter 16 = .ok (.invokevirtual 123, 3) := by decide +kernel
theorem dX3_encounter_19 : decode cX3_encounter 19 = .ok (.aload_n 0, 1) := by decide +kernel
theorem dX3_encounter_20 : decode cX3_encounter 20 = .ok (.iload_n 1, 1) := by decide +kernel
theorem dX3_encounter_21 : decode cX3_encounter 21 = .ok (.iload_n 2, 1) := by decide +kernel
theorem dX3_encounter_22 : decode cX3_encounter 22 = .ok (.invokestatic 120, 3) := by decide +kernel
theorem dX3_encounter_25 : decode cX3_encounter 25 = .ok (.iload_n 1, 1) := by decide +kernel
theorem dX3_encounter_26 : decode cX3_encounter 26 = .ok (.iload_n 2, 1) := by decide +kernel
theorem dX3_encounter_27 : decode cX3_encounter 27 = .ok (.invokestatic 72, 3) := by decide +kernel
theorem dX3_encounter_30 : decode cX3_encounter 30 = .ok (.invokevirtual 123, 3) := by decide +kernel
theorem dX3_encounter_33 : decode cX3_encounter 33 = .ok (.aload_n 0, 1) := by decide +kernel
theorem dX3_encounter_34 : decode cX3_encounter 34 = .ok (.getfield 117, 3) := by decide +kernel
theorem dX3_encounter_37 : decode cX3_encounter 37 = .ok (.ifCond .le 24, 3) := by decide +kernel
theorem dX3_encounter_40 : decode cX3_encounter 40 = .ok (.aload_n 0, 1) := by decide +kernel
theorem dX3_encounter_41 : decode cX3_encounter 41 = .ok (.aload_n 0, 1) := by decide +kernel
theorem dX3_encounter_42 : decode cX3_encounter 42 = .ok (.getfield 127, 3) := by decide +kernel
theorem dX3_encounter_45 : decode cX3_encounter 45 = .ok (.aload_n 0, 1) := by decide +kernel
theorem dX3_encounter_46 : decode cX3_encounter 46 = .ok (.getfield 130, 3) := by decide +kernel
theorem dX3_encounter_49 : decode cX3_encounter 49 = .ok (.aload_n 0, 1) := by decide +kernel
theorem dX3_encounter_50 : decode cX3_encounter 50 = .ok (.getfield 133, 3) := by decide +kernel
theorem dX3_encounter_53 : decode cX3_encounter 53 = .ok (.aload_n 0, 1) := by decide +kernel
theorem dX3_encounter_54 : decode cX3_encounter 54 = .ok (.getfield 136, 3) := by decide +kernel
theorem dX3_encounter_57 : decode cX3_encounter 57 = .ok (.iconst 1, 1) := by decide +kernel
theorem dX3_encounter_58 : decode cX3_encounter 58 = .ok (.invokevirtual 139, 3) := by decide +kernel
theorem dX3_encounter_61 : decode cX3_encounter 61 = .ok (.aload_n 0, 1) := by decide +kernel
theorem dX3_encounter_62 : decode cX3_encounter 62 = .ok (.getfield 117, 3) := by decide +kernel
theorem dX3_encounter_65 : decode cX3_encounter 65 = .ok (.ireturn, 1) := by decide +kernel
theorem dX3_seekBest_0 : decode cX3_seekBest 0 = .ok (.aload_n 0, 1) := by decide +kernel
theorem dX3_seekBest_1 : decode cX3_seekBest 1 = .ok (.iload_n 1, 1) := by decide +kernel
theorem dX3_seekBest_2 : decode cX3_seekBest 2 = .ok (.invokevirtual 69, 3) := by decide +kernel
theorem dX3_seekBest_5 : decode cX3_seekBest 5 = .ok (.istore_n 3, 1) := by decide +kernel
theorem dX3_seekBest_6 : decode cX3_seekBest 6 = .ok (.aload_n 0, 1) := by decide +kernel
theorem dX3_seekBest_7 : decode cX3_seekBest 7 = .ok (.iload_n 2, 1) := by decide +kernel
theorem dX3_seekBest_8 : decode cX3_seekBest 8 = .ok (.invokevirtual 69, 3) := by decide +kernel
theorem dX3_seekBest_11 : decode cX3_seekBest 11 = .ok (.istore 4, 2) := by decide +kernel
theorem dX3_seekBest_13 : decode cX3_seekBest 13 = .ok (.iconst 0, 1) := by decide +kernel
theorem dX3_seekBest_14 : decode cX3_seekBest 14 = .ok (.istore 5, 2) := by decide +kernel
theorem dX3_seekBest_16 : decode cX3_seekBest 16 = .ok (.iload 5, 2) := by decide +kernel
theorem dX3_seekBest_18 : decode cX3_seekBest 18 = .ok (.aload_n 0, 1) := by decide +kernel
theorem dX3_seekBest_19 : decode cX3_seekBest 19 = .ok (.getfield 25, 3) := by decide +kernel
theorem dX3_seekBest_22 : decode cX3_seekBest 22 = .ok (.getfield 143, 3) := by decide +kernel
theorem dX3_seekBest_25 : decode cX3_seekBest 25 = .ok (.if_icmp .ge 161, 3) := by decide +kernel
theorem dX3_seekBest_28 : decode cX3_seekBest 28 = .ok (.aload_n 0, 1) := by decide +kernel
theorem dX3_seekBest_29 : decode cX3_seekBest 29 = .ok (.iload_n 1, 1) := by decide +kernel
theorem dX3_seekBest_30 : decode cX3_seekBest 30 = .ok (.iload 5, 2) := by decide +kernel
theorem dX3_seekBest_32 : decode cX3_seekBest 32 = .ok (.invokevirtual 78, 3) := by decide +kernel
theorem dX3_seekBest_35 : decode cX3_seekBest 35 = .ok (.ifCond .ne 6, 3) := by decide +kernel
theorem dX3_seekBest_38 : decode cX3_seekBest 38 = .ok (.goto 142, 3) := by decide +kernel
theorem dX3_seekBest_41 : decode cX3_seekBest 41 = .ok (.iconst 0, 1) := by decide +kernel
theorem dX3_seekBest_42 : decode cX3_seekBest 42 = .ok (.istore 6, 2) := by decide +kernel
theorem dX3_seekBest_44 : decode cX3_seekBest 44 = .ok (.iload 6, 2) := by decide +kernel
theorem dX3_seekBest_46 : decode cX3_seekBest 46 = .ok (.aload_n 0, 1) := by decide +kernel
theorem dX3_seekBest_47 : decode cX3_seekBest 47 = .ok (.getfield 15, 3) := by decide +kernel
theorem dX3_seekBest_50 : decode cX3_seekBest 50 = .ok (.getfield 43, 3) := by decide +kernel
theorem dX3_seekBest_53 : decode cX3_seekBest 53 = .ok (.if_icmp .ge 127, 3) := by decide +kernel
theorem dX3_seekBest_56 : decode cX3_seekBest 56 = .ok (.aload_n 0, 1) := by decide +kernel
theorem dX3_seekBest_57 : decode cX3_seekBest 57 = .ok (.iload_n 2, 1) := by decide +kernel
theorem dX3_seekBest_58 : decode cX3_seekBest 58 = .ok (.iload 5, 2) := by decide +kernel
theorem dX3_seekBest_60 : decode cX3_seekBest 60 = .ok (.iload 6, 2) := by decide +kernel
theorem dX3_seekBest_62 : decode cX3_seekBest 62 = .ok (.invokevirtual 82, 3) := by decide +kernel
theorem dX3_seekBest_65 : decode cX3_seekBest 65 = .ok (.ifCond .ne 6, 3) := by decide +kernel
theorem dX3_seekBest_68 : decode cX3_seekBest 68 = .ok (.goto 106, 3) := by decide +kernel
theorem dX3_seekBest_71 : decode cX3_seekBest 71 = .ok (.aload_n 0, 1) := by decide +kernel
theorem dX3_seekBest_72 : decode cX3_seekBest 72 = .ok (.iload_n 1, 1) := by decide +kernel
theorem dX3_seekBest_73 : decode cX3_seekBest 73 = .ok (.iload_n 2, 1) := by decide +kernel
theorem dX3_seekBest_74 : decode cX3_seekBest 74 = .ok (.iload 5, 2) := by decide +kernel
theorem dX3_seekBest_76 : decode cX3_seekBest 76 = .ok (.iload 6, 2) := by decide +kernel
theorem dX3_seekBest_78 : decode cX3_seekBest 78 = .ok (.iconst 1, 1) := by decide +kernel
theorem dX3_seekBest_79 : decode cX3_seekBest 79 = .ok (.invokevirtual 139, 3) := by decide +kernel
theorem dX3_seekBest_82 : decode cX3_seekBest 82 = .ok (.aload_n 0, 1) := by decide +kernel
theorem dX3_seekBest_83 : decode cX3_seekBest 83 = .ok (.iload_n 1, 1) := by decide +kernel
theorem dX3_seekBest_84 : decode cX3_seekBest 84 = .ok (.invokevirtual 69, 3) := by decide +kernel
theorem dX3_seekBest_87 : decode cX3_seekBest 87 = .ok (.iload_n 3, 1) := by decide +kernel
theorem dX3_seekBest_88 : decode cX3_seekBest 88 = .ok (.isub, 1) := by decide +kernel
theorem dX3_seekBest_89 : decode cX3_seekBest 89 = .ok (.istore 7, 2) := by decide +kernel
theorem dX3_seekBest_91 : decode cX3_seekBest 91 = .ok (.iload 7, 2) := by decide +kernel
theorem dX3_seekBest_93 : decode cX3_seekBest 93 = .ok (.ifCond .le 14, 3) := by decide +kernel
theorem dX3_seekBest_96 : decode cX3_seekBest 96 = .ok (.aload_n 0, 1) := by decide +kernel
theorem dX3_seekBest_97 : decode cX3_seekBest 97 = .ok (.iload_n 2, 1) := by decide +kernel
theorem dX3_seekBest_98 : decode cX3_seekBest 98 = .ok (.invokevirtual 69, 3) := by decide +kernel
theorem dX3_seekBest_101 : decode cX3_seekBest 101 = .ok (.iload 4, 2) := by decide +kernel
theorem dX3_seekBest_103 : decode cX3_seekBest 103 = .ok (.isub, 1) := by decide +kernel
theorem dX3_seekBest_104 : decode cX3_seekBest 104 = .ok (.goto 4, 3) := by decide +kernel
theorem dX3_seekBest_107 : decode cX3_seekBest 107 = .ok (.iconst 0, 1) := by decide +kernel
theorem dX3_seekBest_108 : decode cX3_seekBest 108 = .ok (.istore 8, 2) := by decide +kernel
theorem dX3_seekBest_110 : decode cX3_seekBest 110 = .ok (.aload_n 0, 1) := by decide +kernel
theorem dX3_seekBest_111 : decode cX3_seekBest 111 = .ok (.iload_n 1, 1) := by decide +kernel
theorem dX3_seekBest_112 : decode cX3_seekBest 112 = .ok (.iload_n 2, 1) := by decide +kernel
theorem dX3_seekBest_113 : decode cX3_seekBest 113 = .ok (.iload 5, 2) := by decide +kernel
theorem dX3_seekBest_115 : decode cX3_seekBest 115 = .ok (.iload 6, 2) := by decide +kernel
theorem dX3_seekBest_117 : decode cX3_seekBest 117 = .ok (.iconst (-1), 1) := by decide +kernel
theorem dX3_seekBest_118 : decode cX3_seekBest 118 = .ok (.invokevirtual 139, 3) := by decide +kernel
theorem dX3_seekBest_121 : decode cX3_seekBest 121 = .ok (.iload 7, 2) := by decide +kernel
theorem dX3_seekBest_123 : decode cX3_seekBest 123 = .ok (.ifCond .le 51, 3) := by decide +kernel
theorem dX3_seekBest_126 : decode cX3_seekBest 126 = .ok (.iload 8, 2) := by decide +kernel
theorem dX3_seekBest_128 : decode cX3_seekBest 128 = .ok (.ifCond .le 46, 3) := by decide +kernel
theorem dX3_seekBest_131 : decode cX3_seekBest 131 = .ok (.iload 7, 2) := by decide +kernel
theorem dX3_seekBest_133 : decode cX3_seekBest 133 = .ok (.iload 8, 2) := by decide +kernel
theorem dX3_seekBest_135 : decode cX3_seekBest 135 = .ok (.iadd, 1) := by decide +kernel
theorem dX3_seekBest_136 : decode cX3_seekBest 136 = .ok (.aload_n 0, 1) := by decide +kernel
theorem dX3_seekBest_137 : decode cX3_seekBest 137 = .ok (.getfield 117, 3) := by decide +kernel
theorem dX3_seekBest_140 : decode cX3_seekBest 140 = .ok (.if_icmp .le 34, 3) := by decide +kernel
theorem dX3_seekBest_143 : decode cX3_seekBest 143 = .ok (.aload_n 0, 1) := by decide +kernel
theorem dX3_seekBest_144 : decode cX3_seekBest 144 = .ok (.iload 7, 2) := by decide +kernel
theorem dX3_seekBest_146 : decode cX3_seekBest 146 = .ok (.iload 8, 2) := by decide +kernel
theorem dX3_seekBest_148 : decode cX3_seekBest 148 = .ok (.iadd, 1) := by decide +kernel
theorem dX3_seekBest_149 : decode cX3_seekBest 149 = .ok (.putfield 117, 3) := by decide +kernel
theorem dX3_seekBest_152 : decode cX3_seekBest 152 = .ok (.aload_n 0, 1) := by decide +kernel
theorem dX3_seekBest_153 : decode cX3_seekBest 153 = .ok (.iload_n 1, 1) := by decide +kernel
theorem dX3_seekBest_154 : decode cX3_seekBest 154 = .ok (.putfield 127, 3) := by decide +kernel
theorem dX3_seekBest_157 : decode cX3_seekBest 157 = .ok (.aload_n 0, 1) := by decide +kernel
theorem dX3_seekBest_158 : decode cX3_seekBest 158 = .ok (.iload_n 2, 1) := by decide +kernel
theorem dX3_seekBest_159 : decode cX3_seekBest 159 = .ok (.putfield 130, 3) := by decide +kernel
theorem dX3_seekBest_162 : decode cX3_seekBest 162 = .ok (.aload_n 0, 1) := by decide +kernel
theorem dX3_seekBest_163 : decode cX3_seekBest 163 = .ok (.iload 5, 2) := by decide +kernel
theorem dX3_seekBest_165 : decode cX3_seekBest 165 = .ok (.putfield 133, 3) := by decide +kernel
theorem dX3_seekBest_168 : decode cX3_seekBest 168 = .ok (.aload_n 0, 1) := by decide +kernel
theorem dX3_seekBest_169 : decode cX3_seekBest 169 = .ok (.iload 6, 2) := by decide +kernel
theorem dX3_seekBest_171 : decode cX3_seekBest 171 = .ok (.putfield 136, 3) := by decide +kernel
theorem dX3_seekBest_174 : decode cX3_seekBest 174 = .ok (.iinc 6 1, 3) := by decide +kernel
theorem dX3_seekBest_177 : decode cX3_seekBest 177 = .ok (.goto (-133), 3) := by decide +kernel
theorem dX3_seekBest_180 : decode cX3_seekBest 180 = .ok (.iinc 5 1, 3) := by decide +kernel
theorem dX3_seekBest_183 : decode cX3_seekBest 183 = .ok (.goto (-167), 3) := by decide +kernel
theorem dX3_seekBest_186 : decode cX3_seekBest 186 = .ok (.return_, 1) := by decide +kernel
theorem dX3_passDay_0 : decode cX3_passDay 0 = .ok (.iconst 0, 1) := by decide +kernel
theorem dX3_passDay_1 : decode cX3_passDay 1 = .ok (.istore_n 2, 1) := by decide +kernel
theorem dX3_passDay_2 : decode cX3_passDay 2 = .ok (.iconst 0, 1) := by decide +kernel
theorem dX3_passDay_3 : decode cX3_passDay 3 = .ok (.istore_n 3, 1) := by decide +kernel
theorem dX3_passDay_4 : decode cX3_passDay 4 = .ok (.iload_n 3, 1) := by decide +kernel
theorem dX3_passDay_5 : decode cX3_passDay 5 = .ok (.aload_n 0, 1) := by decide +kernel
theorem dX3_passDay_6 : decode cX3_passDay 6 = .ok (.getfield 15, 3) := by decide +kernel
theorem dX3_passDay_9 : decode cX3_passDay 9 = .ok (.getfield 146, 3) := by decide +kernel
theorem dX3_passDay_12 : decode cX3_passDay 12 = .ok (.if_icmp .ge 69, 3) := by decide +kernel
theorem dX3_passDay_15 : decode cX3_passDay 15 = .ok (.aload_n 0, 1) := by decide +kernel
theorem dX3_passDay_16 : decode cX3_passDay 16 = .ok (.getfield 15, 3) := by decide +kernel
theorem dX3_passDay_19 : decode cX3_passDay 19 = .ok (.getfield 149, 3) := by decide +kernel
theorem dX3_passDay_22 : decode cX3_passDay 22 = .ok (.iload_n 3, 1) := by decide +kernel
theorem dX3_passDay_23 : decode cX3_passDay 23 = .ok (.iaload, 1) := by decide +kernel
theorem dX3_passDay_24 : decode cX3_passDay 24 = .ok (.istore 4, 2) := by decide +kernel
theorem dX3_passDay_26 : decode cX3_passDay 26 = .ok (.aload_n 0, 1) := by decide +kernel
theorem dX3_passDay_27 : decode cX3_passDay 27 = .ok (.getfield 15, 3) := by decide +kernel
theorem dX3_passDay_30 : decode cX3_passDay 30 = .ok (.getfield 152, 3) := by decide +kernel
theorem dX3_passDay_33 : decode cX3_passDay 33 = .ok (.iload_n 3, 1) := by decide +kernel
theorem dX3_passDay_34 : decode cX3_passDay 34 = .ok (.iaload, 1) := by decide +kernel
theorem dX3_passDay_35 : decode cX3_passDay 35 = .ok (.istore 5, 2) := by decide +kernel
theorem dX3_passDay_37 : decode cX3_passDay 37 = .ok (.iload 4, 2) := by decide +kernel
theorem dX3_passDay_39 : decode cX3_passDay 39 = .ok (.iload_n 1, 1) := by decide +kernel
theorem dX3_passDay_40 : decode cX3_passDay 40 = .ok (.if_icmp .eq 13, 3) := by decide +kernel
theorem dX3_passDay_43 : decode cX3_passDay 43 = .ok (.iload 5, 2) := by decide +kernel
theorem dX3_passDay_45 : decode cX3_passDay 45 = .ok (.iload_n 1, 1) := by decide +kernel
theorem dX3_passDay_46 : decode cX3_passDay 46 = .ok (.if_icmp .eq 7, 3) := by decide +kernel
theorem dX3_passDay_49 : decode cX3_passDay 49 = .ok (.iconst 1, 1) := by decide +kernel
theorem dX3_passDay_50 : decode cX3_passDay 50 = .ok (.goto 4, 3) := by decide +kernel
theorem dX3_passDay_53 : decode cX3_passDay 53 = .ok (.iconst 0, 1) := by decide +kernel
theorem dX3_passDay_54 : decode cX3_passDay 54 = .ok (.istore 6, 2) := by decide +kernel
theorem dX3_passDay_56 : decode cX3_passDay 56 = .ok (.iload 6, 2) := by decide +kernel
theorem dX3_passDay_58 : decode cX3_passDay 58 = .ok (.ifCond .eq 17, 3) := by decide +kernel
theorem dX3_passDay_61 : decode cX3_passDay 61 = .ok (.aload_n 0, 1) := by decide +kernel
theorem dX3_passDay_62 : decode cX3_passDay 62 = .ok (.iload 4, 2) := by decide +kernel
theorem dX3_passDay_64 : decode cX3_passDay 64 = .ok (.iload 5, 2) := by decide +kernel
theorem dX3_passDay_66 : decode cX3_passDay 66 = .ok (.invokevirtual 155, 3) := by decide +kernel
theorem dX3_passDay_69 : decode cX3_passDay 69 = .ok (.ifCond .le 6, 3) := by decide +kernel
theorem dX3_passDay_72 : decode cX3_passDay 72 = .ok (.iinc 2 1, 3) := by decide +kernel
theorem dX3_passDay_75 : decode cX3_passDay 75 = .ok (.iinc 3 1, 3) := by decide +kernel
theorem dX3_passDay_78 : decode cX3_passDay 78 = .ok (.goto (-74), 3) := by decide +kernel
theorem dX3_passDay_81 : decode cX3_passDay 81 = .ok (.iload_n 2, 1) := by decide +kernel
theorem dX3_passDay_82 : decode cX3_passDay 82 = .ok (.ireturn, 1) := by decide +kernel
theorem dX3_passOrdered_0 : decode cX3_passOrdered 0 = .ok (.iconst 0, 1) := by decide +kernel
theorem dX3_passOrdered_1 : decode cX3_passOrdered 1 = .ok (.istore_n 3, 1) := by decide +kernel
theorem dX3_passOrdered_2 : decode cX3_passOrdered 2 = .ok (.iload_n 3, 1) := by decide +kernel
theorem dX3_passOrdered_3 : decode cX3_passOrdered 3 = .ok (.iload_n 2, 1) := by decide +kernel
theorem dX3_passOrdered_4 : decode cX3_passOrdered 4 = .ok (.if_icmp .ge 45, 3) := by decide +kernel
theorem dX3_passOrdered_7 : decode cX3_passOrdered 7 = .ok (.iload_n 3, 1) := by decide +kernel
theorem dX3_passOrdered_8 : decode cX3_passOrdered 8 = .ok (.aload_n 1, 1) := by decide +kernel
theorem dX3_passOrdered_9 : decode cX3_passOrdered 9 = .ok (.arraylength, 1) := by decide +kernel
theorem dX3_passOrdered_10 : decode cX3_passOrdered 10 = .ok (.if_icmp .ge 39, 3) := by decide +kernel
theorem dX3_passOrdered_13 : decode cX3_passOrdered 13 = .ok (.aload_n 1, 1) := by decide +kernel
theorem dX3_passOrdered_14 : decode cX3_passOrdered 14 = .ok (.iload_n 3, 1) := by decide +kernel
theorem dX3_passOrdered_15 : decode cX3_passOrdered 15 = .ok (.iaload, 1) := by decide +kernel
theorem dX3_passOrdered_16 : decode cX3_passOrdered 16 = .ok (.istore 4, 2) := by decide +kernel
theorem dX3_passOrdered_18 : decode cX3_passOrdered 18 = .ok (.aload_n 0, 1) := by decide +kernel
theorem dX3_passOrdered_19 : decode cX3_passOrdered 19 = .ok (.aload_n 0, 1) := by decide +kernel
theorem dX3_passOrdered_20 : decode cX3_passOrdered 20 = .ok (.getfield 15, 3) := by decide +kernel
theorem dX3_passOrdered_23 : decode cX3_passOrdered 23 = .ok (.getfield 149, 3) := by decide +kernel
theorem dX3_passOrdered_26 : decode cX3_passOrdered 26 = .ok (.iload 4, 2) := by decide +kernel
theorem dX3_passOrdered_28 : decode cX3_passOrdered 28 = .ok (.iaload, 1) := by decide +kernel
theorem dX3_passOrdered_29 : decode cX3_passOrdered 29 = .ok (.aload_n 0, 1) := by decide +kernel
theorem dX3_passOrdered_30 : decode cX3_passOrdered 30 = .ok (.getfield 15, 3) := by decide +kernel
theorem dX3_passOrdered_33 : decode cX3_passOrdered 33 = .ok (.getfield 152, 3) := by decide +kernel
theorem dX3_passOrdered_36 : decode cX3_passOrdered 36 = .ok (.iload 4, 2) := by decide +kernel
theorem dX3_passOrdered_38 : decode cX3_passOrdered 38 = .ok (.iaload, 1) := by decide +kernel
theorem dX3_passOrdered_39 : decode cX3_passOrdered 39 = .ok (.invokevirtual 155, 3) := by decide +kernel
theorem dX3_passOrdered_42 : decode cX3_passOrdered 42 = .ok (.pop, 1) := by decide +kernel
theorem dX3_passOrdered_43 : decode cX3_passOrdered 43 = .ok (.iinc 3 1, 3) := by decide +kernel
theorem dX3_passOrdered_46 : decode cX3_passOrdered 46 = .ok (.goto (-44), 3) := by decide +kernel
theorem dX3_passOrdered_49 : decode cX3_passOrdered 49 = .ok (.return_, 1) := by decide +kernel
theorem dX3_passAllDays_0 : decode cX3_passAllDays 0 = .ok (.iconst 0, 1) := by decide +kernel
theorem dX3_passAllDays_1 : decode cX3_passAllDays 1 = .ok (.istore_n 1, 1) := by decide +kernel
theorem dX3_passAllDays_2 : decode cX3_passAllDays 2 = .ok (.iload_n 1, 1) := by decide +kernel
theorem dX3_passAllDays_3 : decode cX3_passAllDays 3 = .ok (.bipush 60, 2) := by decide +kernel
theorem dX3_passAllDays_5 : decode cX3_passAllDays 5 = .ok (.if_icmp .ge 19, 3) := by decide +kernel
theorem dX3_passAllDays_8 : decode cX3_passAllDays 8 = .ok (.aload_n 0, 1) := by decide +kernel
theorem dX3_passAllDays_9 : decode cX3_passAllDays 9 = .ok (.iconst (-1), 1) := by decide +kernel
theorem dX3_passAllDays_10 : decode cX3_passAllDays 10 = .ok (.invokevirtual 158, 3) := by decide +kernel
theorem dX3_passAllDays_13 : decode cX3_passAllDays 13 = .ok (.ifCond .ne 5, 3) := by decide +kernel
theorem dX3_passAllDays_16 : decode cX3_passAllDays 16 = .ok (.iload_n 1, 1) := by decide +kernel
theorem dX3_passAllDays_17 : decode cX3_passAllDays 17 = .ok (.ireturn, 1) := by decide +kernel
theorem dX3_passAllDays_18 : decode cX3_passAllDays 18 = .ok (.iinc 1 1, 3) := by decide +kernel
theorem dX3_passAllDays_21 : decode cX3_passAllDays 21 = .ok (.goto (-19), 3) := by decide +kernel
theorem dX3_passAllDays_24 : decode cX3_passAllDays 24 = .ok (.bipush 60, 2) := by decide +kernel
theorem dX3_passAllDays_26 : decode cX3_passAllDays 26 = .ok (.ireturn, 1) := by decide +kernel
theorem dX4_init_0 : decode cX4_init 0 = .ok (.aload_n 0, 1) := by decide +kernel
theorem dX4_init_1 : decode cX4_init 1 = .ok (.invokespecial 3, 3) := by decide +kernel
theorem dX4_init_4 : decode cX4_init 4 = .ok (.aload_n 0, 1) := by decide +kernel
theorem dX4_init_5 : decode cX4_init 5 = .ok (.iconst 5, 1) := by decide +kernel
theorem dX4_init_6 : decode cX4_init 6 = .ok (.newarray .int, 2) := by decide +kernel
theorem dX4_init_8 : decode cX4_init 8 = .ok (.putfield 9, 3) := by decide +kernel
theorem dX4_init_11 : decode cX4_init 11 = .ok (.return_, 1) := by decide +kernel
theorem dX4_begin_0 : decode cX4_begin 0 = .ok (.aload_n 0, 1) := by decide +kernel
theorem dX4_begin_1 : decode cX4_begin 1 = .ok (.iload_n 1, 1) := by decide +kernel
theorem dX4_begin_2 : decode cX4_begin 2 = .ok (.iconst 5, 1) := by decide +kernel
theorem dX4_begin_3 : decode cX4_begin 3 = .ok (.invokestatic 15, 3) := by decide +kernel
theorem dX4_begin_6 : decode cX4_begin 6 = .ok (.putfield 21, 3) := by decide +kernel
theorem dX4_begin_9 : decode cX4_begin 9 = .ok (.iconst 0, 1) := by decide +kernel
theorem dX4_begin_10 : decode cX4_begin 10 = .ok (.istore_n 2, 1) := by decide +kernel
theorem dX4_begin_11 : decode cX4_begin 11 = .ok (.iload_n 2, 1) := by decide +kernel
theorem dX4_begin_12 : decode cX4_begin 12 = .ok (.aload_n 0, 1) := by decide +kernel
theorem dX4_begin_13 : decode cX4_begin 13 = .ok (.getfield 21, 3) := by decide +kernel
theorem dX4_begin_16 : decode cX4_begin 16 = .ok (.if_icmp .ge 16, 3) := by decide +kernel
theorem dX4_begin_19 : decode cX4_begin 19 = .ok (.aload_n 0, 1) := by decide +kernel
theorem dX4_begin_20 : decode cX4_begin 20 = .ok (.getfield 9, 3) := by decide +kernel
theorem dX4_begin_23 : decode cX4_begin 23 = .ok (.iload_n 2, 1) := by decide +kernel
theorem dX4_begin_24 : decode cX4_begin 24 = .ok (.iload_n 2, 1) := by decide +kernel
theorem dX4_begin_25 : decode cX4_begin 25 = .ok (.iastore, 1) := by decide +kernel
theorem dX4_begin_26 : decode cX4_begin 26 = .ok (.iinc 2 1, 3) := by decide +kernel
theorem dX4_begin_29 : decode cX4_begin 29 = .ok (.goto (-18), 3) := by decide +kernel
theorem dX4_begin_32 : decode cX4_begin 32 = .ok (.return_, 1) := by decide +kernel
theorem dX4_goOn_0 : decode cX4_goOn 0 = .ok (.aload_n 0, 1) := by decide +kernel
theorem dX4_goOn_1 : decode cX4_goOn 1 = .ok (.getfield 21, 3) := by decide +kernel
theorem dX4_goOn_4 : decode cX4_goOn 4 = .ok (.iconst 2, 1) := by decide +kernel
theorem dX4_goOn_5 : decode cX4_goOn 5 = .ok (.isub, 1) := by decide +kernel
theorem dX4_goOn_6 : decode cX4_goOn 6 = .ok (.istore_n 1, 1) := by decide +kernel
theorem dX4_goOn_7 : decode cX4_goOn 7 = .ok (.iload_n 1, 1) := by decide +kernel
theorem dX4_goOn_8 : decode cX4_goOn 8 = .ok (.ifCond .lt 26, 3) := by decide +kernel
theorem dX4_goOn_11 : decode cX4_goOn 11 = .ok (.aload_n 0, 1) := by decide +kernel
theorem dX4_goOn_12 : decode cX4_goOn 12 = .ok (.getfield 9, 3) := by decide +kernel
theorem dX4_goOn_15 : decode cX4_goOn 15 = .ok (.iload_n 1, 1) := by decide +kernel
theorem dX4_goOn_16 : decode cX4_goOn 16 = .ok (.iaload, 1) := by decide +kernel
theorem dX4_goOn_17 : decode cX4_goOn 17 = .ok (.aload_n 0, 1) := by decide +kernel
theorem dX4_goOn_18 : decode cX4_goOn 18 = .ok (.getfield 9, 3) := by decide +kernel
theorem dX4_goOn_21 : decode cX4_goOn 21 = .ok (.iload_n 1, 1) := by decide +kernel
theorem dX4_goOn_22 : decode cX4_goOn 22 = .ok (.iconst 1, 1) := by decide +kernel
theorem dX4_goOn_23 : decode cX4_goOn 23 = .ok (.iadd, 1) := by decide +kernel
theorem dX4_goOn_24 : decode cX4_goOn 24 = .ok (.iaload, 1) := by decide +kernel
theorem dX4_goOn_25 : decode cX4_goOn 25 = .ok (.if_icmp .le 9, 3) := by decide +kernel
theorem dX4_goOn_28 : decode cX4_goOn 28 = .ok (.iinc 1 (-1), 3) := by decide +kernel
theorem dX4_goOn_31 : decode cX4_goOn 31 = .ok (.goto (-24), 3) := by decide +kernel
theorem dX4_goOn_34 : decode cX4_goOn 34 = .ok (.iload_n 1, 1) := by decide +kernel
theorem dX4_goOn_35 : decode cX4_goOn 35 = .ok (.ifCond .ge 5, 3) := by decide +kernel
theorem dX4_goOn_38 : decode cX4_goOn 38 = .ok (.iconst 0, 1) := by decide +kernel
theorem dX4_goOn_39 : decode cX4_goOn 39 = .ok (.ireturn, 1) := by decide +kernel
theorem dX4_goOn_40 : decode cX4_goOn 40 = .ok (.aload_n 0, 1) := by decide +kernel
theorem dX4_goOn_41 : decode cX4_goOn 41 = .ok (.getfield 21, 3) := by decide +kernel
theorem dX4_goOn_44 : decode cX4_goOn 44 = .ok (.iconst 1, 1) := by decide +kernel
theorem dX4_goOn_45 : decode cX4_goOn 45 = .ok (.isub, 1) := by decide +kernel
theorem dX4_goOn_46 : decode cX4_goOn 46 = .ok (.istore_n 2, 1) := by decide +kernel
theorem dX4_goOn_47 : decode cX4_goOn 47 = .ok (.iload_n 2, 1) := by decide +kernel
theorem dX4_goOn_48 : decode cX4_goOn 48 = .ok (.iload_n 1, 1) := by decide +kernel
theorem dX4_goOn_49 : decode cX4_goOn 49 = .ok (.iconst 1, 1) := by decide +kernel
theorem dX4_goOn_50 : decode cX4_goOn 50 = .ok (.iadd, 1) := by decide +kernel
theorem dX4_goOn_51 : decode cX4_goOn 51 = .ok (.if_icmp .le 24, 3) := by decide +kernel
theorem dX4_goOn_54 : decode cX4_goOn 54 = .ok (.aload_n 0, 1) := by decide +kernel
theorem dX4_goOn_55 : decode cX4_goOn 55 = .ok (.getfield 9, 3) := by decide +kernel
theorem dX4_goOn_58 : decode cX4_goOn 58 = .ok (.iload_n 2, 1) := by decide +kernel
theorem dX4_goOn_59 : decode cX4_goOn 59 = .ok (.iaload, 1) := by decide +kernel
theorem dX4_goOn_60 : decode cX4_goOn 60 = .ok (.aload_n 0, 1) := by decide +kernel
theorem dX4_goOn_61 : decode cX4_goOn 61 = .ok (.getfield 9, 3) := by decide +kernel
theorem dX4_goOn_64 : decode cX4_goOn 64 = .ok (.iload_n 1, 1) := by decide +kernel
theorem dX4_goOn_65 : decode cX4_goOn 65 = .ok (.iaload, 1) := by decide +kernel
theorem dX4_goOn_66 : decode cX4_goOn 66 = .ok (.if_icmp .ge 9, 3) := by decide +kernel
theorem dX4_goOn_69 : decode cX4_goOn 69 = .ok (.iinc 2 (-1), 3) := by decide +kernel
theorem dX4_goOn_72 : decode cX4_goOn 72 = .ok (.goto (-25), 3) := by decide +kernel
theorem dX4_goOn_75 : decode cX4_goOn 75 = .ok (.aload_n 0, 1) := by decide +kernel
theorem dX4_goOn_76 : decode cX4_goOn 76 = .ok (.iload_n 1, 1) := by decide +kernel
theorem dX4_goOn_77 : decode cX4_goOn 77 = .ok (.iload_n 2, 1) := by decide +kernel
theorem dX4_goOn_78 : decode cX4_goOn 78 = .ok (.invokevirtual 25, 3) := by decide +kernel
theorem dX4_goOn_81 : decode cX4_goOn 81 = .ok (.aload_n 0, 1) := by decide +kernel
theorem dX4_goOn_82 : decode cX4_goOn 82 = .ok (.getfield 21, 3) := by decide +kernel
theorem dX4_goOn_85 : decode cX4_goOn 85 = .ok (.iconst 1, 1) := by decide +kernel
theorem dX4_goOn_86 : decode cX4_goOn 86 = .ok (.isub, 1) := by decide +kernel
theorem dX4_goOn_87 : decode cX4_goOn 87 = .ok (.istore_n 3, 1) := by decide +kernel
theorem dX4_goOn_88 : decode cX4_goOn 88 = .ok (.iload_n 1, 1) := by decide +kernel
theorem dX4_goOn_89 : decode cX4_goOn 89 = .ok (.iconst 1, 1) := by decide +kernel
theorem dX4_goOn_90 : decode cX4_goOn 90 = .ok (.iadd, 1) := by decide +kernel
theorem dX4_goOn_91 : decode cX4_goOn 91 = .ok (.istore 4, 2) := by decide +kernel
theorem dX4_goOn_93 : decode cX4_goOn 93 = .ok (.iload 4, 2) := by decide +kernel
theorem dX4_goOn_95 : decode cX4_goOn 95 = .ok (.iload_n 3, 1) := by decide +kernel
theorem dX4_goOn_96 : decode cX4_goOn 96 = .ok (.if_icmp .ge 19, 3) := by decide +kernel
theorem dX4_goOn_99 : decode cX4_goOn 99 = .ok (.aload_n 0, 1) := by decide +kernel
theorem dX4_goOn_100 : decode cX4_goOn 100 = .ok (.iload 4, 2) := by decide +kernel
theorem dX4_goOn_102 : decode cX4_goOn 102 = .ok (.iload_n 3, 1) := by decide +kernel
theorem dX4_goOn_103 : decode cX4_goOn 103 = .ok (.invokevirtual 25, 3) := by decide +kernel
theorem dX4_goOn_106 : decode cX4_goOn 106 = .ok (.iinc 3 (-1), 3) := by decide +kernel
theorem dX4_goOn_109 : decode cX4_goOn 109 = .ok (.iinc 4 1, 3) := by decide +kernel
theorem dX4_goOn_112 : decode cX4_goOn 112 = .ok (.goto (-19), 3) := by decide +kernel
theorem dX4_goOn_115 : decode cX4_goOn 115 = .ok (.iconst 1, 1) := by decide +kernel
theorem dX4_goOn_116 : decode cX4_goOn 116 = .ok (.ireturn, 1) := by decide +kernel
theorem dX4_swap_0 : decode cX4_swap 0 = .ok (.aload_n 0, 1) := by decide +kernel
theorem dX4_swap_1 : decode cX4_swap 1 = .ok (.getfield 9, 3) := by decide +kernel
theorem dX4_swap_4 : decode cX4_swap 4 = .ok (.iload_n 1, 1) := by decide +kernel
theorem dX4_swap_5 : decode cX4_swap 5 = .ok (.iaload, 1) := by decide +kernel
theorem dX4_swap_6 : decode cX4_swap 6 = .ok (.istore_n 3, 1) := by decide +kernel
theorem dX4_swap_7 : decode cX4_swap 7 = .ok (.aload_n 0, 1) := by decide +kernel
theorem dX4_swap_8 : decode cX4_swap 8 = .ok (.getfield 9, 3) := by decide +kernel
theorem dX4_swap_11 : decode cX4_swap 11 = .ok (.iload_n 1, 1) := by decide +kernel
theorem dX4_swap_12 : decode cX4_swap 12 = .ok (.aload_n 0, 1) := by decide +kernel
theorem dX4_swap_13 : decode cX4_swap 13 = .ok (.getfield 9, 3) := by decide +kernel
theorem dX4_swap_16 : decode cX4_swap 16 = .ok (.iload_n 2, 1) := by decide +kernel
theorem dX4_swap_17 : decode cX4_swap 17 = .ok (.iaload, 1) := by decide +kernel
theorem dX4_swap_18 : decode cX4_swap 18 = .ok (.iastore, 1) := by decide +kernel
theorem dX4_swap_19 : decode cX4_swap 19 = .ok (.aload_n 0, 1) := by decide +kernel
theorem dX4_swap_20 : decode cX4_swap 20 = .ok (.getfield 9, 3) := by decide +kernel
theorem dX4_swap_23 : decode cX4_swap 23 = .ok (.iload_n 2, 1) := by decide +kernel
theorem dX4_swap_24 : decode cX4_swap 24 = .ok (.iload_n 3, 1) := by decide +kernel
theorem dX4_swap_25 : decode cX4_swap 25 = .ok (.iastore, 1) := by decide +kernel
theorem dX4_swap_26 : decode cX4_swap 26 = .ok (.return_, 1) := by decide +kernel
theorem dX5_init_0 : decode cX5_init 0 = .ok (.aload_n 0, 1) := by decide +kernel
theorem dX5_init_1 : decode cX5_init 1 = .ok (.invokespecial 3, 3) := by decide +kernel
theorem dX5_init_4 : decode cX5_init 4 = .ok (.aload_n 0, 1) := by decide +kernel
theorem dX5_init_5 : decode cX5_init 5 = .ok (.bipush 8, 2) := by decide +kernel
theorem dX5_init_7 : decode cX5_init 7 = .ok (.newarray .int, 2) := by decide +kernel
theorem dX5_init_9 : decode cX5_init 9 = .ok (.putfield 9, 3) := by decide +kernel
theorem dX5_init_12 : decode cX5_init 12 = .ok (.aload_n 0, 1) := by decide +kernel
theorem dX5_init_13 : decode cX5_init 13 = .ok (.bipush 8, 2) := by decide +kernel
theorem dX5_init_15 : decode cX5_init 15 = .ok (.newarray .int, 2) := by decide +kernel
theorem dX5_init_17 : decode cX5_init 17 = .ok (.putfield 15, 3) := by decide +kernel
theorem dX5_init_20 : decode cX5_init 20 = .ok (.return_, 1) := by decide +kernel
theorem dX5_open_0 : decode cX5_open 0 = .ok (.aload_n 0, 1) := by decide +kernel
theorem dX5_open_1 : decode cX5_open 1 = .ok (.aload_n 1, 1) := by decide +kernel
theorem dX5_open_2 : decode cX5_open 2 = .ok (.getfield 18, 3) := by decide +kernel
theorem dX5_open_5 : decode cX5_open 5 = .ok (.getfield 24, 3) := by decide +kernel
theorem dX5_open_8 : decode cX5_open 8 = .ok (.putfield 30, 3) := by decide +kernel
theorem dX5_open_11 : decode cX5_open 11 = .ok (.aload_n 0, 1) := by decide +kernel
theorem dX5_open_12 : decode cX5_open 12 = .ok (.iconst 0, 1) := by decide +kernel
theorem dX5_open_13 : decode cX5_open 13 = .ok (.putfield 31, 3) := by decide +kernel
theorem dX5_open_16 : decode cX5_open 16 = .ok (.iconst 0, 1) := by decide +kernel
theorem dX5_open_17 : decode cX5_open 17 = .ok (.istore_n 3, 1) := by decide +kernel
theorem dX5_open_18 : decode cX5_open 18 = .ok (.iload_n 3, 1) := by decide +kernel
theorem dX5_open_19 : decode cX5_open 19 = .ok (.bipush 8, 2) := by decide +kernel
theorem dX5_open_21 : decode cX5_open 21 = .ok (.if_icmp .ge 48, 3) := by decide +kernel
theorem dX5_open_24 : decode cX5_open 24 = .ok (.aload_n 0, 1) := by decide +kernel
theorem dX5_open_25 : decode cX5_open 25 = .ok (.getfield 9, 3) := by decide +kernel
theorem dX5_open_28 : decode cX5_open 28 = .ok (.iload_n 3, 1) := by decide +kernel
theorem dX5_open_29 : decode cX5_open 29 = .ok (.aload_n 1, 1) := by decide +kernel
theorem dX5_open_30 : decode cX5_open 30 = .ok (.getfield 34, 3) := by decide +kernel
theorem dX5_open_33 : decode cX5_open 33 = .ok (.iload_n 2, 1) := by decide +kernel
theorem dX5_open_34 : decode cX5_open 34 = .ok (.bipush 8, 2) := by decide +kernel
theorem dX5_open_36 : decode cX5_open 36 = .ok (.imul, 1) := by decide +kernel
theorem dX5_open_37 : decode cX5_open 37 = .ok (.iload_n 3, 1) := by decide +kernel
theorem dX5_open_38 : decode cX5_open 38 = .ok (.iadd, 1) := by decide +kernel
theorem dX5_open_39 : decode cX5_open 39 = .ok (.iaload, 1) := by decide +kernel
theorem dX5_open_40 : decode cX5_open 40 = .ok (.iastore, 1) := by decide +kernel
theorem dX5_open_41 : decode cX5_open 41 = .ok (.aload_n 0, 1) := by decide +kernel
theorem dX5_open_42 : decode cX5_open 42 = .ok (.getfield 15, 3) := by decide +kernel
theorem dX5_open_45 : decode cX5_open 45 = .ok (.iload_n 3, 1) := by decide +kernel
theorem dX5_open_46 : decode cX5_open 46 = .ok (.iconst 0, 1) := by decide +kernel
theorem dX5_open_47 : decode cX5_open 47 = .ok (.iastore, 1) := by decide +kernel
theorem dX5_open_48 : decode cX5_open 48 = .ok (.aload_n 0, 1) := by decide +kernel
theorem dX5_open_49 : decode cX5_open 49 = .ok (.dup, 1) := by decide +kernel
theorem dX5_open_50 : decode cX5_open 50 = .ok (.getfield 31, 3) := by decide +kernel
theorem dX5_open_53 : decode cX5_open 53 = .ok (.aload_n 0, 1) := by decide +kernel
theorem dX5_open_54 : decode cX5_open 54 = .ok (.getfield 9, 3) := by decide +kernel
theorem dX5_open_57 : decode cX5_open 57 = .ok (.iload_n 3, 1) := by decide +kernel
theorem dX5_open_58 : decode cX5_open 58 = .ok (.iaload, 1) := by decide +kernel
theorem dX5_open_59 : decode cX5_open 59 = .ok (.iadd, 1) := by decide +kernel
theorem dX5_open_60 : decode cX5_open 60 = .ok (.putfield 31, 3) := by decide +kernel
theorem dX5_open_63 : decode cX5_open 63 = .ok (.iinc 3 1, 3) := by decide +kernel
theorem dX5_open_66 : decode cX5_open 66 = .ok (.goto (-48), 3) := by decide +kernel
theorem dX5_open_69 : decode cX5_open 69 = .ok (.return_, 1) := by decide +kernel
theorem dX5_fill_0 : decode cX5_fill 0 = .ok (.iload_n 2, 1) := by decide +kernel
theorem dX5_fill_1 : decode cX5_fill 1 = .ok (.istore_n 3, 1) := by decide +kernel
theorem dX5_fill_2 : decode cX5_fill 2 = .ok (.aload_n 0, 1) := by decide +kernel
theorem dX5_fill_3 : decode cX5_fill 3 = .ok (.getfield 30, 3) := by decide +kernel
theorem dX5_fill_6 : decode cX5_fill 6 = .ok (.iconst 1, 1) := by decide +kernel
theorem dX5_fill_7 : decode cX5_fill 7 = .ok (.isub, 1) := by decide +kernel
theorem dX5_fill_8 : decode cX5_fill 8 = .ok (.istore 4, 2) := by decide +kernel
theorem dX5_fill_10 : decode cX5_fill 10 = .ok (.iload 4, 2) := by decide +kernel
theorem dX5_fill_12 : decode cX5_fill 12 = .ok (.iload_n 1, 1) := by decide +kernel
theorem dX5_fill_13 : decode cX5_fill 13 = .ok (.if_icmp .lt 37, 3) := by decide +kernel
theorem dX5_fill_16 : decode cX5_fill 16 = .ok (.aload_n 0, 1) := by decide +kernel
theorem dX5_fill_17 : decode cX5_fill 17 = .ok (.getfield 15, 3) := by decide +kernel
theorem dX5_fill_20 : decode cX5_fill 20 = .ok (.iload 4, 2) := by decide +kernel
theorem dX5_fill_22 : decode cX5_fill 22 = .ok (.aload_n 0, 1) := by decide +kernel
theorem dX5_fill_23 : decode cX5_fill 23 = .ok (.getfield 9, 3) := by decide +kernel
theorem dX5_fill_26 : decode cX5_fill 26 = .ok (.iload 4, 2) := by decide +kernel
theorem dX5_fill_28 : decode cX5_fill 28 = .ok (.iaload, 1) := by decide +kernel
theorem dX5_fill_29 : decode cX5_fill 29 = .ok (.iload_n 3, 1) := by decide +kernel
theorem dX5_fill_30 : decode cX5_fill 30 = .ok (.invokestatic 37, 3) := by decide +kernel
theorem dX5_fill_33 : decode cX5_fill 33 = .ok (.iastore, 1) := by decide +kernel
theorem dX5_fill_34 : decode cX5_fill 34 = .ok (.iload_n 3, 1) := by decide +kernel
theorem dX5_fill_35 : decode cX5_fill 35 = .ok (.aload_n 0, 1) := by decide +kernel
theorem dX5_fill_36 : decode cX5_fill 36 = .ok (.getfield 15, 3) := by decide +kernel
theorem dX5_fill_39 : decode cX5_fill 39 = .ok (.iload 4, 2) := by decide +kernel
theorem dX5_fill_41 : decode cX5_fill 41 = .ok (.iaload, 1) := by decide +kernel
theorem dX5_fill_42 : decode cX5_fill 42 = .ok (.isub, 1) := by decide +kernel
theorem dX5_fill_43 : decode cX5_fill 43 = .ok (.istore_n 3, 1) := by decide +kernel
theorem dX5_fill_44 : decode cX5_fill 44 = .ok (.iinc 4 (-1), 3) := by decide +kernel
theorem dX5_fill_47 : decode cX5_fill 47 = .ok (.goto (-37), 3) := by decide +kernel
theorem dX5_fill_50 : decode cX5_fill 50 = .ok (.return_, 1) := by decide +kernel
theorem dX5_goOn_0 : decode cX5_goOn 0 = .ok (.iconst 0, 1) := by decide +kernel
theorem dX5_goOn_1 : decode cX5_goOn 1 = .ok (.istore_n 1, 1) := by decide +kernel
theorem dX5_goOn_2 : decode cX5_goOn 2 = .ok (.aload_n 0, 1) := by decide +kernel
theorem dX5_goOn_3 : decode cX5_goOn 3 = .ok (.getfield 30, 3) := by decide +kernel
theorem dX5_goOn_6 : decode cX5_goOn 6 = .ok (.iconst 1, 1) := by decide +kernel
theorem dX5_goOn_7 : decode cX5_goOn 7 = .ok (.isub, 1) := by decide +kernel
theorem dX5_goOn_8 : decode cX5_goOn 8 = .ok (.istore_n 2, 1) := by decide +kernel
theorem dX5_goOn_9 : decode cX5_goOn 9 = .ok (.iload_n 2, 1) := by decide +kernel
theorem dX5_goOn_10 : decode cX5_goOn 10 = .ok (.ifCond .lt 59, 3) := by decide +kernel
theorem dX5_goOn_13 : decode cX5_goOn 13 = .ok (.iload_n 1, 1) := by decide +kernel
theorem dX5_goOn_14 : decode cX5_goOn 14 = .ok (.ifCond .le 40, 3) := by decide +kernel
theorem dX5_goOn_17 : decode cX5_goOn 17 = .ok (.aload_n 0, 1) := by decide +kernel
theorem dX5_goOn_18 : decode cX5_goOn 18 = .ok (.getfield 15, 3) := by decide +kernel
theorem dX5_goOn_21 : decode cX5_goOn 21 = .ok (.iload_n 2, 1) := by decide +kernel
theorem dX5_goOn_22 : decode cX5_goOn 22 = .ok (.iaload, 1) := by decide +kernel
theorem dX5_goOn_23 : decode cX5_goOn 23 = .ok (.aload_n 0, 1) := by decide +kernel
theorem dX5_goOn_24 : decode cX5_goOn 24 = .ok (.getfield 9, 3) := by decide +kernel
theorem dX5_goOn_27 : decode cX5_goOn 27 = .ok (.iload_n 2, 1) := by decide +kernel
theorem dX5_goOn_28 : decode cX5_goOn 28 = .ok (.iaload, 1) := by decide +kernel
theorem dX5_goOn_29 : decode cX5_goOn 29 = .ok (.if_icmp .ge 25, 3) := by decide +kernel
theorem dX5_goOn_32 : decode cX5_goOn 32 = .ok (.aload_n 0, 1) := by decide +kernel
theorem dX5_goOn_33 : decode cX5_goOn 33 = .ok (.getfield 15, 3) := by decide +kernel
theorem dX5_goOn_36 : decode cX5_goOn 36 = .ok (.iload_n 2, 1) := by decide +kernel
theorem dX5_goOn_37 : decode cX5_goOn 37 = .ok (.dup2, 1) := by decide +kernel
theorem dX5_goOn_38 : decode cX5_goOn 38 = .ok (.iaload, 1) := by decide +kernel
theorem dX5_goOn_39 : decode cX5_goOn 39 = .ok (.iconst 1, 1) := by decide +kernel
theorem dX5_goOn_40 : decode cX5_goOn 40 = .ok (.iadd, 1) := by decide +kernel
theorem dX5_goOn_41 : decode cX5_goOn 41 = .ok (.iastore, 1) := by decide +kernel
theorem dX5_goOn_42 : decode cX5_goOn 42 = .ok (.aload_n 0, 1) := by decide +kernel
theorem dX5_goOn_43 : decode cX5_goOn 43 = .ok (.iload_n 2, 1) := by decide +kernel
theorem dX5_goOn_44 : decode cX5_goOn 44 = .ok (.iconst 1, 1) := by decide +kernel
theorem dX5_goOn_45 : decode cX5_goOn 45 = .ok (.iadd, 1) := by decide +kernel
theorem dX5_goOn_46 : decode cX5_goOn 46 = .ok (.iload_n 1, 1) := by decide +kernel
theorem dX5_goOn_47 : decode cX5_goOn 47 = .ok (.iconst 1, 1) := by decide +kernel
theorem dX5_goOn_48 : decode cX5_goOn 48 = .ok (.isub, 1) := by decide +kernel
theorem dX5_goOn_49 : decode cX5_goOn 49 = .ok (.invokevirtual 43, 3) := by decide +kernel
theorem dX5_goOn_52 : decode cX5_goOn 52 = .ok (.iconst 1, 1) := by decide +kernel
theorem dX5_goOn_53 : decode cX5_goOn 53 = .ok (.ireturn, 1) := by decide +kernel
theorem dX5_goOn_54 : decode cX5_goOn 54 = .ok (.iload_n 1, 1) := by decide +kernel
theorem dX5_goOn_55 : decode cX5_goOn 55 = .ok (.aload_n 0, 1) := by decide +kernel
theorem dX5_goOn_56 : decode cX5_goOn 56 = .ok (.getfield 15, 3) := by decide +kernel
theorem dX5_goOn_59 : decode cX5_goOn 59 = .ok (.iload_n 2, 1) := by decide +kernel
theorem dX5_goOn_60 : decode cX5_goOn 60 = .ok (.iaload, 1) := by decide +kernel
theorem dX5_goOn_61 : decode cX5_goOn 61 = .ok (.iadd, 1) := by decide +kernel
theorem dX5_goOn_62 : decode cX5_goOn 62 = .ok (.istore_n 1, 1) := by decide +kernel
theorem dX5_goOn_63 : decode cX5_goOn 63 = .ok (.iinc 2 (-1), 3) := by decide +kernel
theorem dX5_goOn_66 : decode cX5_goOn 66 = .ok (.goto (-57), 3) := by decide +kernel
theorem dX5_goOn_69 : decode cX5_goOn 69 = .ok (.iconst 0, 1) := by decide +kernel
theorem dX5_goOn_70 : decode cX5_goOn 70 = .ok (.ireturn, 1) := by decide +kernel
theorem dX6_init_0 : decode cX6_init 0 = .ok (.aload_n 0, 1) := by decide +kernel
theorem dX6_init_1 : decode cX6_init 1 = .ok (.invokespecial 3, 3) := by decide +kernel
theorem dX6_init_4 : decode cX6_init 4 = .ok (.aload_n 0, 1) := by decide +kernel
theorem dX6_init_5 : decode cX6_init 5 = .ok (.aload_n 1, 1) := by decide +kernel
theorem dX6_init_6 : decode cX6_init 6 = .ok (.putfield 9, 3) := by decide +kernel
theorem dX6_init_9 : decode cX6_init 9 = .ok (.aload_n 0, 1) := by decide +kernel
theorem dX6_init_10 : decode cX6_init 10 = .ok (.aload_n 2, 1) := by decide +kernel
theorem dX6_init_11 : decode cX6_init 11 = .ok (.putfield 15, 3) := by decide +kernel
theorem dX6_init_14 : decode cX6_init 14 = .ok (.return_, 1) := by decide +kernel
theorem dX6_readTown_0 : decode cX6_readTown 0 = .ok (.aload_n 0, 1) := by decide +kernel
theorem dX6_readTown_1 : decode cX6_readTown 1 = .ok (.aload_n 1, 1) := by decide +kernel
theorem dX6_readTown_2 : decode cX6_readTown 2 = .ok (.putfield 15, 3) := by decide +kernel
theorem dX6_readTown_5 : decode cX6_readTown 5 = .ok (.aload_n 0, 1) := by decide +kernel
theorem dX6_readTown_6 : decode cX6_readTown 6 = .ok (.getfield 15, 3) := by decide +kernel
theorem dX6_readTown_9 : decode cX6_readTown 9 = .ok (.invokevirtual 19, 3) := by decide +kernel
theorem dX6_readTown_12 : decode cX6_readTown 12 = .ok (.aload_n 0, 1) := by decide +kernel
theorem dX6_readTown_13 : decode cX6_readTown 13 = .ok (.getfield 9, 3) := by decide +kernel
theorem dX6_readTown_16 : decode cX6_readTown 16 = .ok (.iload_n 2, 1) := by decide +kernel
theorem dX6_readTown_17 : decode cX6_readTown 17 = .ok (.invokevirtual 24, 3) := by decide +kernel
theorem dX6_readTown_20 : decode cX6_readTown 20 = .ok (.aload_n 0, 1) := by decide +kernel
theorem dX6_readTown_21 : decode cX6_readTown 21 = .ok (.iconst 0, 1) := by decide +kernel
theorem dX6_readTown_22 : decode cX6_readTown 22 = .ok (.putfield 30, 3) := by decide +kernel
theorem dX6_readTown_25 : decode cX6_readTown 25 = .ok (.aload_n 0, 1) := by decide +kernel
theorem dX6_readTown_26 : decode cX6_readTown 26 = .ok (.iconst 0, 1) := by decide +kernel
theorem dX6_readTown_27 : decode cX6_readTown 27 = .ok (.putfield 34, 3) := by decide +kernel
theorem dX6_readTown_30 : decode cX6_readTown 30 = .ok (.aload_n 0, 1) := by decide +kernel
theorem dX6_readTown_31 : decode cX6_readTown 31 = .ok (.iconst 0, 1) := by decide +kernel
theorem dX6_readTown_32 : decode cX6_readTown 32 = .ok (.putfield 37, 3) := by decide +kernel
theorem dX6_readTown_35 : decode cX6_readTown 35 = .ok (.iconst 0, 1) := by decide +kernel
theorem dX6_readTown_36 : decode cX6_readTown 36 = .ok (.istore_n 3, 1) := by decide +kernel
theorem dX6_readTown_37 : decode cX6_readTown 37 = .ok (.iload_n 3, 1) := by decide +kernel
theorem dX6_readTown_38 : decode cX6_readTown 38 = .ok (.sipush 700, 3) := by decide +kernel
theorem dX6_readTown_41 : decode cX6_readTown 41 = .ok (.if_icmp .gt 51, 3) := by decide +kernel
theorem dX6_readTown_44 : decode cX6_readTown 44 = .ok (.aload_n 0, 1) := by decide +kernel
theorem dX6_readTown_45 : decode cX6_readTown 45 = .ok (.getfield 34, 3) := by decide +kernel
theorem dX6_readTown_48 : decode cX6_readTown 48 = .ok (.ifCond .ne 44, 3) := by decide +kernel
theorem dX6_readTown_51 : decode cX6_readTown 51 = .ok (.aload_n 0, 1) := by decide +kernel
theorem dX6_readTown_52 : decode cX6_readTown 52 = .ok (.invokevirtual 41, 3) := by decide +kernel
theorem dX6_readTown_55 : decode cX6_readTown 55 = .ok (.aload_n 0, 1) := by decide +kernel
theorem dX6_readTown_56 : decode cX6_readTown 56 = .ok (.getfield 44, 3) := by decide +kernel
theorem dX6_readTown_59 : decode cX6_readTown 59 = .ok (.ifCond .ne 22, 3) := by decide +kernel
theorem dX6_readTown_62 : decode cX6_readTown 62 = .ok (.aload_n 0, 1) := by decide +kernel
theorem dX6_readTown_63 : decode cX6_readTown 63 = .ok (.getfield 15, 3) := by decide +kernel
theorem dX6_readTown_66 : decode cX6_readTown 66 = .ok (.getfield 47, 3) := by decide +kernel
theorem dX6_readTown_69 : decode cX6_readTown 69 = .ok (.aload_n 0, 1) := by decide +kernel
theorem dX6_readTown_70 : decode cX6_readTown 70 = .ok (.getfield 15, 3) := by decide +kernel
theorem dX6_readTown_73 : decode cX6_readTown 73 = .ok (.getfield 51, 3) := by decide +kernel
theorem dX6_readTown_76 : decode cX6_readTown 76 = .ok (.invokevirtual 54, 3) := by decide +kernel
theorem dX6_readTown_79 : decode cX6_readTown 79 = .ok (.iconst 0, 1) := by decide +kernel
theorem dX6_readTown_80 : decode cX6_readTown 80 = .ok (.ireturn, 1) := by decide +kernel
theorem dX6_readTown_81 : decode cX6_readTown 81 = .ok (.aload_n 0, 1) := by decide +kernel
theorem dX6_readTown_82 : decode cX6_readTown 82 = .ok (.iload_n 3, 1) := by decide +kernel
theorem dX6_readTown_83 : decode cX6_readTown 83 = .ok (.invokevirtual 59, 3) := by decide +kernel
theorem dX6_readTown_86 : decode cX6_readTown 86 = .ok (.iinc 3 1, 3) := by decide +kernel
theorem dX6_readTown_89 : decode cX6_readTown 89 = .ok (.goto (-52), 3) := by decide +kernel
theorem dX6_readTown_92 : decode cX6_readTown 92 = .ok (.aload_n 0, 1) := by decide +kernel
theorem dX6_readTown_93 : decode cX6_readTown 93 = .ok (.getfield 34, 3) := by decide +kernel
theorem dX6_readTown_96 : decode cX6_readTown 96 = .ok (.ireturn, 1) := by decide +kernel
theorem dX6_readLine_0 : decode cX6_readLine 0 = .ok (.aload_n 0, 1) := by decide +kernel
theorem dX6_readLine_1 : decode cX6_readLine 1 = .ok (.getfield 44, 3) := by decide +kernel
theorem dX6_readLine_4 : decode cX6_readLine 4 = .ok (.tableswitch 96 4 14 #[60, 68, 96, 96, 96, 96, 75, 96, 96, 82, 89], 60) := by decide +kernel
theorem dX6_readLine_64 : decode cX6_readLine 64 = .ok (.aload_n 0, 1) := by decide +kernel
theorem dX6_readLine_65 : decode cX6_readLine 65 = .ok (.iload_n 1, 1) := by decide +kernel
theorem dX6_readLine_66 : decode cX6_readLine 66 = .ok (.invokevirtual 62, 3) := by decide +kernel
theorem dX6_readLine_69 : decode cX6_readLine 69 = .ok (.goto 37, 3) := by decide +kernel
theorem dX6_readLine_72 : decode cX6_readLine 72 = .ok (.aload_n 0, 1) := by decide +kernel
theorem dX6_readLine_73 : decode cX6_readLine 73 = .ok (.invokevirtual 65, 3) := by decide +kernel
theorem dX6_readLine_76 : decode cX6_readLine 76 = .ok (.goto 30, 3) := by decide +kernel
theorem dX6_readLine_79 : decode cX6_readLine 79 = .ok (.aload_n 0, 1) := by decide +kernel
theorem dX6_readLine_80 : decode cX6_readLine 80 = .ok (.invokevirtual 68, 3) := by decide +kernel
theorem dX6_readLine_83 : decode cX6_readLine 83 = .ok (.goto 23, 3) := by decide +kernel
theorem dX6_readLine_86 : decode cX6_readLine 86 = .ok (.aload_n 0, 1) := by decide +kernel
theorem dX6_readLine_87 : decode cX6_readLine 87 = .ok (.invokevirtual 71, 3) := by decide +kernel
theorem dX6_readLine_90 : decode cX6_readLine 90 = .ok (.goto 16, 3) := by decide +kernel
theorem dX6_readLine_93 : decode cX6_readLine 93 = .ok (.aload_n 0, 1) := by decide +kernel
theorem dX6_readLine_94 : decode cX6_readLine 94 = .ok (.invokevirtual 74, 3) := by decide +kernel
theorem dX6_readLine_97 : decode cX6_readLine 97 = .ok (.goto 9, 3) := by decide +kernel
theorem dX6_readLine_100 : decode cX6_readLine 100 = .ok (.aload_n 0, 1) := by decide +kernel
theorem dX6_readLine_101 : decode cX6_readLine 101 = .ok (.iconst 1, 1) := by decide +kernel
theorem dX6_readLine_102 : decode cX6_readLine 102 = .ok (.invokevirtual 77, 3) := by decide +kernel
theorem dX6_readLine_105 : decode cX6_readLine 105 = .ok (.pop, 1) := by decide +kernel
theorem dX6_readLine_106 : decode cX6_readLine 106 = .ok (.return_, 1) := by decide +kernel
theorem dX6_readSorts_0 : decode cX6_readSorts 0 = .ok (.iload_n 1, 1) := by decide +kernel
theorem dX6_readSorts_1 : decode cX6_readSorts 1 = .ok (.ifCond .le 12, 3) := by decide +kernel
theorem dX6_readSorts_4 : decode cX6_readSorts 4 = .ok (.aload_n 0, 1) := by decide +kernel
theorem dX6_readSorts_5 : decode cX6_readSorts 5 = .ok (.iconst 5, 1) := by decide +kernel
theorem dX6_readSorts_6 : decode cX6_readSorts 6 = .ok (.invokevirtual 77, 3) := by decide +kernel
theorem dX6_readSorts_9 : decode cX6_readSorts 9 = .ok (.pop, 1) := by decide +kernel
theorem dX6_readSorts_10 : decode cX6_readSorts 10 = .ok (.goto 29, 3) := by decide +kernel
theorem dX6_readSorts_13 : decode cX6_readSorts 13 = .ok (.aload_n 0, 1) := by decide +kernel
theorem dX6_readSorts_14 : decode cX6_readSorts 14 = .ok (.iconst 1, 1) := by decide +kernel
theorem dX6_readSorts_15 : decode cX6_readSorts 15 = .ok (.bipush 8, 2) := by decide +kernel
theorem dX6_readSorts_17 : decode cX6_readSorts 17 = .ok (.invokevirtual 81, 3) := by decide +kernel
theorem dX6_readSorts_20 : decode cX6_readSorts 20 = .ok (.ifCond .eq 19, 3) := by decide +kernel
theorem dX6_readSorts_23 : decode cX6_readSorts 23 = .ok (.aload_n 0, 1) := by decide +kernel
theorem dX6_readSorts_24 : decode cX6_readSorts 24 = .ok (.getfield 15, 3) := by decide +kernel
theorem dX6_readSorts_27 : decode cX6_readSorts 27 = .ok (.aload_n 0, 1) := by decide +kernel
theorem dX6_readSorts_28 : decode cX6_readSorts 28 = .ok (.getfield 85, 3) := by decide +kernel
theorem dX6_readSorts_31 : decode cX6_readSorts 31 = .ok (.putfield 51, 3) := by decide +kernel
theorem dX6_readSorts_34 : decode cX6_readSorts 34 = .ok (.aload_n 0, 1) := by decide +kernel
theorem dX6_readSorts_35 : decode cX6_readSorts 35 = .ok (.invokevirtual 88, 3) := by decide +kernel
theorem dX6_readSorts_38 : decode cX6_readSorts 38 = .ok (.pop, 1) := by decide +kernel
theorem dX6_readSorts_39 : decode cX6_readSorts 39 = .ok (.return_, 1) := by decide +kernel
theorem dX6_readPerson_0 : decode cX6_readPerson 0 = .ok (.aload_n 0, 1) := by decide +kernel
theorem dX6_readPerson_1 : decode cX6_readPerson 1 = .ok (.getfield 15, 3) := by decide +kernel
theorem dX6_readPerson_4 : decode cX6_readPerson 4 = .ok (.getfield 92, 3) := by decide +kernel
theorem dX6_readPerson_7 : decode cX6_readPerson 7 = .ok (.istore_n 1, 1) := by decide +kernel
theorem dX6_readPerson_8 : decode cX6_readPerson 8 = .ok (.iload_n 1, 1) := by decide +kernel
theorem dX6_readPerson_9 : decode cX6_readPerson 9 = .ok (.bipush 6, 2) := by decide +kernel
theorem dX6_readPerson_11 : decode cX6_readPerson 11 = .ok (.if_icmp .lt 10, 3) := by decide +kernel
theorem dX6_readPerson_14 : decode cX6_readPerson 14 = .ok (.aload_n 0, 1) := by decide +kernel
theorem dX6_readPerson_15 : decode cX6_readPerson 15 = .ok (.iconst 2, 1) := by decide +kernel
theorem dX6_readPerson_16 : decode cX6_readPerson 16 = .ok (.invokevirtual 77, 3) := by decide +kernel
theorem dX6_readPerson_19 : decode cX6_readPerson 19 = .ok (.pop, 1) := by decide +kernel
theorem dX6_readPerson_20 : decode cX6_readPerson 20 = .ok (.return_, 1) := by decide +kernel
theorem dX6_readPerson_21 : decode cX6_readPerson 21 = .ok (.aload_n 0, 1) := by decide +kernel
theorem dX6_readPerson_22 : decode cX6_readPerson 22 = .ok (.getfield 15, 3) := by decide +kernel
theorem dX6_readPerson_25 : decode cX6_readPerson 25 = .ok (.dup, 1) := by decide +kernel
theorem dX6_readPerson_26 : decode cX6_readPerson 26 = .ok (.getfield 92, 3) := by decide +kernel
theorem dX6_readPerson_29 : decode cX6_readPerson 29 = .ok (.iconst 1, 1) := by decide +kernel
theorem dX6_readPerson_30 : decode cX6_readPerson 30 = .ok (.iadd, 1) := by decide +kernel
theorem dX6_readPerson_31 : decode cX6_readPerson 31 = .ok (.putfield 92, 3) := by decide +kernel
theorem dX6_readPerson_34 : decode cX6_readPerson 34 = .ok (.aload_n 0, 1) := by decide +kernel
theorem dX6_readPerson_35 : decode cX6_readPerson 35 = .ok (.iconst 0, 1) := by decide +kernel
theorem dX6_readPerson_36 : decode cX6_readPerson 36 = .ok (.putfield 95, 3) := by decide +kernel
theorem dX6_readPerson_39 : decode cX6_readPerson 39 = .ok (.aload_n 0, 1) := by decide +kernel
theorem dX6_readPerson_40 : decode cX6_readPerson 40 = .ok (.iconst 0, 1) := by decide +kernel
theorem dX6_readPerson_41 : decode cX6_readPerson 41 = .ok (.putfield 98, 3) := by decide +kernel
theorem dX6_readPerson_44 : decode cX6_readPerson 44 = .ok (.aload_n 0, 1) := by decide +kernel
theorem dX6_readPerson_45 : decode cX6_readPerson 45 = .ok (.iconst 0, 1) := by decide +kernel
theorem dX6_readPerson_46 : decode cX6_readPerson 46 = .ok (.putfield 101, 3) := by decide +kernel
theorem dX6_readPerson_49 : decode cX6_readPerson 49 = .ok (.iconst 1, 1) := by decide +kernel
theorem dX6_readPerson_50 : decode cX6_readPerson 50 = .ok (.istore_n 2, 1) := by decide +kernel
theorem dX6_readPerson_51 : decode cX6_readPerson 51 = .ok (.iconst 0, 1) := by decide +kernel
theorem dX6_readPerson_52 : decode cX6_readPerson 52 = .ok (.istore_n 3, 1) := by decide +kernel
theorem dX6_readPerson_53 : decode cX6_readPerson 53 = .ok (.iload_n 3, 1) := by decide +kernel
theorem dX6_readPerson_54 : decode cX6_readPerson 54 = .ok (.sipush 700, 3) := by decide +kernel
theorem dX6_readPerson_57 : decode cX6_readPerson 57 = .ok (.if_icmp .gt 154, 3) := by decide +kernel
theorem dX6_readPerson_60 : decode cX6_readPerson 60 = .ok (.iload_n 2, 1) := by decide +kernel
theorem dX6_readPerson_61 : decode cX6_readPerson 61 = .ok (.ifCond .eq 150, 3) := by decide +kernel
theorem dX6_readPerson_64 : decode cX6_readPerson 64 = .ok (.aload_n 0, 1) := by decide +kernel
theorem dX6_readPerson_65 : decode cX6_readPerson 65 = .ok (.getfield 34, 3) := by decide +kernel
theorem dX6_readPerson_68 : decode cX6_readPerson 68 = .ok (.ifCond .ne 143, 3) := by decide +kernel
theorem dX6_readPerson_71 : decode cX6_readPerson 71 = .ok (.aload_n 0, 1) := by decide +kernel
theorem dX6_readPerson_72 : decode cX6_readPerson 72 = .ok (.invokevirtual 41, 3) := by decide +kernel
theorem dX6_readPerson_75 : decode cX6_readPerson 75 = .ok (.aload_n 0, 1) := by decide +kernel
theorem dX6_readPerson_76 : decode cX6_readPerson 76 = .ok (.getfield 44, 3) := by decide +kernel
theorem dX6_readPerson_79 : decode cX6_readPerson 79 = .ok (.tableswitch 120 1 9 #[115, 120, 120, 120, 120, 49, 74, 99, 107], 49) := by decide +kernel
theorem dX6_readPerson_128 : decode cX6_readPerson 128 = .ok (.aload_n 0, 1) := by decide +kernel
theorem dX6_readPerson_129 : decode cX6_readPerson 129 = .ok (.aload_n 0, 1) := by decide +kernel
theorem dX6_readPerson_130 : decode cX6_readPerson 130 = .ok (.aload_n 0, 1) := by decide +kernel
theorem dX6_readPerson_131 : decode cX6_readPerson 131 = .ok (.getfield 15, 3) := by decide +kernel
theorem dX6_readPerson_134 : decode cX6_readPerson 134 = .ok (.getfield 104, 3) := by decide +kernel
theorem dX6_readPerson_137 : decode cX6_readPerson 137 = .ok (.iload_n 1, 1) := by decide +kernel
theorem dX6_readPerson_138 : decode cX6_readPerson 138 = .ok (.aload_n 0, 1) := by decide +kernel
theorem dX6_readPerson_139 : decode cX6_readPerson 139 = .ok (.getfield 95, 3) := by decide +kernel
theorem dX6_readPerson_142 : decode cX6_readPerson 142 = .ok (.bipush 20, 2) := by decide +kernel
theorem dX6_readPerson_144 : decode cX6_readPerson 144 = .ok (.invokevirtual 108, 3) := by decide +kernel
theorem dX6_readPerson_147 : decode cX6_readPerson 147 = .ok (.putfield 95, 3) := by decide +kernel
theorem dX6_readPerson_150 : decode cX6_readPerson 150 = .ok (.goto 55, 3) := by decide +kernel
theorem dX6_readPerson_153 : decode cX6_readPerson 153 = .ok (.aload_n 0, 1) := by decide +kernel
theorem dX6_readPerson_154 : decode cX6_readPerson 154 = .ok (.aload_n 0, 1) := by decide +kernel
theorem dX6_readPerson_155 : decode cX6_readPerson 155 = .ok (.aload_n 0, 1) := by decide +kernel
theorem dX6_readPerson_156 : decode cX6_readPerson 156 = .ok (.getfield 15, 3) := by decide +kernel
theorem dX6_readPerson_159 : decode cX6_readPerson 159 = .ok (.getfield 112, 3) := by decide +kernel
theorem dX6_readPerson_162 : decode cX6_readPerson 162 = .ok (.iload_n 1, 1) := by decide +kernel
theorem dX6_readPerson_163 : decode cX6_readPerson 163 = .ok (.aload_n 0, 1) := by decide +kernel
theorem dX6_readPerson_164 : decode cX6_readPerson 164 = .ok (.getfield 98, 3) := by decide +kernel
theorem dX6_readPerson_167 : decode cX6_readPerson 167 = .ok (.bipush 99, 2) := by decide +kernel
theorem dX6_readPerson_169 : decode cX6_readPerson 169 = .ok (.invokevirtual 108, 3) := by decide +kernel
theorem dX6_readPerson_172 : decode cX6_readPerson 172 = .ok (.putfield 98, 3) := by decide +kernel
theorem dX6_readPerson_175 : decode cX6_readPerson 175 = .ok (.goto 30, 3) := by decide +kernel
theorem dX6_readPerson_178 : decode cX6_readPerson 178 = .ok (.aload_n 0, 1) := by decide +kernel
theorem dX6_readPerson_179 : decode cX6_readPerson 179 = .ok (.iload_n 1, 1) := by decide +kernel
theorem dX6_readPerson_180 : decode cX6_readPerson 180 = .ok (.invokevirtual 115, 3) := by decide +kernel
theorem dX6_readPerson_183 : decode cX6_readPerson 183 = .ok (.goto 22, 3) := by decide +kernel
theorem dX6_readPerson_186 : decode cX6_readPerson 186 = .ok (.aload_n 0, 1) := by decide +kernel
theorem dX6_readPerson_187 : decode cX6_readPerson 187 = .ok (.iload_n 1, 1) := by decide +kernel
theorem dX6_readPerson_188 : decode cX6_readPerson 188 = .ok (.invokevirtual 118, 3) := by decide +kernel
theorem dX6_readPerson_191 : decode cX6_readPerson 191 = .ok (.goto 14, 3) := by decide +kernel
theorem dX6_readPerson_194 : decode cX6_readPerson 194 = .ok (.iconst 0, 1) := by decide +kernel
theorem dX6_readPerson_195 : decode cX6_readPerson 195 = .ok (.istore_n 2, 1) := by decide +kernel
theorem dX6_readPerson_196 : decode cX6_readPerson 196 = .ok (.goto 9, 3) := by decide +kernel
theorem dX6_readPerson_199 : decode cX6_readPerson 199 = .ok (.aload_n 0, 1) := by decide +kernel
theorem dX6_readPerson_200 : decode cX6_readPerson 200 = .ok (.iconst 1, 1) := by decide +kernel
theorem dX6_readPerson_201 : decode cX6_readPerson 201 = .ok (.invokevirtual 77, 3) := by decide +kernel
theorem dX6_readPerson_204 : decode cX6_readPerson 204 = .ok (.pop, 1) := by decide +kernel
theorem dX6_readPerson_205 : decode cX6_readPerson 205 = .ok (.iinc 3 1, 3) := by decide +kernel
theorem dX6_readPerson_208 : decode cX6_readPerson 208 = .ok (.goto (-155), 3) := by decide +kernel
theorem dX6_readPerson_211 : decode cX6_readPerson 211 = .ok (.return_, 1) := by decide +kernel
theorem dX6_readOfSort_0 : decode cX6_readOfSort 0 = .ok (.aload_n 0, 1) := by decide +kernel
theorem dX6_readOfSort_1 : decode cX6_readOfSort 1 = .ok (.aload_n 0, 1) := by decide +kernel
theorem dX6_readOfSort_2 : decode cX6_readOfSort 2 = .ok (.getfield 15, 3) := by decide +kernel
theorem dX6_readOfSort_5 : decode cX6_readOfSort 5 = .ok (.getfield 51, 3) := by decide +kernel
theorem dX6_readOfSort_8 : decode cX6_readOfSort 8 = .ok (.invokevirtual 121, 3) := by decide +kernel
theorem dX6_readOfSort_11 : decode cX6_readOfSort 11 = .ok (.ifCond .ne 5, 3) := by decide +kernel
theorem dX6_readOfSort_14 : decode cX6_readOfSort 14 = .ok (.iload_n 3, 1) := by decide +kernel
theorem dX6_readOfSort_15 : decode cX6_readOfSort 15 = .ok (.ireturn, 1) := by decide +kernel
theorem dX6_readOfSort_16 : decode cX6_readOfSort 16 = .ok (.aload_n 0, 1) := by decide +kernel
theorem dX6_readOfSort_17 : decode cX6_readOfSort 17 = .ok (.getfield 85, 3) := by decide +kernel
theorem dX6_readOfSort_20 : decode cX6_readOfSort 20 = .ok (.istore 5, 2) := by decide +kernel
theorem dX6_readOfSort_22 : decode cX6_readOfSort 22 = .ok (.iload_n 3, 1) := by decide +kernel
theorem dX6_readOfSort_23 : decode cX6_readOfSort 23 = .ok (.iload 5, 2) := by decide +kernel
theorem dX6_readOfSort_25 : decode cX6_readOfSort 25 = .ok (.ishr, 1) := by decide +kernel
theorem dX6_readOfSort_26 : decode cX6_readOfSort 26 = .ok (.iconst 1, 1) := by decide +kernel
theorem dX6_readOfSort_27 : decode cX6_readOfSort 27 = .ok (.iand, 1) := by decide +kernel
theorem dX6_readOfSort_28 : decode cX6_readOfSort 28 = .ok (.iconst 1, 1) := by decide +kernel
theorem dX6_readOfSort_29 : decode cX6_readOfSort 29 = .ok (.if_icmp .ne 12, 3) := by decide +kernel
theorem dX6_readOfSort_32 : decode cX6_readOfSort 32 = .ok (.aload_n 0, 1) := by decide +kernel
theorem dX6_readOfSort_33 : decode cX6_readOfSort 33 = .ok (.iconst 5, 1) := by decide +kernel
theorem dX6_readOfSort_34 : decode cX6_readOfSort 34 = .ok (.invokevirtual 77, 3) := by decide +kernel
theorem dX6_readOfSort_37 : decode cX6_readOfSort 37 = .ok (.pop, 1) := by decide +kernel
theorem dX6_readOfSort_38 : decode cX6_readOfSort 38 = .ok (.goto 26, 3) := by decide +kernel
theorem dX6_readOfSort_41 : decode cX6_readOfSort 41 = .ok (.aload_n 0, 1) := by decide +kernel
theorem dX6_readOfSort_42 : decode cX6_readOfSort 42 = .ok (.iconst 0, 1) := by decide +kernel
theorem dX6_readOfSort_43 : decode cX6_readOfSort 43 = .ok (.iload 4, 2) := by decide +kernel
theorem dX6_readOfSort_45 : decode cX6_readOfSort 45 = .ok (.invokevirtual 81, 3) := by decide +kernel
theorem dX6_readOfSort_48 : decode cX6_readOfSort 48 = .ok (.ifCond .eq 16, 3) := by decide +kernel
theorem dX6_readOfSort_51 : decode cX6_readOfSort 51 = .ok (.aload_n 1, 1) := by decide +kernel
theorem dX6_readOfSort_52 : decode cX6_readOfSort 52 = .ok (.iload_n 2, 1) := by decide +kernel
theorem dX6_readOfSort_53 : decode cX6_readOfSort 53 = .ok (.bipush 8, 2) := by decide +kernel
theorem dX6_readOfSort_55 : decode cX6_readOfSort 55 = .ok (.imul, 1) := by decide +kernel
theorem dX6_readOfSort_56 : decode cX6_readOfSort 56 = .ok (.iload 5, 2) := by decide +kernel
theorem dX6_readOfSort_58 : decode cX6_readOfSort 58 = .ok (.iadd, 1) := by decide +kernel
theorem dX6_readOfSort_59 : decode cX6_readOfSort 59 = .ok (.aload_n 0, 1) := by decide +kernel
theorem dX6_readOfSort_60 : decode cX6_readOfSort 60 = .ok (.getfield 85, 3) := by decide +kernel
theorem dX6_readOfSort_63 : decode cX6_readOfSort 63 = .ok (.iastore, 1) := by decide +kernel
theorem dX6_readOfSort_64 : decode cX6_readOfSort 64 = .ok (.iload_n 3, 1) := by decide +kernel
theorem dX6_readOfSort_65 : decode cX6_readOfSort 65 = .ok (.iconst 1, 1) := by decide +kernel
theorem dX6_readOfSort_66 : decode cX6_readOfSort 66 = .ok (.iload 5, 2) := by decide +kernel
theorem dX6_readOfSort_68 : decode cX6_readOfSort 68 = .ok (.ishl, 1) := by decide +kernel
theorem dX6_readOfSort_69 : decode cX6_readOfSort 69 = .ok (.ior, 1) := by decide +kernel
theorem dX6_readOfSort_70 : decode cX6_readOfSort 70 = .ok (.ireturn, 1) := by decide +kernel
theorem dX6_readPair_0 : decode cX6_readPair 0 = .ok (.aload_n 0, 1) := by decide +kernel
theorem dX6_readPair_1 : decode cX6_readPair 1 = .ok (.getfield 15, 3) := by decide +kernel
theorem dX6_readPair_4 : decode cX6_readPair 4 = .ok (.getfield 124, 3) := by decide +kernel
theorem dX6_readPair_7 : decode cX6_readPair 7 = .ok (.iload_n 1, 1) := by decide +kernel
theorem dX6_readPair_8 : decode cX6_readPair 8 = .ok (.iaload, 1) := by decide +kernel
theorem dX6_readPair_9 : decode cX6_readPair 9 = .ok (.bipush 6, 2) := by decide +kernel
theorem dX6_readPair_11 : decode cX6_readPair 11 = .ok (.if_icmp .lt 10, 3) := by decide +kernel
theorem dX6_readPair_14 : decode cX6_readPair 14 = .ok (.aload_n 0, 1) := by decide +kernel
theorem dX6_readPair_15 : decode cX6_readPair 15 = .ok (.iconst 2, 1) := by decide +kernel
theorem dX6_readPair_16 : decode cX6_readPair 16 = .ok (.invokevirtual 77, 3) := by decide +kernel
theorem dX6_readPair_19 : decode cX6_readPair 19 = .ok (.pop, 1) := by decide +kernel
theorem dX6_readPair_20 : decode cX6_readPair 20 = .ok (.return_, 1) := by decide +kernel
theorem dX6_readPair_21 : decode cX6_readPair 21 = .ok (.iload_n 1, 1) := by decide +kernel
theorem dX6_readPair_22 : decode cX6_readPair 22 = .ok (.bipush 6, 2) := by decide +kernel
theorem dX6_readPair_24 : decode cX6_readPair 24 = .ok (.imul, 1) := by decide +kernel
theorem dX6_readPair_25 : decode cX6_readPair 25 = .ok (.aload_n 0, 1) := by decide +kernel
theorem dX6_readPair_26 : decode cX6_readPair 26 = .ok (.getfield 15, 3) := by decide +kernel
theorem dX6_readPair_29 : decode cX6_readPair 29 = .ok (.getfield 124, 3) := by decide +kernel
theorem dX6_readPair_32 : decode cX6_readPair 32 = .ok (.iload_n 1, 1) := by decide +kernel
theorem dX6_readPair_33 : decode cX6_readPair 33 = .ok (.iaload, 1) := by decide +kernel
theorem dX6_readPair_34 : decode cX6_readPair 34 = .ok (.iadd, 1) := by decide +kernel
theorem dX6_readPair_35 : decode cX6_readPair 35 = .ok (.istore_n 2, 1) := by decide +kernel
theorem dX6_readPair_36 : decode cX6_readPair 36 = .ok (.aload_n 0, 1) := by decide +kernel
theorem dX6_readPair_37 : decode cX6_readPair 37 = .ok (.aload_n 0, 1) := by decide +kernel
theorem dX6_readPair_38 : decode cX6_readPair 38 = .ok (.getfield 15, 3) := by decide +kernel
theorem dX6_readPair_41 : decode cX6_readPair 41 = .ok (.getfield 51, 3) := by decide +kernel
theorem dX6_readPair_44 : decode cX6_readPair 44 = .ok (.invokevirtual 121, 3) := by decide +kernel
theorem dX6_readPair_47 : decode cX6_readPair 47 = .ok (.ifCond .ne 4, 3) := by decide +kernel
theorem dX6_readPair_50 : decode cX6_readPair 50 = .ok (.return_, 1) := by decide +kernel
theorem dX6_readPair_51 : decode cX6_readPair 51 = .ok (.aload_n 0, 1) := by decide +kernel
theorem dX6_readPair_52 : decode cX6_readPair 52 = .ok (.getfield 15, 3) := by decide +kernel
theorem dX6_readPair_55 : decode cX6_readPair 55 = .ok (.getfield 127, 3) := by decide +kernel
theorem dX6_readPair_58 : decode cX6_readPair 58 = .ok (.iload_n 2, 1) := by decide +kernel
theorem dX6_readPair_59 : decode cX6_readPair 59 = .ok (.aload_n 0, 1) := by decide +kernel
theorem dX6_readPair_60 : decode cX6_readPair 60 = .ok (.getfield 85, 3) := by decide +kernel
theorem dX6_readPair_63 : decode cX6_readPair 63 = .ok (.iastore, 1) := by decide +kernel
theorem dX6_readPair_64 : decode cX6_readPair 64 = .ok (.aload_n 0, 1) := by decide +kernel
theorem dX6_readPair_65 : decode cX6_readPair 65 = .ok (.aload_n 0, 1) := by decide +kernel
theorem dX6_readPair_66 : decode cX6_readPair 66 = .ok (.getfield 15, 3) := by decide +kernel
theorem dX6_readPair_69 : decode cX6_readPair 69 = .ok (.getfield 51, 3) := by decide +kernel
theorem dX6_readPair_72 : decode cX6_readPair 72 = .ok (.invokevirtual 121, 3) := by decide +kernel
theorem dX6_readPair_75 : decode cX6_readPair 75 = .ok (.ifCond .ne 4, 3) := by decide +kernel
theorem dX6_readPair_78 : decode cX6_readPair 78 = .ok (.return_, 1) := by decide +kernel
theorem dX6_readPair_79 : decode cX6_readPair 79 = .ok (.aload_n 0, 1) := by decide +kernel
theorem dX6_readPair_80 : decode cX6_readPair 80 = .ok (.getfield 85, 3) := by decide +kernel
theorem dX6_readPair_83 : decode cX6_readPair 83 = .ok (.aload_n 0, 1) := by decide +kernel
theorem dX6_readPair_84 : decode cX6_readPair 84 = .ok (.getfield 15, 3) := by decide +kernel
theorem dX6_readPair_87 : decode cX6_readPair 87 = .ok (.getfield 127, 3) := by decide +kernel
theorem dX6_readPair_90 : decode cX6_readPair 90 = .ok (.iload_n 2, 1) := by decide +kernel
theorem dX6_readPair_91 : decode cX6_readPair 91 = .ok (.iaload, 1) := by decide +kernel
theorem dX6_readPair_92 : decode cX6_readPair 92 = .ok (.if_icmp .ne 10, 3) := by decide +kernel
theorem dX6_readPair_95 : decode cX6_readPair 95 = .ok (.aload_n 0, 1) := by decide +kernel
theorem dX6_readPair_96 : decode cX6_readPair 96 = .ok (.iconst 4, 1) := by decide +kernel
theorem dX6_readPair_97 : decode cX6_readPair 97 = .ok (.invokevirtual 77, 3) := by decide +kernel
theorem dX6_readPair_100 : decode cX6_readPair 100 = .ok (.pop, 1) := by decide +kernel
theorem dX6_readPair_101 : decode cX6_readPair 101 = .ok (.return_, 1) := by decide +kernel
theorem dX6_readPair_102 : decode cX6_readPair 102 = .ok (.aload_n 0, 1) := by decide +kernel
theorem dX6_readPair_103 : decode cX6_readPair 103 = .ok (.getfield 15, 3) := by decide +kernel
theorem dX6_readPair_106 : decode cX6_readPair 106 = .ok (.getfield 130, 3) := by decide +kernel
theorem dX6_readPair_109 : decode cX6_readPair 109 = .ok (.iload_n 2, 1) := by decide +kernel
theorem dX6_readPair_110 : decode cX6_readPair 110 = .ok (.aload_n 0, 1) := by decide +kernel
theorem dX6_readPair_111 : decode cX6_readPair 111 = .ok (.getfield 85, 3) := by decide +kernel
theorem dX6_readPair_114 : decode cX6_readPair 114 = .ok (.iastore, 1) := by decide +kernel
theorem dX6_readPair_115 : decode cX6_readPair 115 = .ok (.aload_n 0, 1) := by decide +kernel
theorem dX6_readPair_116 : decode cX6_readPair 116 = .ok (.iconst 0, 1) := by decide +kernel
theorem dX6_readPair_117 : decode cX6_readPair 117 = .ok (.bipush 99, 2) := by decide +kernel
theorem dX6_readPair_119 : decode cX6_readPair 119 = .ok (.invokevirtual 81, 3) := by decide +kernel
theorem dX6_readPair_122 : decode cX6_readPair 122 = .ok (.ifCond .eq 29, 3) := by decide +kernel
theorem dX6_readPair_125 : decode cX6_readPair 125 = .ok (.aload_n 0, 1) := by decide +kernel
theorem dX6_readPair_126 : decode cX6_readPair 126 = .ok (.getfield 15, 3) := by decide +kernel
theorem dX6_readPair_129 : decode cX6_readPair 129 = .ok (.getfield 133, 3) := by decide +kernel
theorem dX6_readPair_132 : decode cX6_readPair 132 = .ok (.iload_n 2, 1) := by decide +kernel
theorem dX6_readPair_133 : decode cX6_readPair 133 = .ok (.aload_n 0, 1) := by decide +kernel
theorem dX6_readPair_134 : decode cX6_readPair 134 = .ok (.getfield 85, 3) := by decide +kernel
theorem dX6_readPair_137 : decode cX6_readPair 137 = .ok (.iastore, 1) := by decide +kernel
theorem dX6_readPair_138 : decode cX6_readPair 138 = .ok (.aload_n 0, 1) := by decide +kernel
theorem dX6_readPair_139 : decode cX6_readPair 139 = .ok (.getfield 15, 3) := by decide +kernel
theorem dX6_readPair_142 : decode cX6_readPair 142 = .ok (.getfield 124, 3) := by decide +kernel
theorem dX6_readPair_145 : decode cX6_readPair 145 = .ok (.iload_n 1, 1) := by decide +kernel
theorem dX6_readPair_146 : decode cX6_readPair 146 = .ok (.dup2, 1) := by decide +kernel
theorem dX6_readPair_147 : decode cX6_readPair 147 = .ok (.iaload, 1) := by decide +kernel
theorem dX6_readPair_148 : decode cX6_readPair 148 = .ok (.iconst 1, 1) := by decide +kernel
theorem dX6_readPair_149 : decode cX6_readPair 149 = .ok (.iadd, 1) := by decide +kernel
theorem dX6_readPair_150 : decode cX6_readPair 150 = .ok (.iastore, 1) := by decide +kernel
theorem dX6_readPair_151 : decode cX6_readPair 151 = .ok (.return_, 1) := by decide +kernel
theorem dX6_readFalls_0 : decode cX6_readFalls 0 = .ok (.aload_n 0, 1) := by decide +kernel
theorem dX6_readFalls_1 : decode cX6_readFalls 1 = .ok (.getfield 101, 3) := by decide +kernel
theorem dX6_readFalls_4 : decode cX6_readFalls 4 = .ok (.ifCond .eq 10, 3) := by decide +kernel
theorem dX6_readFalls_7 : decode cX6_readFalls 7 = .ok (.aload_n 0, 1) := by decide +kernel
theorem dX6_readFalls_8 : decode cX6_readFalls 8 = .ok (.iconst 5, 1) := by decide +kernel
theorem dX6_readFalls_9 : decode cX6_readFalls 9 = .ok (.invokevirtual 77, 3) := by decide +kernel
theorem dX6_readFalls_12 : decode cX6_readFalls 12 = .ok (.pop, 1) := by decide +kernel
theorem dX6_readFalls_13 : decode cX6_readFalls 13 = .ok (.return_, 1) := by decide +kernel
theorem dX6_readFalls_14 : decode cX6_readFalls 14 = .ok (.aload_n 0, 1) := by decide +kernel
theorem dX6_readFalls_15 : decode cX6_readFalls 15 = .ok (.iconst 1, 1) := by decide +kernel
theorem dX6_readFalls_16 : decode cX6_readFalls 16 = .ok (.putfield 101, 3) := by decide +kernel
theorem dX6_readFalls_19 : decode cX6_readFalls 19 = .ok (.aload_n 0, 1) := by decide +kernel
theorem dX6_readFalls_20 : decode cX6_readFalls 20 = .ok (.iconst 0, 1) := by decide +kernel
theorem dX6_readFalls_21 : decode cX6_readFalls 21 = .ok (.bipush 100, 2) := by decide +kernel
theorem dX6_readFalls_23 : decode cX6_readFalls 23 = .ok (.invokevirtual 81, 3) := by decide +kernel
theorem dX6_readFalls_26 : decode cX6_readFalls 26 = .ok (.ifCond .eq 16, 3) := by decide +kernel
theorem dX6_readFalls_29 : decode cX6_readFalls 29 = .ok (.aload_n 0, 1) := by decide +kernel
theorem dX6_readFalls_30 : decode cX6_readFalls 30 = .ok (.getfield 15, 3) := by decide +kernel
theorem dX6_readFalls_33 : decode cX6_readFalls 33 = .ok (.getfield 136, 3) := by decide +kernel
theorem dX6_readFalls_36 : decode cX6_readFalls 36 = .ok (.iload_n 1, 1) := by decide +kernel
theorem dX6_readFalls_37 : decode cX6_readFalls 37 = .ok (.aload_n 0, 1) := by decide +kernel
theorem dX6_readFalls_38 : decode cX6_readFalls 38 = .ok (.getfield 85, 3) := by decide +kernel
theorem dX6_readFalls_41 : decode cX6_readFalls 41 = .ok (.iastore, 1) := by decide +kernel
theorem dX6_readFalls_42 : decode cX6_readFalls 42 = .ok (.return_, 1) := by decide +kernel
theorem dX6_readLaw_0 : decode cX6_readLaw 0 = .ok (.aload_n 0, 1) := by decide +kernel
theorem dX6_readLaw_1 : decode cX6_readLaw 1 = .ok (.getfield 37, 3) := by decide +kernel
theorem dX6_readLaw_4 : decode cX6_readLaw 4 = .ok (.ifCond .eq 10, 3) := by decide +kernel
theorem dX6_readLaw_7 : decode cX6_readLaw 7 = .ok (.aload_n 0, 1) := by decide +kernel
theorem dX6_readLaw_8 : decode cX6_readLaw 8 = .ok (.iconst 5, 1) := by decide +kernel
theorem dX6_readLaw_9 : decode cX6_readLaw 9 = .ok (.invokevirtual 77, 3) := by decide +kernel
theorem dX6_readLaw_12 : decode cX6_readLaw 12 = .ok (.pop, 1) := by decide +kernel
theorem dX6_readLaw_13 : decode cX6_readLaw 13 = .ok (.return_, 1) := by decide +kernel
theorem dX6_readLaw_14 : decode cX6_readLaw 14 = .ok (.aload_n 0, 1) := by decide +kernel
theorem dX6_readLaw_15 : decode cX6_readLaw 15 = .ok (.iconst 1, 1) := by decide +kernel
theorem dX6_readLaw_16 : decode cX6_readLaw 16 = .ok (.putfield 37, 3) := by decide +kernel
theorem dX6_readLaw_19 : decode cX6_readLaw 19 = .ok (.aload_n 0, 1) := by decide +kernel
theorem dX6_readLaw_20 : decode cX6_readLaw 20 = .ok (.iconst 1, 1) := by decide +kernel
theorem dX6_readLaw_21 : decode cX6_readLaw 21 = .ok (.iconst 3, 1) := by decide +kernel
theorem dX6_readLaw_22 : decode cX6_readLaw 22 = .ok (.invokevirtual 81, 3) := by decide +kernel
theorem dX6_readLaw_25 : decode cX6_readLaw 25 = .ok (.ifCond .ne 4, 3) := by decide +kernel
theorem dX6_readLaw_28 : decode cX6_readLaw 28 = .ok (.return_, 1) := by decide +kernel
theorem dX6_readLaw_29 : decode cX6_readLaw 29 = .ok (.aload_n 0, 1) := by decide +kernel
theorem dX6_readLaw_30 : decode cX6_readLaw 30 = .ok (.getfield 15, 3) := by decide +kernel
theorem dX6_readLaw_33 : decode cX6_readLaw 33 = .ok (.getfield 47, 3) := by decide +kernel
theorem dX6_readLaw_36 : decode cX6_readLaw 36 = .ok (.aload_n 0, 1) := by decide +kernel
theorem dX6_readLaw_37 : decode cX6_readLaw 37 = .ok (.getfield 85, 3) := by decide +kernel
theorem dX6_readLaw_40 : decode cX6_readLaw 40 = .ok (.putfield 139, 3) := by decide +kernel
theorem dX6_readLaw_43 : decode cX6_readLaw 43 = .ok (.aload_n 0, 1) := by decide +kernel
theorem dX6_readLaw_44 : decode cX6_readLaw 44 = .ok (.invokevirtual 41, 3) := by decide +kernel
theorem dX6_readLaw_47 : decode cX6_readLaw 47 = .ok (.aload_n 0, 1) := by decide +kernel
theorem dX6_readLaw_48 : decode cX6_readLaw 48 = .ok (.getfield 44, 3) := by decide +kernel
theorem dX6_readLaw_51 : decode cX6_readLaw 51 = .ok (.bipush 11, 2) := by decide +kernel
theorem dX6_readLaw_53 : decode cX6_readLaw 53 = .ok (.if_icmp .ne 36, 3) := by decide +kernel
theorem dX6_readLaw_56 : decode cX6_readLaw 56 = .ok (.aload_n 0, 1) := by decide +kernel
theorem dX6_readLaw_57 : decode cX6_readLaw 57 = .ok (.aload_n 0, 1) := by decide +kernel
theorem dX6_readLaw_58 : decode cX6_readLaw 58 = .ok (.getfield 15, 3) := by decide +kernel
theorem dX6_readLaw_61 : decode cX6_readLaw 61 = .ok (.getfield 51, 3) := by decide +kernel
theorem dX6_readLaw_64 : decode cX6_readLaw 64 = .ok (.invokevirtual 121, 3) := by decide +kernel
theorem dX6_readLaw_67 : decode cX6_readLaw 67 = .ok (.ifCond .ne 4, 3) := by decide +kernel
theorem dX6_readLaw_70 : decode cX6_readLaw 70 = .ok (.return_, 1) := by decide +kernel
theorem dX6_readLaw_71 : decode cX6_readLaw 71 = .ok (.aload_n 0, 1) := by decide +kernel
theorem dX6_readLaw_72 : decode cX6_readLaw 72 = .ok (.getfield 15, 3) := by decide +kernel
theorem dX6_readLaw_75 : decode cX6_readLaw 75 = .ok (.getfield 47, 3) := by decide +kernel
theorem dX6_readLaw_78 : decode cX6_readLaw 78 = .ok (.aload_n 0, 1) := by decide +kernel
theorem dX6_readLaw_79 : decode cX6_readLaw 79 = .ok (.getfield 85, 3) := by decide +kernel
theorem dX6_readLaw_82 : decode cX6_readLaw 82 = .ok (.putfield 142, 3) := by decide +kernel
theorem dX6_readLaw_85 : decode cX6_readLaw 85 = .ok (.aload_n 0, 1) := by decide +kernel
theorem dX6_readLaw_86 : decode cX6_readLaw 86 = .ok (.invokevirtual 41, 3) := by decide +kernel
theorem dX6_readLaw_89 : decode cX6_readLaw 89 = .ok (.aload_n 0, 1) := by decide +kernel
theorem dX6_readLaw_90 : decode cX6_readLaw 90 = .ok (.getfield 44, 3) := by decide +kernel
theorem dX6_readLaw_93 : decode cX6_readLaw 93 = .ok (.bipush 12, 2) := by decide +kernel
theorem dX6_readLaw_95 : decode cX6_readLaw 95 = .ok (.if_icmp .ne 18, 3) := by decide +kernel
theorem dX6_readLaw_98 : decode cX6_readLaw 98 = .ok (.aload_n 0, 1) := by decide +kernel
theorem dX6_readLaw_99 : decode cX6_readLaw 99 = .ok (.getfield 15, 3) := by decide +kernel
theorem dX6_readLaw_102 : decode cX6_readLaw 102 = .ok (.getfield 47, 3) := by decide +kernel
theorem dX6_readLaw_105 : decode cX6_readLaw 105 = .ok (.iconst 1, 1) := by decide +kernel
theorem dX6_readLaw_106 : decode cX6_readLaw 106 = .ok (.putfield 145, 3) := by decide +kernel
theorem dX6_readLaw_109 : decode cX6_readLaw 109 = .ok (.aload_n 0, 1) := by decide +kernel
theorem dX6_readLaw_110 : decode cX6_readLaw 110 = .ok (.invokevirtual 41, 3) := by decide +kernel
theorem dX6_readLaw_113 : decode cX6_readLaw 113 = .ok (.aload_n 0, 1) := by decide +kernel
theorem dX6_readLaw_114 : decode cX6_readLaw 114 = .ok (.getfield 44, 3) := by decide +kernel
theorem dX6_readLaw_117 : decode cX6_readLaw 117 = .ok (.iconst 1, 1) := by decide +kernel
theorem dX6_readLaw_118 : decode cX6_readLaw 118 = .ok (.if_icmp .eq 9, 3) := by decide +kernel
theorem dX6_readLaw_121 : decode cX6_readLaw 121 = .ok (.aload_n 0, 1) := by decide +kernel
theorem dX6_readLaw_122 : decode cX6_readLaw 122 = .ok (.iconst 1, 1) := by decide +kernel
theorem dX6_readLaw_123 : decode cX6_readLaw 123 = .ok (.invokevirtual 77, 3) := by decide +kernel
theorem dX6_readLaw_126 : decode cX6_readLaw 126 = .ok (.pop, 1) := by decide +kernel
theorem dX6_readLaw_127 : decode cX6_readLaw 127 = .ok (.return_, 1) := by decide +kernel
theorem dX6_readTie_0 : decode cX6_readTie 0 = .ok (.aload_n 0, 1) := by decide +kernel
theorem dX6_readTie_1 : decode cX6_readTie 1 = .ok (.getfield 15, 3) := by decide +kernel
theorem dX6_readTie_4 : decode cX6_readTie 4 = .ok (.getfield 148, 3) := by decide +kernel
theorem dX6_readTie_7 : decode cX6_readTie 7 = .ok (.istore_n 1, 1) := by decide +kernel
theorem dX6_readTie_8 : decode cX6_readTie 8 = .ok (.iload_n 1, 1) := by decide +kernel
theorem dX6_readTie_9 : decode cX6_readTie 9 = .ok (.iconst 4, 1) := by decide +kernel
theorem dX6_readTie_10 : decode cX6_readTie 10 = .ok (.if_icmp .lt 10, 3) := by decide +kernel
theorem dX6_readTie_13 : decode cX6_readTie 13 = .ok (.aload_n 0, 1) := by decide +kernel
theorem dX6_readTie_14 : decode cX6_readTie 14 = .ok (.iconst 2, 1) := by decide +kernel
theorem dX6_readTie_15 : decode cX6_readTie 15 = .ok (.invokevirtual 77, 3) := by decide +kernel
theorem dX6_readTie_18 : decode cX6_readTie 18 = .ok (.pop, 1) := by decide +kernel
theorem dX6_readTie_19 : decode cX6_readTie 19 = .ok (.return_, 1) := by decide +kernel
theorem dX6_readTie_20 : decode cX6_readTie 20 = .ok (.aload_n 0, 1) := by decide +kernel
theorem dX6_readTie_21 : decode cX6_readTie 21 = .ok (.aload_n 0, 1) := by decide +kernel
theorem dX6_readTie_22 : decode cX6_readTie 22 = .ok (.getfield 15, 3) := by decide +kernel
theorem dX6_readTie_25 : decode cX6_readTie 25 = .ok (.getfield 51, 3) := by decide +kernel
theorem dX6_readTie_28 : decode cX6_readTie 28 = .ok (.invokevirtual 121, 3) := by decide +kernel
theorem dX6_readTie_31 : decode cX6_readTie 31 = .ok (.ifCond .ne 4, 3) := by decide +kernel
theorem dX6_readTie_34 : decode cX6_readTie 34 = .ok (.return_, 1) := by decide +kernel
theorem dX6_readTie_35 : decode cX6_readTie 35 = .ok (.aload_n 0, 1) := by decide +kernel
theorem dX6_readTie_36 : decode cX6_readTie 36 = .ok (.getfield 15, 3) := by decide +kernel
theorem dX6_readTie_39 : decode cX6_readTie 39 = .ok (.getfield 151, 3) := by decide +kernel
theorem dX6_readTie_42 : decode cX6_readTie 42 = .ok (.iload_n 1, 1) := by decide +kernel
theorem dX6_readTie_43 : decode cX6_readTie 43 = .ok (.aload_n 0, 1) := by decide +kernel
theorem dX6_readTie_44 : decode cX6_readTie 44 = .ok (.getfield 85, 3) := by decide +kernel
theorem dX6_readTie_47 : decode cX6_readTie 47 = .ok (.iastore, 1) := by decide +kernel
theorem dX6_readTie_48 : decode cX6_readTie 48 = .ok (.aload_n 0, 1) := by decide +kernel
theorem dX6_readTie_49 : decode cX6_readTie 49 = .ok (.aload_n 0, 1) := by decide +kernel
theorem dX6_readTie_50 : decode cX6_readTie 50 = .ok (.getfield 15, 3) := by decide +kernel
theorem dX6_readTie_53 : decode cX6_readTie 53 = .ok (.getfield 51, 3) := by decide +kernel
theorem dX6_readTie_56 : decode cX6_readTie 56 = .ok (.invokevirtual 121, 3) := by decide +kernel
theorem dX6_readTie_59 : decode cX6_readTie 59 = .ok (.ifCond .ne 4, 3) := by decide +kernel
theorem dX6_readTie_62 : decode cX6_readTie 62 = .ok (.return_, 1) := by decide +kernel
theorem dX6_readTie_63 : decode cX6_readTie 63 = .ok (.aload_n 0, 1) := by decide +kernel
theorem dX6_readTie_64 : decode cX6_readTie 64 = .ok (.getfield 15, 3) := by decide +kernel
theorem dX6_readTie_67 : decode cX6_readTie 67 = .ok (.getfield 154, 3) := by decide +kernel
theorem dX6_readTie_70 : decode cX6_readTie 70 = .ok (.iload_n 1, 1) := by decide +kernel
theorem dX6_readTie_71 : decode cX6_readTie 71 = .ok (.aload_n 0, 1) := by decide +kernel
theorem dX6_readTie_72 : decode cX6_readTie 72 = .ok (.getfield 85, 3) := by decide +kernel
theorem dX6_readTie_75 : decode cX6_readTie 75 = .ok (.iastore, 1) := by decide +kernel
theorem dX6_readTie_76 : decode cX6_readTie 76 = .ok (.aload_n 0, 1) := by decide +kernel
theorem dX6_readTie_77 : decode cX6_readTie 77 = .ok (.aload_n 0, 1) := by decide +kernel
theorem dX6_readTie_78 : decode cX6_readTie 78 = .ok (.getfield 15, 3) := by decide +kernel
theorem dX6_readTie_81 : decode cX6_readTie 81 = .ok (.getfield 51, 3) := by decide +kernel
theorem dX6_readTie_84 : decode cX6_readTie 84 = .ok (.invokevirtual 121, 3) := by decide +kernel
theorem dX6_readTie_87 : decode cX6_readTie 87 = .ok (.ifCond .ne 4, 3) := by decide +kernel
theorem dX6_readTie_90 : decode cX6_readTie 90 = .ok (.return_, 1) := by decide +kernel
theorem dX6_readTie_91 : decode cX6_readTie 91 = .ok (.aload_n 0, 1) := by decide +kernel
theorem dX6_readTie_92 : decode cX6_readTie 92 = .ok (.getfield 85, 3) := by decide +kernel
theorem dX6_readTie_95 : decode cX6_readTie 95 = .ok (.aload_n 0, 1) := by decide +kernel
theorem dX6_readTie_96 : decode cX6_readTie 96 = .ok (.getfield 15, 3) := by decide +kernel
theorem dX6_readTie_99 : decode cX6_readTie 99 = .ok (.getfield 151, 3) := by decide +kernel
theorem dX6_readTie_102 : decode cX6_readTie 102 = .ok (.iload_n 1, 1) := by decide +kernel
theorem dX6_readTie_103 : decode cX6_readTie 103 = .ok (.iaload, 1) := by decide +kernel
theorem dX6_readTie_104 : decode cX6_readTie 104 = .ok (.if_icmp .eq 19, 3) := by decide +kernel
theorem dX6_readTie_107 : decode cX6_readTie 107 = .ok (.aload_n 0, 1) := by decide +kernel
theorem dX6_readTie_108 : decode cX6_readTie 108 = .ok (.getfield 85, 3) := by decide +kernel
theorem dX6_readTie_111 : decode cX6_readTie 111 = .ok (.aload_n 0, 1) := by decide +kernel
theorem dX6_readTie_112 : decode cX6_readTie 112 = .ok (.getfield 15, 3) := by decide +kernel
theorem dX6_readTie_115 : decode cX6_readTie 115 = .ok (.getfield 154, 3) := by decide +kernel
theorem dX6_readTie_118 : decode cX6_readTie 118 = .ok (.iload_n 1, 1) := by decide +kernel
theorem dX6_readTie_119 : decode cX6_readTie 119 = .ok (.iaload, 1) := by decide +kernel
theorem dX6_readTie_120 : decode cX6_readTie 120 = .ok (.if_icmp .ne 10, 3) := by decide +kernel
theorem dX6_readTie_123 : decode cX6_readTie 123 = .ok (.aload_n 0, 1) := by decide +kernel
theorem dX6_readTie_124 : decode cX6_readTie 124 = .ok (.iconst 4, 1) := by decide +kernel
theorem dX6_readTie_125 : decode cX6_readTie 125 = .ok (.invokevirtual 77, 3) := by decide +kernel
theorem dX6_readTie_128 : decode cX6_readTie 128 = .ok (.pop, 1) := by decide +kernel
theorem dX6_readTie_129 : decode cX6_readTie 129 = .ok (.return_, 1) := by decide +kernel
theorem dX6_readTie_130 : decode cX6_readTie 130 = .ok (.aload_n 0, 1) := by decide +kernel
theorem dX6_readTie_131 : decode cX6_readTie 131 = .ok (.getfield 15, 3) := by decide +kernel
theorem dX6_readTie_134 : decode cX6_readTie 134 = .ok (.getfield 157, 3) := by decide +kernel
theorem dX6_readTie_137 : decode cX6_readTie 137 = .ok (.iload_n 1, 1) := by decide +kernel
theorem dX6_readTie_138 : decode cX6_readTie 138 = .ok (.aload_n 0, 1) := by decide +kernel
theorem dX6_readTie_139 : decode cX6_readTie 139 = .ok (.getfield 85, 3) := by decide +kernel
theorem dX6_readTie_142 : decode cX6_readTie 142 = .ok (.iastore, 1) := by decide +kernel
theorem dX6_readTie_143 : decode cX6_readTie 143 = .ok (.aload_n 0, 1) := by decide +kernel
theorem dX6_readTie_144 : decode cX6_readTie 144 = .ok (.getfield 15, 3) := by decide +kernel
theorem dX6_readTie_147 : decode cX6_readTie 147 = .ok (.dup, 1) := by decide +kernel
theorem dX6_readTie_148 : decode cX6_readTie 148 = .ok (.getfield 148, 3) := by decide +kernel
theorem dX6_readTie_151 : decode cX6_readTie 151 = .ok (.iconst 1, 1) := by decide +kernel
theorem dX6_readTie_152 : decode cX6_readTie 152 = .ok (.iadd, 1) := by decide +kernel
theorem dX6_readTie_153 : decode cX6_readTie 153 = .ok (.putfield 148, 3) := by decide +kernel
theorem dX6_readTie_156 : decode cX6_readTie 156 = .ok (.aload_n 0, 1) := by decide +kernel
theorem dX6_readTie_157 : decode cX6_readTie 157 = .ok (.invokevirtual 88, 3) := by decide +kernel
theorem dX6_readTie_160 : decode cX6_readTie 160 = .ok (.pop, 1) := by decide +kernel
theorem dX6_readTie_161 : decode cX6_readTie 161 = .ok (.return_, 1) := by decide +kernel
theorem dX6_readMeeting_0 : decode cX6_readMeeting 0 = .ok (.aload_n 0, 1) := by decide +kernel
theorem dX6_readMeeting_1 : decode cX6_readMeeting 1 = .ok (.getfield 15, 3) := by decide +kernel
theorem dX6_readMeeting_4 : decode cX6_readMeeting 4 = .ok (.getfield 160, 3) := by decide +kernel
theorem dX6_readMeeting_7 : decode cX6_readMeeting 7 = .ok (.istore_n 1, 1) := by decide +kernel
theorem dX6_readMeeting_8 : decode cX6_readMeeting 8 = .ok (.iload_n 1, 1) := by decide +kernel
theorem dX6_readMeeting_9 : decode cX6_readMeeting 9 = .ok (.bipush 8, 2) := by decide +kernel
theorem dX6_readMeeting_11 : decode cX6_readMeeting 11 = .ok (.if_icmp .lt 10, 3) := by decide +kernel
theorem dX6_readMeeting_14 : decode cX6_readMeeting 14 = .ok (.aload_n 0, 1) := by decide +kernel
theorem dX6_readMeeting_15 : decode cX6_readMeeting 15 = .ok (.iconst 2, 1) := by decide +kernel
theorem dX6_readMeeting_16 : decode cX6_readMeeting 16 = .ok (.invokevirtual 77, 3) := by decide +kernel
theorem dX6_readMeeting_19 : decode cX6_readMeeting 19 = .ok (.pop, 1) := by decide +kernel
theorem dX6_readMeeting_20 : decode cX6_readMeeting 20 = .ok (.return_, 1) := by decide +kernel
theorem dX6_readMeeting_21 : decode cX6_readMeeting 21 = .ok (.aload_n 0, 1) := by decide +kernel
theorem dX6_readMeeting_22 : decode cX6_readMeeting 22 = .ok (.aload_n 0, 1) := by decide +kernel
theorem dX6_readMeeting_23 : decode cX6_readMeeting 23 = .ok (.getfield 15, 3) := by decide +kernel
theorem dX6_readMeeting_26 : decode cX6_readMeeting 26 = .ok (.getfield 92, 3) := by decide +kernel
theorem dX6_readMeeting_29 : decode cX6_readMeeting 29 = .ok (.invokevirtual 121, 3) := by decide +kernel
theorem dX6_readMeeting_32 : decode cX6_readMeeting 32 = .ok (.ifCond .ne 4, 3) := by decide +kernel
theorem dX6_readMeeting_35 : decode cX6_readMeeting 35 = .ok (.return_, 1) := by decide +kernel
theorem dX6_readMeeting_36 : decode cX6_readMeeting 36 = .ok (.aload_n 0, 1) := by decide +kernel
theorem dX6_readMeeting_37 : decode cX6_readMeeting 37 = .ok (.getfield 15, 3) := by decide +kernel
theorem dX6_readMeeting_40 : decode cX6_readMeeting 40 = .ok (.getfield 163, 3) := by decide +kernel
theorem dX6_readMeeting_43 : decode cX6_readMeeting 43 = .ok (.iload_n 1, 1) := by decide +kernel
theorem dX6_readMeeting_44 : decode cX6_readMeeting 44 = .ok (.aload_n 0, 1) := by decide +kernel
theorem dX6_readMeeting_45 : decode cX6_readMeeting 45 = .ok (.getfield 85, 3) := by decide +kernel
theorem dX6_readMeeting_48 : decode cX6_readMeeting 48 = .ok (.iastore, 1) := by decide +kernel
theorem dX6_readMeeting_49 : decode cX6_readMeeting 49 = .ok (.aload_n 0, 1) := by decide +kernel
theorem dX6_readMeeting_50 : decode cX6_readMeeting 50 = .ok (.aload_n 0, 1) := by decide +kernel
theorem dX6_readMeeting_51 : decode cX6_readMeeting 51 = .ok (.getfield 15, 3) := by decide +kernel
theorem dX6_readMeeting_54 : decode cX6_readMeeting 54 = .ok (.getfield 92, 3) := by decide +kernel
theorem dX6_readMeeting_57 : decode cX6_readMeeting 57 = .ok (.invokevirtual 121, 3) := by decide +kernel
theorem dX6_readMeeting_60 : decode cX6_readMeeting 60 = .ok (.ifCond .ne 4, 3) := by decide +kernel
theorem dX6_readMeeting_63 : decode cX6_readMeeting 63 = .ok (.return_, 1) := by decide +kernel
theorem dX6_readMeeting_64 : decode cX6_readMeeting 64 = .ok (.aload_n 0, 1) := by decide +kernel
theorem dX6_readMeeting_65 : decode cX6_readMeeting 65 = .ok (.getfield 85, 3) := by decide +kernel
theorem dX6_readMeeting_68 : decode cX6_readMeeting 68 = .ok (.aload_n 0, 1) := by decide +kernel
theorem dX6_readMeeting_69 : decode cX6_readMeeting 69 = .ok (.getfield 15, 3) := by decide +kernel
theorem dX6_readMeeting_72 : decode cX6_readMeeting 72 = .ok (.getfield 163, 3) := by decide +kernel
theorem dX6_readMeeting_75 : decode cX6_readMeeting 75 = .ok (.iload_n 1, 1) := by decide +kernel
theorem dX6_readMeeting_76 : decode cX6_readMeeting 76 = .ok (.iaload, 1) := by decide +kernel
theorem dX6_readMeeting_77 : decode cX6_readMeeting 77 = .ok (.if_icmp .ne 10, 3) := by decide +kernel
theorem dX6_readMeeting_80 : decode cX6_readMeeting 80 = .ok (.aload_n 0, 1) := by decide +kernel
theorem dX6_readMeeting_81 : decode cX6_readMeeting 81 = .ok (.iconst 4, 1) := by decide +kernel
theorem dX6_readMeeting_82 : decode cX6_readMeeting 82 = .ok (.invokevirtual 77, 3) := by decide +kernel
theorem dX6_readMeeting_85 : decode cX6_readMeeting 85 = .ok (.pop, 1) := by decide +kernel
theorem dX6_readMeeting_86 : decode cX6_readMeeting 86 = .ok (.return_, 1) := by decide +kernel
theorem dX6_readMeeting_87 : decode cX6_readMeeting 87 = .ok (.aload_n 0, 1) := by decide +kernel
theorem dX6_readMeeting_88 : decode cX6_readMeeting 88 = .ok (.getfield 15, 3) := by decide +kernel
theorem dX6_readMeeting_91 : decode cX6_readMeeting 91 = .ok (.getfield 166, 3) := by decide +kernel
theorem dX6_readMeeting_94 : decode cX6_readMeeting 94 = .ok (.iload_n 1, 1) := by decide +kernel
theorem dX6_readMeeting_95 : decode cX6_readMeeting 95 = .ok (.aload_n 0, 1) := by decide +kernel
theorem dX6_readMeeting_96 : decode cX6_readMeeting 96 = .ok (.getfield 85, 3) := by decide +kernel
theorem dX6_readMeeting_99 : decode cX6_readMeeting 99 = .ok (.iastore, 1) := by decide +kernel
theorem dX6_readMeeting_100 : decode cX6_readMeeting 100 = .ok (.aload_n 0, 1) := by decide +kernel
theorem dX6_readMeeting_101 : decode cX6_readMeeting 101 = .ok (.getfield 15, 3) := by decide +kernel
theorem dX6_readMeeting_104 : decode cX6_readMeeting 104 = .ok (.dup, 1) := by decide +kernel
theorem dX6_readMeeting_105 : decode cX6_readMeeting 105 = .ok (.getfield 160, 3) := by decide +kernel
theorem dX6_readMeeting_108 : decode cX6_readMeeting 108 = .ok (.iconst 1, 1) := by decide +kernel
theorem dX6_readMeeting_109 : decode cX6_readMeeting 109 = .ok (.iadd, 1) := by decide +kernel
theorem dX6_readMeeting_110 : decode cX6_readMeeting 110 = .ok (.putfield 160, 3) := by decide +kernel
theorem dX6_readMeeting_113 : decode cX6_readMeeting 113 = .ok (.aload_n 0, 1) := by decide +kernel
theorem dX6_readMeeting_114 : decode cX6_readMeeting 114 = .ok (.invokevirtual 88, 3) := by decide +kernel
theorem dX6_readMeeting_117 : decode cX6_readMeeting 117 = .ok (.pop, 1) := by decide +kernel
theorem dX6_readMeeting_118 : decode cX6_readMeeting 118 = .ok (.return_, 1) := by decide +kernel
theorem dX6_refuse_0 : decode cX6_refuse 0 = .ok (.aload_n 0, 1) := by decide +kernel
theorem dX6_refuse_1 : decode cX6_refuse 1 = .ok (.iload_n 1, 1) := by decide +kernel
theorem dX6_refuse_2 : decode cX6_refuse 2 = .ok (.putfield 34, 3) := by decide +kernel
theorem dX6_refuse_5 : decode cX6_refuse 5 = .ok (.iconst 0, 1) := by decide +kernel
theorem dX6_refuse_6 : decode cX6_refuse 6 = .ok (.ireturn, 1) := by decide +kernel
theorem dX6_isSign_0 : decode cX6_isSign 0 = .ok (.aload_n 0, 1) := by decide +kernel
theorem dX6_isSign_1 : decode cX6_isSign 1 = .ok (.invokevirtual 41, 3) := by decide +kernel
theorem dX6_isSign_4 : decode cX6_isSign 4 = .ok (.aload_n 0, 1) := by decide +kernel
theorem dX6_isSign_5 : decode cX6_isSign 5 = .ok (.getfield 44, 3) := by decide +kernel
theorem dX6_isSign_8 : decode cX6_isSign 8 = .ok (.iconst 1, 1) := by decide +kernel
theorem dX6_isSign_9 : decode cX6_isSign 9 = .ok (.if_icmp .eq 11, 3) := by decide +kernel
theorem dX6_isSign_12 : decode cX6_isSign 12 = .ok (.aload_n 0, 1) := by decide +kernel
theorem dX6_isSign_13 : decode cX6_isSign 13 = .ok (.iconst 1, 1) := by decide +kernel
theorem dX6_isSign_14 : decode cX6_isSign 14 = .ok (.invokevirtual 77, 3) := by decide +kernel
theorem dX6_isSign_17 : decode cX6_isSign 17 = .ok (.ifCond .eq 7, 3) := by decide +kernel
theorem dX6_isSign_20 : decode cX6_isSign 20 = .ok (.iconst 1, 1) := by decide +kernel
theorem dX6_isSign_21 : decode cX6_isSign 21 = .ok (.goto 4, 3) := by decide +kernel
theorem dX6_isSign_24 : decode cX6_isSign 24 = .ok (.iconst 0, 1) := by decide +kernel
theorem dX6_isSign_25 : decode cX6_isSign 25 = .ok (.ireturn, 1) := by decide +kernel
theorem dX6_isNumber_0 : decode cX6_isNumber 0 = .ok (.aload_n 0, 1) := by decide +kernel
theorem dX6_isNumber_1 : decode cX6_isNumber 1 = .ok (.invokevirtual 41, 3) := by decide +kernel
theorem dX6_isNumber_4 : decode cX6_isNumber 4 = .ok (.aload_n 0, 1) := by decide +kernel
theorem dX6_isNumber_5 : decode cX6_isNumber 5 = .ok (.getfield 44, 3) := by decide +kernel
theorem dX6_isNumber_8 : decode cX6_isNumber 8 = .ok (.iconst 2, 1) := by decide +kernel
theorem dX6_isNumber_9 : decode cX6_isNumber 9 = .ok (.if_icmp .eq 9, 3) := by decide +kernel
theorem dX6_isNumber_12 : decode cX6_isNumber 12 = .ok (.aload_n 0, 1) := by decide +kernel
theorem dX6_isNumber_13 : decode cX6_isNumber 13 = .ok (.iconst 1, 1) := by decide +kernel
theorem dX6_isNumber_14 : decode cX6_isNumber 14 = .ok (.invokevirtual 77, 3) := by decide +kernel
theorem dX6_isNumber_17 : decode cX6_isNumber 17 = .ok (.ireturn, 1) := by decide +kernel
theorem dX6_isNumber_18 : decode cX6_isNumber 18 = .ok (.aload_n 0, 1) := by decide +kernel
theorem dX6_isNumber_19 : decode cX6_isNumber 19 = .ok (.getfield 85, 3) := by decide +kernel
theorem dX6_isNumber_22 : decode cX6_isNumber 22 = .ok (.iload_n 1, 1) := by decide +kernel
theorem dX6_isNumber_23 : decode cX6_isNumber 23 = .ok (.if_icmp .lt 11, 3) := by decide +kernel
theorem dX6_isNumber_26 : decode cX6_isNumber 26 = .ok (.aload_n 0, 1) := by decide +kernel
theorem dX6_isNumber_27 : decode cX6_isNumber 27 = .ok (.getfield 85, 3) := by decide +kernel
theorem dX6_isNumber_30 : decode cX6_isNumber 30 = .ok (.iload_n 2, 1) := by decide +kernel
theorem dX6_isNumber_31 : decode cX6_isNumber 31 = .ok (.if_icmp .le 11, 3) := by decide +kernel
theorem dX6_isNumber_34 : decode cX6_isNumber 34 = .ok (.aload_n 0, 1) := by decide +kernel
theorem dX6_isNumber_35 : decode cX6_isNumber 35 = .ok (.iconst 2, 1) := by decide +kernel
theorem dX6_isNumber_36 : decode cX6_isNumber 36 = .ok (.invokevirtual 77, 3) := by decide +kernel
theorem dX6_isNumber_39 : decode cX6_isNumber 39 = .ok (.ifCond .eq 7, 3) := by decide +kernel
theorem dX6_isNumber_42 : decode cX6_isNumber 42 = .ok (.iconst 1, 1) := by decide +kernel
theorem dX6_isNumber_43 : decode cX6_isNumber 43 = .ok (.goto 4, 3) := by decide +kernel
theorem dX6_isNumber_46 : decode cX6_isNumber 46 = .ok (.iconst 0, 1) := by decide +kernel
theorem dX6_isNumber_47 : decode cX6_isNumber 47 = .ok (.ireturn, 1) := by decide +kernel
theorem dX6_isOneBelow_0 : decode cX6_isOneBelow 0 = .ok (.aload_n 0, 1) := by decide +kernel
theorem dX6_isOneBelow_1 : decode cX6_isOneBelow 1 = .ok (.invokevirtual 41, 3) := by decide +kernel
theorem dX6_isOneBelow_4 : decode cX6_isOneBelow 4 = .ok (.aload_n 0, 1) := by decide +kernel
theorem dX6_isOneBelow_5 : decode cX6_isOneBelow 5 = .ok (.getfield 44, 3) := by decide +kernel
theorem dX6_isOneBelow_8 : decode cX6_isOneBelow 8 = .ok (.iconst 2, 1) := by decide +kernel
theorem dX6_isOneBelow_9 : decode cX6_isOneBelow 9 = .ok (.if_icmp .eq 9, 3) := by decide +kernel
theorem dX6_isOneBelow_12 : decode cX6_isOneBelow 12 = .ok (.aload_n 0, 1) := by decide +kernel
theorem dX6_isOneBelow_13 : decode cX6_isOneBelow 13 = .ok (.iconst 1, 1) := by decide +kernel
theorem dX6_isOneBelow_14 : decode cX6_isOneBelow 14 = .ok (.invokevirtual 77, 3) := by decide +kernel
theorem dX6_isOneBelow_17 : decode cX6_isOneBelow 17 = .ok (.ireturn, 1) := by decide +kernel
theorem dX6_isOneBelow_18 : decode cX6_isOneBelow 18 = .ok (.aload_n 0, 1) := by decide +kernel
theorem dX6_isOneBelow_19 : decode cX6_isOneBelow 19 = .ok (.getfield 85, 3) := by decide +kernel
theorem dX6_isOneBelow_22 : decode cX6_isOneBelow 22 = .ok (.ifCond .ge 9, 3) := by decide +kernel
theorem dX6_isOneBelow_25 : decode cX6_isOneBelow 25 = .ok (.aload_n 0, 1) := by decide +kernel
theorem dX6_isOneBelow_26 : decode cX6_isOneBelow 26 = .ok (.iconst 2, 1) := by decide +kernel
theorem dX6_isOneBelow_27 : decode cX6_isOneBelow 27 = .ok (.invokevirtual 77, 3) := by decide +kernel
theorem dX6_isOneBelow_30 : decode cX6_isOneBelow 30 = .ok (.ireturn, 1) := by decide +kernel
theorem dX6_isOneBelow_31 : decode cX6_isOneBelow 31 = .ok (.aload_n 0, 1) := by decide +kernel
theorem dX6_isOneBelow_32 : decode cX6_isOneBelow 32 = .ok (.getfield 85, 3) := by decide +kernel
theorem dX6_isOneBelow_35 : decode cX6_isOneBelow 35 = .ok (.iload_n 1, 1) := by decide +kernel
theorem dX6_isOneBelow_36 : decode cX6_isOneBelow 36 = .ok (.if_icmp .lt 11, 3) := by decide +kernel
theorem dX6_isOneBelow_39 : decode cX6_isOneBelow 39 = .ok (.aload_n 0, 1) := by decide +kernel
theorem dX6_isOneBelow_40 : decode cX6_isOneBelow 40 = .ok (.iconst 3, 1) := by decide +kernel
theorem dX6_isOneBelow_41 : decode cX6_isOneBelow 41 = .ok (.invokevirtual 77, 3) := by decide +kernel
theorem dX6_isOneBelow_44 : decode cX6_isOneBelow 44 = .ok (.ifCond .eq 7, 3) := by decide +kernel
theorem dX6_isOneBelow_47 : decode cX6_isOneBelow 47 = .ok (.iconst 1, 1) := by decide +kernel
theorem dX6_isOneBelow_48 : decode cX6_isOneBelow 48 = .ok (.goto 4, 3) := by decide +kernel
theorem dX6_isOneBelow_51 : decode cX6_isOneBelow 51 = .ok (.iconst 0, 1) := by decide +kernel
theorem dX6_isOneBelow_52 : decode cX6_isOneBelow 52 = .ok (.ireturn, 1) := by decide +kernel
theorem dX6_advance_0 : decode cX6_advance 0 = .ok (.aload_n 0, 1) := by decide +kernel
theorem dX6_advance_1 : decode cX6_advance 1 = .ok (.aload_n 0, 1) := by decide +kernel
theorem dX6_advance_2 : decode cX6_advance 2 = .ok (.getfield 9, 3) := by decide +kernel
theorem dX6_advance_5 : decode cX6_advance 5 = .ok (.getfield 169, 3) := by decide +kernel
theorem dX6_advance_8 : decode cX6_advance 8 = .ok (.aload_n 0, 1) := by decide +kernel
theorem dX6_advance_9 : decode cX6_advance 9 = .ok (.getfield 30, 3) := by decide +kernel
theorem dX6_advance_12 : decode cX6_advance 12 = .ok (.iaload, 1) := by decide +kernel
theorem dX6_advance_13 : decode cX6_advance 13 = .ok (.putfield 172, 3) := by decide +kernel
theorem dX6_advance_16 : decode cX6_advance 16 = .ok (.aload_n 0, 1) := by decide +kernel
theorem dX6_advance_17 : decode cX6_advance 17 = .ok (.aload_n 0, 1) := by decide +kernel
theorem dX6_advance_18 : decode cX6_advance 18 = .ok (.getfield 9, 3) := by decide +kernel
theorem dX6_advance_21 : decode cX6_advance 21 = .ok (.getfield 175, 3) := by decide +kernel
theorem dX6_advance_24 : decode cX6_advance 24 = .ok (.aload_n 0, 1) := by decide +kernel
theorem dX6_advance_25 : decode cX6_advance 25 = .ok (.getfield 30, 3) := by decide +kernel
theorem dX6_advance_28 : decode cX6_advance 28 = .ok (.iaload, 1) := by decide +kernel
theorem dX6_advance_29 : decode cX6_advance 29 = .ok (.putfield 44, 3) := by decide +kernel
theorem dX6_advance_32 : decode cX6_advance 32 = .ok (.aload_n 0, 1) := by decide +kernel
theorem dX6_advance_33 : decode cX6_advance 33 = .ok (.aload_n 0, 1) := by decide +kernel
theorem dX6_advance_34 : decode cX6_advance 34 = .ok (.getfield 9, 3) := by decide +kernel
theorem dX6_advance_37 : decode cX6_advance 37 = .ok (.getfield 178, 3) := by decide +kernel
theorem dX6_advance_40 : decode cX6_advance 40 = .ok (.aload_n 0, 1) := by decide +kernel
theorem dX6_advance_41 : decode cX6_advance 41 = .ok (.getfield 30, 3) := by decide +kernel
theorem dX6_advance_44 : decode cX6_advance 44 = .ok (.iaload, 1) := by decide +kernel
theorem dX6_advance_45 : decode cX6_advance 45 = .ok (.putfield 85, 3) := by decide +kernel
theorem dX6_advance_48 : decode cX6_advance 48 = .ok (.aload_n 0, 1) := by decide +kernel
theorem dX6_advance_49 : decode cX6_advance 49 = .ok (.getfield 44, 3) := by decide +kernel
theorem dX6_advance_52 : decode cX6_advance 52 = .ok (.ifCond .eq 23, 3) := by decide +kernel
theorem dX6_advance_55 : decode cX6_advance 55 = .ok (.aload_n 0, 1) := by decide +kernel
theorem dX6_advance_56 : decode cX6_advance 56 = .ok (.getfield 30, 3) := by decide +kernel
theorem dX6_advance_59 : decode cX6_advance 59 = .ok (.sipush 700, 3) := by decide +kernel
theorem dX6_advance_62 : decode cX6_advance 62 = .ok (.if_icmp .ge 13, 3) := by decide +kernel
theorem dX6_advance_65 : decode cX6_advance 65 = .ok (.aload_n 0, 1) := by decide +kernel
theorem dX6_advance_66 : decode cX6_advance 66 = .ok (.dup, 1) := by decide +kernel
theorem dX6_advance_67 : decode cX6_advance 67 = .ok (.getfield 30, 3) := by decide +kernel
theorem dX6_advance_70 : decode cX6_advance 70 = .ok (.iconst 1, 1) := by decide +kernel
theorem dX6_advance_71 : decode cX6_advance 71 = .ok (.iadd, 1) := by decide +kernel
theorem dX6_advance_72 : decode cX6_advance 72 = .ok (.putfield 30, 3) := by decide +kernel
theorem dX6_advance_75 : decode cX6_advance 75 = .ok (.return_, 1) := by decide +kernel
theorem dX7_init_0 : decode cX7_init 0 = .ok (.aload_n 0, 1) := by decide +kernel
theorem dX7_init_1 : decode cX7_init 1 = .ok (.invokespecial 3, 3) := by decide +kernel
theorem dX7_init_4 : decode cX7_init 4 = .ok (.aload_n 0, 1) := by decide +kernel
theorem dX7_init_5 : decode cX7_init 5 = .ok (.ldc 9, 2) := by decide +kernel
theorem dX7_init_7 : decode cX7_init 7 = .ok (.newarray .int, 2) := by decide +kernel
theorem dX7_init_9 : decode cX7_init 9 = .ok (.putfield 10, 3) := by decide +kernel
theorem dX7_init_12 : decode cX7_init 12 = .ok (.aload_n 0, 1) := by decide +kernel
theorem dX7_init_13 : decode cX7_init 13 = .ok (.sipush 1000, 3) := by decide +kernel
theorem dX7_init_16 : decode cX7_init 16 = .ok (.newarray .int, 2) := by decide +kernel
theorem dX7_init_18 : decode cX7_init 18 = .ok (.putfield 16, 3) := by decide +kernel
theorem dX7_init_21 : decode cX7_init 21 = .ok (.aload_n 0, 1) := by decide +kernel
theorem dX7_init_22 : decode cX7_init 22 = .ok (.sipush 1000, 3) := by decide +kernel
theorem dX7_init_25 : decode cX7_init 25 = .ok (.newarray .int, 2) := by decide +kernel
theorem dX7_init_27 : decode cX7_init 27 = .ok (.putfield 19, 3) := by decide +kernel
theorem dX7_init_30 : decode cX7_init 30 = .ok (.aload_n 0, 1) := by decide +kernel
theorem dX7_init_31 : decode cX7_init 31 = .ok (.sipush 1000, 3) := by decide +kernel
theorem dX7_init_34 : decode cX7_init 34 = .ok (.newarray .int, 2) := by decide +kernel
theorem dX7_init_36 : decode cX7_init 36 = .ok (.putfield 22, 3) := by decide +kernel
theorem dX7_init_39 : decode cX7_init 39 = .ok (.aload_n 0, 1) := by decide +kernel
theorem dX7_init_40 : decode cX7_init 40 = .ok (.sipush 1024, 3) := by decide +kernel
theorem dX7_init_43 : decode cX7_init 43 = .ok (.newarray .int, 2) := by decide +kernel
theorem dX7_init_45 : decode cX7_init 45 = .ok (.putfield 25, 3) := by decide +kernel
theorem dX7_init_48 : decode cX7_init 48 = .ok (.aload_n 0, 1) := by decide +kernel
theorem dX7_init_49 : decode cX7_init 49 = .ok (.aload_n 1, 1) := by decide +kernel
theorem dX7_init_50 : decode cX7_init 50 = .ok (.putfield 28, 3) := by decide +kernel
theorem dX7_init_53 : decode cX7_init 53 = .ok (.return_, 1) := by decide +kernel
theorem dX7_findWish_0 : decode cX7_findWish 0 = .ok (.aload_n 0, 1) := by decide +kernel
theorem dX7_findWish_1 : decode cX7_findWish 1 = .ok (.iload_n 2, 1) := by decide +kernel
theorem dX7_findWish_2 : decode cX7_findWish 2 = .ok (.putfield 32, 3) := by decide +kernel
theorem dX7_findWish_5 : decode cX7_findWish 5 = .ok (.aload_n 0, 1) := by decide +kernel
theorem dX7_findWish_6 : decode cX7_findWish 6 = .ok (.iload_n 2, 1) := by decide +kernel
theorem dX7_findWish_7 : decode cX7_findWish 7 = .ok (.bipush 8, 2) := by decide +kernel
theorem dX7_findWish_9 : decode cX7_findWish 9 = .ok (.imul, 1) := by decide +kernel
theorem dX7_findWish_10 : decode cX7_findWish 10 = .ok (.iload_n 3, 1) := by decide +kernel
theorem dX7_findWish_11 : decode cX7_findWish 11 = .ok (.iadd, 1) := by decide +kernel
theorem dX7_findWish_12 : decode cX7_findWish 12 = .ok (.putfield 36, 3) := by decide +kernel
theorem dX7_findWish_15 : decode cX7_findWish 15 = .ok (.aload_n 0, 1) := by decide +kernel
theorem dX7_findWish_16 : decode cX7_findWish 16 = .ok (.aload_n 1, 1) := by decide +kernel
theorem dX7_findWish_17 : decode cX7_findWish 17 = .ok (.iload 4, 2) := by decide +kernel
theorem dX7_findWish_19 : decode cX7_findWish 19 = .ok (.invokevirtual 39, 3) := by decide +kernel
theorem dX7_findWish_22 : decode cX7_findWish 22 = .ok (.aload_n 0, 1) := by decide +kernel
theorem dX7_findWish_23 : decode cX7_findWish 23 = .ok (.getfield 43, 3) := by decide +kernel
theorem dX7_findWish_26 : decode cX7_findWish 26 = .ok (.ifCond .eq 8, 3) := by decide +kernel
theorem dX7_findWish_29 : decode cX7_findWish 29 = .ok (.bipush (-2), 2) := by decide +kernel
theorem dX7_findWish_31 : decode cX7_findWish 31 = .ok (.goto 7, 3) := by decide +kernel
theorem dX7_findWish_34 : decode cX7_findWish 34 = .ok (.aload_n 0, 1) := by decide +kernel
theorem dX7_findWish_35 : decode cX7_findWish 35 = .ok (.getfield 47, 3) := by decide +kernel
theorem dX7_findWish_38 : decode cX7_findWish 38 = .ok (.ireturn, 1) := by decide +kernel
theorem dX7_findMost_0 : decode cX7_findMost 0 = .ok (.aload_n 0, 1) := by decide +kernel
theorem dX7_findMost_1 : decode cX7_findMost 1 = .ok (.iconst (-1), 1) := by decide +kernel
theorem dX7_findMost_2 : decode cX7_findMost 2 = .ok (.putfield 32, 3) := by decide +kernel
theorem dX7_findMost_5 : decode cX7_findMost 5 = .ok (.aload_n 0, 1) := by decide +kernel
theorem dX7_findMost_6 : decode cX7_findMost 6 = .ok (.iconst (-1), 1) := by decide +kernel
theorem dX7_findMost_7 : decode cX7_findMost 7 = .ok (.putfield 36, 3) := by decide +kernel
theorem dX7_findMost_10 : decode cX7_findMost 10 = .ok (.aload_n 0, 1) := by decide +kernel
theorem dX7_findMost_11 : decode cX7_findMost 11 = .ok (.aload_n 1, 1) := by decide +kernel
theorem dX7_findMost_12 : decode cX7_findMost 12 = .ok (.iload_n 2, 1) := by decide +kernel
theorem dX7_findMost_13 : decode cX7_findMost 13 = .ok (.invokevirtual 39, 3) := by decide +kernel
theorem dX7_findMost_16 : decode cX7_findMost 16 = .ok (.aload_n 0, 1) := by decide +kernel
theorem dX7_findMost_17 : decode cX7_findMost 17 = .ok (.getfield 43, 3) := by decide +kernel
theorem dX7_findMost_20 : decode cX7_findMost 20 = .ok (.ifCond .eq 6, 3) := by decide +kernel
theorem dX7_findMost_23 : decode cX7_findMost 23 = .ok (.bipush (-2), 2) := by decide +kernel
theorem dX7_findMost_25 : decode cX7_findMost 25 = .ok (.ireturn, 1) := by decide +kernel
theorem dX7_findMost_26 : decode cX7_findMost 26 = .ok (.iconst (-1), 1) := by decide +kernel
theorem dX7_findMost_27 : decode cX7_findMost 27 = .ok (.istore_n 3, 1) := by decide +kernel
theorem dX7_findMost_28 : decode cX7_findMost 28 = .ok (.iconst 0, 1) := by decide +kernel
theorem dX7_findMost_29 : decode cX7_findMost 29 = .ok (.istore 4, 2) := by decide +kernel
theorem dX7_findMost_31 : decode cX7_findMost 31 = .ok (.iconst 0, 1) := by decide +kernel
theorem dX7_findMost_32 : decode cX7_findMost 32 = .ok (.istore 5, 2) := by decide +kernel
theorem dX7_findMost_34 : decode cX7_findMost 34 = .ok (.iload 5, 2) := by decide +kernel
theorem dX7_findMost_36 : decode cX7_findMost 36 = .ok (.aload_n 0, 1) := by decide +kernel
theorem dX7_findMost_37 : decode cX7_findMost 37 = .ok (.getfield 50, 3) := by decide +kernel
theorem dX7_findMost_40 : decode cX7_findMost 40 = .ok (.if_icmp .ge 30, 3) := by decide +kernel
theorem dX7_findMost_43 : decode cX7_findMost 43 = .ok (.aload_n 0, 1) := by decide +kernel
theorem dX7_findMost_44 : decode cX7_findMost 44 = .ok (.iload 5, 2) := by decide +kernel
theorem dX7_findMost_46 : decode cX7_findMost 46 = .ok (.invokevirtual 53, 3) := by decide +kernel
theorem dX7_findMost_49 : decode cX7_findMost 49 = .ok (.istore 6, 2) := by decide +kernel
theorem dX7_findMost_51 : decode cX7_findMost 51 = .ok (.iload 6, 2) := by decide +kernel
theorem dX7_findMost_53 : decode cX7_findMost 53 = .ok (.iload_n 3, 1) := by decide +kernel
theorem dX7_findMost_54 : decode cX7_findMost 54 = .ok (.if_icmp .le 10, 3) := by decide +kernel
theorem dX7_findMost_57 : decode cX7_findMost 57 = .ok (.iload 6, 2) := by decide +kernel
theorem dX7_findMost_59 : decode cX7_findMost 59 = .ok (.istore_n 3, 1) := by decide +kernel
theorem dX7_findMost_60 : decode cX7_findMost 60 = .ok (.iload 5, 2) := by decide +kernel
theorem dX7_findMost_62 : decode cX7_findMost 62 = .ok (.istore 4, 2) := by decide +kernel
theorem dX7_findMost_64 : decode cX7_findMost 64 = .ok (.iinc 5 1, 3) := by decide +kernel
theorem dX7_findMost_67 : decode cX7_findMost 67 = .ok (.goto (-33), 3) := by decide +kernel
theorem dX7_findMost_70 : decode cX7_findMost 70 = .ok (.iload 4, 2) := by decide +kernel
theorem dX7_findMost_72 : decode cX7_findMost 72 = .ok (.ireturn, 1) := by decide +kernel
theorem dX7_worthOf_0 : decode cX7_worthOf 0 = .ok (.aload_n 0, 1) := by decide +kernel
theorem dX7_worthOf_1 : decode cX7_worthOf 1 = .ok (.iload_n 1, 1) := by decide +kernel
theorem dX7_worthOf_2 : decode cX7_worthOf 2 = .ok (.invokevirtual 57, 3) := by decide +kernel
theorem dX7_worthOf_5 : decode cX7_worthOf 5 = .ok (.aload_n 0, 1) := by decide +kernel
theorem dX7_worthOf_6 : decode cX7_worthOf 6 = .ok (.getfield 28, 3) := by decide +kernel
theorem dX7_worthOf_9 : decode cX7_worthOf 9 = .ok (.invokevirtual 61, 3) := by decide +kernel
theorem dX7_worthOf_12 : decode cX7_worthOf 12 = .ok (.ireturn, 1) := by decide +kernel
theorem dX7_unwind_0 : decode cX7_unwind 0 = .ok (.iconst 0, 1) := by decide +kernel
theorem dX7_unwind_1 : decode cX7_unwind 1 = .ok (.istore_n 3, 1) := by decide +kernel
theorem dX7_unwind_2 : decode cX7_unwind 2 = .ok (.iload_n 1, 1) := by decide +kernel
theorem dX7_unwind_3 : decode cX7_unwind 3 = .ok (.istore 4, 2) := by decide +kernel
theorem dX7_unwind_5 : decode cX7_unwind 5 = .ok (.iload 4, 2) := by decide +kernel
theorem dX7_unwind_7 : decode cX7_unwind 7 = .ok (.ifCond .le 25, 3) := by decide +kernel
theorem dX7_unwind_10 : decode cX7_unwind 10 = .ok (.iload_n 3, 1) := by decide +kernel
theorem dX7_unwind_11 : decode cX7_unwind 11 = .ok (.sipush 1000, 3) := by decide +kernel
theorem dX7_unwind_14 : decode cX7_unwind 14 = .ok (.if_icmp .ge 18, 3) := by decide +kernel
theorem dX7_unwind_17 : decode cX7_unwind 17 = .ok (.iinc 3 1, 3) := by decide +kernel
theorem dX7_unwind_20 : decode cX7_unwind 20 = .ok (.aload_n 0, 1) := by decide +kernel
theorem dX7_unwind_21 : decode cX7_unwind 21 = .ok (.getfield 16, 3) := by decide +kernel
theorem dX7_unwind_24 : decode cX7_unwind 24 = .ok (.iload 4, 2) := by decide +kernel
theorem dX7_unwind_26 : decode cX7_unwind 26 = .ok (.iaload, 1) := by decide +kernel
theorem dX7_unwind_27 : decode cX7_unwind 27 = .ok (.istore 4, 2) := by decide +kernel
theorem dX7_unwind_29 : decode cX7_unwind 29 = .ok (.goto (-24), 3) := by decide +kernel
theorem dX7_unwind_32 : decode cX7_unwind 32 = .ok (.iload_n 1, 1) := by decide +kernel
theorem dX7_unwind_33 : decode cX7_unwind 33 = .ok (.istore 4, 2) := by decide +kernel
theorem dX7_unwind_35 : decode cX7_unwind 35 = .ok (.iload_n 3, 1) := by decide +kernel
theorem dX7_unwind_36 : decode cX7_unwind 36 = .ok (.iconst 1, 1) := by decide +kernel
theorem dX7_unwind_37 : decode cX7_unwind 37 = .ok (.isub, 1) := by decide +kernel
theorem dX7_unwind_38 : decode cX7_unwind 38 = .ok (.istore 5, 2) := by decide +kernel
theorem dX7_unwind_40 : decode cX7_unwind 40 = .ok (.iload 5, 2) := by decide +kernel
theorem dX7_unwind_42 : decode cX7_unwind 42 = .ok (.ifCond .lt 36, 3) := by decide +kernel
theorem dX7_unwind_45 : decode cX7_unwind 45 = .ok (.iload 5, 2) := by decide +kernel
theorem dX7_unwind_47 : decode cX7_unwind 47 = .ok (.aload_n 2, 1) := by decide +kernel
theorem dX7_unwind_48 : decode cX7_unwind 48 = .ok (.arraylength, 1) := by decide +kernel
theorem dX7_unwind_49 : decode cX7_unwind 49 = .ok (.if_icmp .ge 29, 3) := by decide +kernel
theorem dX7_unwind_52 : decode cX7_unwind 52 = .ok (.aload_n 2, 1) := by decide +kernel
theorem dX7_unwind_53 : decode cX7_unwind 53 = .ok (.iload 5, 2) := by decide +kernel
theorem dX7_unwind_55 : decode cX7_unwind 55 = .ok (.aload_n 0, 1) := by decide +kernel
theorem dX7_unwind_56 : decode cX7_unwind 56 = .ok (.getfield 19, 3) := by decide +kernel
theorem dX7_unwind_59 : decode cX7_unwind 59 = .ok (.iload 4, 2) := by decide +kernel
theorem dX7_unwind_61 : decode cX7_unwind 61 = .ok (.iaload, 1) := by decide +kernel
theorem dX7_unwind_62 : decode cX7_unwind 62 = .ok (.iastore, 1) := by decide +kernel
theorem dX7_unwind_63 : decode cX7_unwind 63 = .ok (.aload_n 0, 1) := by decide +kernel
theorem dX7_unwind_64 : decode cX7_unwind 64 = .ok (.getfield 16, 3) := by decide +kernel
theorem dX7_unwind_67 : decode cX7_unwind 67 = .ok (.iload 4, 2) := by decide +kernel
theorem dX7_unwind_69 : decode cX7_unwind 69 = .ok (.iaload, 1) := by decide +kernel
theorem dX7_unwind_70 : decode cX7_unwind 70 = .ok (.istore 4, 2) := by decide +kernel
theorem dX7_unwind_72 : decode cX7_unwind 72 = .ok (.iinc 5 (-1), 3) := by decide +kernel
theorem dX7_unwind_75 : decode cX7_unwind 75 = .ok (.goto (-35), 3) := by decide +kernel
theorem dX7_unwind_78 : decode cX7_unwind 78 = .ok (.iload_n 3, 1) := by decide +kernel
theorem dX7_unwind_79 : decode cX7_unwind 79 = .ok (.ireturn, 1) := by decide +kernel
theorem dX7_goThrough_0 : decode cX7_goThrough 0 = .ok (.aload_n 0, 1) := by decide +kernel
theorem dX7_goThrough_1 : decode cX7_goThrough 1 = .ok (.getfield 28, 3) := by decide +kernel
theorem dX7_goThrough_4 : decode cX7_goThrough 4 = .ok (.aload_n 1, 1) := by decide +kernel
theorem dX7_goThrough_5 : decode cX7_goThrough 5 = .ok (.invokevirtual 67, 3) := by decide +kernel
theorem dX7_goThrough_8 : decode cX7_goThrough 8 = .ok (.aload_n 0, 1) := by decide +kernel
theorem dX7_goThrough_9 : decode cX7_goThrough 9 = .ok (.iload_n 2, 1) := by decide +kernel
theorem dX7_goThrough_10 : decode cX7_goThrough 10 = .ok (.sipush 1000, 3) := by decide +kernel
theorem dX7_goThrough_13 : decode cX7_goThrough 13 = .ok (.invokestatic 71, 3) := by decide +kernel
theorem dX7_goThrough_16 : decode cX7_goThrough 16 = .ok (.putfield 77, 3) := by decide +kernel
theorem dX7_goThrough_19 : decode cX7_goThrough 19 = .ok (.aload_n 0, 1) := by decide +kernel
theorem dX7_goThrough_20 : decode cX7_goThrough 20 = .ok (.iconst 0, 1) := by decide +kernel
theorem dX7_goThrough_21 : decode cX7_goThrough 21 = .ok (.putfield 50, 3) := by decide +kernel
theorem dX7_goThrough_24 : decode cX7_goThrough 24 = .ok (.aload_n 0, 1) := by decide +kernel
theorem dX7_goThrough_25 : decode cX7_goThrough 25 = .ok (.iconst 0, 1) := by decide +kernel
theorem dX7_goThrough_26 : decode cX7_goThrough 26 = .ok (.putfield 43, 3) := by decide +kernel
theorem dX7_goThrough_29 : decode cX7_goThrough 29 = .ok (.aload_n 0, 1) := by decide +kernel
theorem dX7_goThrough_30 : decode cX7_goThrough 30 = .ok (.iconst (-1), 1) := by decide +kernel
theorem dX7_goThrough_31 : decode cX7_goThrough 31 = .ok (.putfield 47, 3) := by decide +kernel
theorem dX7_goThrough_34 : decode cX7_goThrough 34 = .ok (.iconst 0, 1) := by decide +kernel
theorem dX7_goThrough_35 : decode cX7_goThrough 35 = .ok (.istore_n 3, 1) := by decide +kernel
theorem dX7_goThrough_36 : decode cX7_goThrough 36 = .ok (.iload_n 3, 1) := by decide +kernel
theorem dX7_goThrough_37 : decode cX7_goThrough 37 = .ok (.sipush 1024, 3) := by decide +kernel
theorem dX7_goThrough_40 : decode cX7_goThrough 40 = .ok (.if_icmp .ge 16, 3) := by decide +kernel
theorem dX7_goThrough_43 : decode cX7_goThrough 43 = .ok (.aload_n 0, 1) := by decide +kernel
theorem dX7_goThrough_44 : decode cX7_goThrough 44 = .ok (.getfield 25, 3) := by decide +kernel
theorem dX7_goThrough_47 : decode cX7_goThrough 47 = .ok (.iload_n 3, 1) := by decide +kernel
theorem dX7_goThrough_48 : decode cX7_goThrough 48 = .ok (.iconst (-1), 1) := by decide +kernel
theorem dX7_goThrough_49 : decode cX7_goThrough 49 = .ok (.iastore, 1) := by decide +kernel
theorem dX7_goThrough_50 : decode cX7_goThrough 50 = .ok (.iinc 3 1, 3) := by decide +kernel
theorem dX7_goThrough_53 : decode cX7_goThrough 53 = .ok (.goto (-17), 3) := by decide +kernel
theorem dX7_goThrough_56 : decode cX7_goThrough 56 = .ok (.aload_n 0, 1) := by decide +kernel
theorem dX7_goThrough_57 : decode cX7_goThrough 57 = .ok (.iconst 0, 1) := by decide +kernel
theorem dX7_goThrough_58 : decode cX7_goThrough 58 = .ok (.iconst 0, 1) := by decide +kernel
theorem dX7_goThrough_59 : decode cX7_goThrough 59 = .ok (.invokevirtual 80, 3) := by decide +kernel
theorem dX7_goThrough_62 : decode cX7_goThrough 62 = .ok (.iconst 0, 1) := by decide +kernel
theorem dX7_goThrough_63 : decode cX7_goThrough 63 = .ok (.istore_n 3, 1) := by decide +kernel
theorem dX7_goThrough_64 : decode cX7_goThrough 64 = .ok (.iload_n 3, 1) := by decide +kernel
theorem dX7_goThrough_65 : decode cX7_goThrough 65 = .ok (.sipush 1000, 3) := by decide +kernel
theorem dX7_goThrough_68 : decode cX7_goThrough 68 = .ok (.if_icmp .ge 39, 3) := by decide +kernel
theorem dX7_goThrough_71 : decode cX7_goThrough 71 = .ok (.iload_n 3, 1) := by decide +kernel
theorem dX7_goThrough_72 : decode cX7_goThrough 72 = .ok (.aload_n 0, 1) := by decide +kernel
theorem dX7_goThrough_73 : decode cX7_goThrough 73 = .ok (.getfield 50, 3) := by decide +kernel
theorem dX7_goThrough_76 : decode cX7_goThrough 76 = .ok (.if_icmp .ge 31, 3) := by decide +kernel
theorem dX7_goThrough_79 : decode cX7_goThrough 79 = .ok (.aload_n 0, 1) := by decide +kernel
theorem dX7_goThrough_80 : decode cX7_goThrough 80 = .ok (.invokevirtual 84, 3) := by decide +kernel
theorem dX7_goThrough_83 : decode cX7_goThrough 83 = .ok (.ifCond .eq 24, 3) := by decide +kernel
theorem dX7_goThrough_86 : decode cX7_goThrough 86 = .ok (.aload_n 0, 1) := by decide +kernel
theorem dX7_goThrough_87 : decode cX7_goThrough 87 = .ok (.iload_n 3, 1) := by decide +kernel
theorem dX7_goThrough_88 : decode cX7_goThrough 88 = .ok (.invokevirtual 57, 3) := by decide +kernel
theorem dX7_goThrough_91 : decode cX7_goThrough 91 = .ok (.aload_n 0, 1) := by decide +kernel
theorem dX7_goThrough_92 : decode cX7_goThrough 92 = .ok (.iload_n 3, 1) := by decide +kernel
theorem dX7_goThrough_93 : decode cX7_goThrough 93 = .ok (.invokevirtual 88, 3) := by decide +kernel
theorem dX7_goThrough_96 : decode cX7_goThrough 96 = .ok (.aload_n 0, 1) := by decide +kernel
theorem dX7_goThrough_97 : decode cX7_goThrough 97 = .ok (.iload_n 3, 1) := by decide +kernel
theorem dX7_goThrough_98 : decode cX7_goThrough 98 = .ok (.invokevirtual 91, 3) := by decide +kernel
theorem dX7_goThrough_101 : decode cX7_goThrough 101 = .ok (.iinc 3 1, 3) := by decide +kernel
theorem dX7_goThrough_104 : decode cX7_goThrough 104 = .ok (.goto (-40), 3) := by decide +kernel
theorem dX7_goThrough_107 : decode cX7_goThrough 107 = .ok (.return_, 1) := by decide +kernel
theorem dX7_isOpen_0 : decode cX7_isOpen 0 = .ok (.aload_n 0, 1) := by decide +kernel
theorem dX7_isOpen_1 : decode cX7_isOpen 1 = .ok (.getfield 43, 3) := by decide +kernel
theorem dX7_isOpen_4 : decode cX7_isOpen 4 = .ok (.ifCond .ne 15, 3) := by decide +kernel
theorem dX7_isOpen_7 : decode cX7_isOpen 7 = .ok (.aload_n 0, 1) := by decide +kernel
theorem dX7_isOpen_8 : decode cX7_isOpen 8 = .ok (.getfield 47, 3) := by decide +kernel
theorem dX7_isOpen_11 : decode cX7_isOpen 11 = .ok (.iconst (-1), 1) := by decide +kernel
theorem dX7_isOpen_12 : decode cX7_isOpen 12 = .ok (.if_icmp .ne 7, 3) := by decide +kernel
theorem dX7_isOpen_15 : decode cX7_isOpen 15 = .ok (.iconst 1, 1) := by decide +kernel
theorem dX7_isOpen_16 : decode cX7_isOpen 16 = .ok (.goto 4, 3) := by decide +kernel
theorem dX7_isOpen_19 : decode cX7_isOpen 19 = .ok (.iconst 0, 1) := by decide +kernel
theorem dX7_isOpen_20 : decode cX7_isOpen 20 = .ok (.ireturn, 1) := by decide +kernel
theorem dX7_load_0 : decode cX7_load 0 = .ok (.aload_n 0, 1) := by decide +kernel
theorem dX7_load_1 : decode cX7_load 1 = .ok (.getfield 10, 3) := by decide +kernel
theorem dX7_load_4 : decode cX7_load 4 = .ok (.iload_n 1, 1) := by decide +kernel
theorem dX7_load_5 : decode cX7_load 5 = .ok (.bipush 48, 2) := by decide +kernel
theorem dX7_load_7 : decode cX7_load 7 = .ok (.imul, 1) := by decide +kernel
theorem dX7_load_8 : decode cX7_load 8 = .ok (.aload_n 0, 1) := by decide +kernel
theorem dX7_load_9 : decode cX7_load 9 = .ok (.getfield 28, 3) := by decide +kernel
theorem dX7_load_12 : decode cX7_load 12 = .ok (.getfield 94, 3) := by decide +kernel
theorem dX7_load_15 : decode cX7_load 15 = .ok (.iconst 0, 1) := by decide +kernel
theorem dX7_load_16 : decode cX7_load 16 = .ok (.bipush 48, 2) := by decide +kernel
theorem dX7_load_18 : decode cX7_load 18 = .ok (.invokestatic 97, 3) := by decide +kernel
theorem dX7_load_21 : decode cX7_load 21 = .ok (.return_, 1) := by decide +kernel
theorem dX7_goOnByTrades_0 : decode cX7_goOnByTrades 0 = .ok (.aload_n 0, 1) := by decide +kernel
theorem dX7_goOnByTrades_1 : decode cX7_goOnByTrades 1 = .ok (.getfield 28, 3) := by decide +kernel
theorem dX7_goOnByTrades_4 : decode cX7_goOnByTrades 4 = .ok (.getfield 103, 3) := by decide +kernel
theorem dX7_goOnByTrades_7 : decode cX7_goOnByTrades 7 = .ok (.getfield 107, 3) := by decide +kernel
theorem dX7_goOnByTrades_10 : decode cX7_goOnByTrades 10 = .ok (.istore_n 2, 1) := by decide +kernel
theorem dX7_goOnByTrades_11 : decode cX7_goOnByTrades 11 = .ok (.iconst 0, 1) := by decide +kernel
theorem dX7_goOnByTrades_12 : decode cX7_goOnByTrades 12 = .ok (.istore_n 3, 1) := by decide +kernel
theorem dX7_goOnByTrades_13 : decode cX7_goOnByTrades 13 = .ok (.iload_n 3, 1) := by decide +kernel
theorem dX7_goOnByTrades_14 : decode cX7_goOnByTrades 14 = .ok (.iload_n 2, 1) := by decide +kernel
theorem dX7_goOnByTrades_15 : decode cX7_goOnByTrades 15 = .ok (.if_icmp .ge 82, 3) := by decide +kernel
theorem dX7_goOnByTrades_18 : decode cX7_goOnByTrades 18 = .ok (.iconst 0, 1) := by decide +kernel
theorem dX7_goOnByTrades_19 : decode cX7_goOnByTrades 19 = .ok (.istore 4, 2) := by decide +kernel
theorem dX7_goOnByTrades_21 : decode cX7_goOnByTrades 21 = .ok (.iload 4, 2) := by decide +kernel
theorem dX7_goOnByTrades_23 : decode cX7_goOnByTrades 23 = .ok (.iload_n 2, 1) := by decide +kernel
theorem dX7_goOnByTrades_24 : decode cX7_goOnByTrades 24 = .ok (.if_icmp .ge 67, 3) := by decide +kernel
theorem dX7_goOnByTrades_27 : decode cX7_goOnByTrades 27 = .ok (.aload_n 0, 1) := by decide +kernel
theorem dX7_goOnByTrades_28 : decode cX7_goOnByTrades 28 = .ok (.getfield 32, 3) := by decide +kernel
theorem dX7_goOnByTrades_31 : decode cX7_goOnByTrades 31 = .ok (.iconst (-1), 1) := by decide +kernel
theorem dX7_goOnByTrades_32 : decode cX7_goOnByTrades 32 = .ok (.if_icmp .eq 20, 3) := by decide +kernel
theorem dX7_goOnByTrades_35 : decode cX7_goOnByTrades 35 = .ok (.iload_n 3, 1) := by decide +kernel
theorem dX7_goOnByTrades_36 : decode cX7_goOnByTrades 36 = .ok (.aload_n 0, 1) := by decide +kernel
theorem dX7_goOnByTrades_37 : decode cX7_goOnByTrades 37 = .ok (.getfield 32, 3) := by decide +kernel
theorem dX7_goOnByTrades_40 : decode cX7_goOnByTrades 40 = .ok (.if_icmp .eq 12, 3) := by decide +kernel
theorem dX7_goOnByTrades_43 : decode cX7_goOnByTrades 43 = .ok (.iload 4, 2) := by decide +kernel
theorem dX7_goOnByTrades_45 : decode cX7_goOnByTrades 45 = .ok (.aload_n 0, 1) := by decide +kernel
theorem dX7_goOnByTrades_46 : decode cX7_goOnByTrades 46 = .ok (.getfield 32, 3) := by decide +kernel
theorem dX7_goOnByTrades_49 : decode cX7_goOnByTrades 49 = .ok (.if_icmp .ne 7, 3) := by decide +kernel
theorem dX7_goOnByTrades_52 : decode cX7_goOnByTrades 52 = .ok (.iconst 1, 1) := by decide +kernel
theorem dX7_goOnByTrades_53 : decode cX7_goOnByTrades 53 = .ok (.goto 4, 3) := by decide +kernel
theorem dX7_goOnByTrades_56 : decode cX7_goOnByTrades 56 = .ok (.iconst 0, 1) := by decide +kernel
theorem dX7_goOnByTrades_57 : decode cX7_goOnByTrades 57 = .ok (.istore 5, 2) := by decide +kernel
theorem dX7_goOnByTrades_59 : decode cX7_goOnByTrades 59 = .ok (.iload_n 3, 1) := by decide +kernel
theorem dX7_goOnByTrades_60 : decode cX7_goOnByTrades 60 = .ok (.iload 4, 2) := by decide +kernel
theorem dX7_goOnByTrades_62 : decode cX7_goOnByTrades 62 = .ok (.if_icmp .eq 23, 3) := by decide +kernel
theorem dX7_goOnByTrades_65 : decode cX7_goOnByTrades 65 = .ok (.iload 5, 2) := by decide +kernel
theorem dX7_goOnByTrades_67 : decode cX7_goOnByTrades 67 = .ok (.ifCond .eq 18, 3) := by decide +kernel
theorem dX7_goOnByTrades_70 : decode cX7_goOnByTrades 70 = .ok (.aload_n 0, 1) := by decide +kernel
theorem dX7_goOnByTrades_71 : decode cX7_goOnByTrades 71 = .ok (.invokevirtual 84, 3) := by decide +kernel
theorem dX7_goOnByTrades_74 : decode cX7_goOnByTrades 74 = .ok (.ifCond .eq 11, 3) := by decide +kernel
theorem dX7_goOnByTrades_77 : decode cX7_goOnByTrades 77 = .ok (.aload_n 0, 1) := by decide +kernel
theorem dX7_goOnByTrades_78 : decode cX7_goOnByTrades 78 = .ok (.iload_n 1, 1) := by decide +kernel
theorem dX7_goOnByTrades_79 : decode cX7_goOnByTrades 79 = .ok (.iload_n 3, 1) := by decide +kernel
theorem dX7_goOnByTrades_80 : decode cX7_goOnByTrades 80 = .ok (.iload 4, 2) := by decide +kernel
theorem dX7_goOnByTrades_82 : decode cX7_goOnByTrades 82 = .ok (.invokevirtual 112, 3) := by decide +kernel
theorem dX7_goOnByTrades_85 : decode cX7_goOnByTrades 85 = .ok (.iinc 4 1, 3) := by decide +kernel
theorem dX7_goOnByTrades_88 : decode cX7_goOnByTrades 88 = .ok (.goto (-67), 3) := by decide +kernel
theorem dX7_goOnByTrades_91 : decode cX7_goOnByTrades 91 = .ok (.iinc 3 1, 3) := by decide +kernel
theorem dX7_goOnByTrades_94 : decode cX7_goOnByTrades 94 = .ok (.goto (-81), 3) := by decide +kernel
theorem dX7_goOnByTrades_97 : decode cX7_goOnByTrades 97 = .ok (.return_, 1) := by decide +kernel
theorem dX7_tryTrades_0 : decode cX7_tryTrades 0 = .ok (.iload_n 2, 1) := by decide +kernel
theorem dX7_tryTrades_1 : decode cX7_tryTrades 1 = .ok (.aload_n 0, 1) := by decide +kernel
theorem dX7_tryTrades_2 : decode cX7_tryTrades 2 = .ok (.getfield 32, 3) := by decide +kernel
theorem dX7_tryTrades_5 : decode cX7_tryTrades 5 = .ok (.if_icmp .ne 7, 3) := by decide +kernel
theorem dX7_tryTrades_8 : decode cX7_tryTrades 8 = .ok (.iload_n 3, 1) := by decide +kernel
theorem dX7_tryTrades_9 : decode cX7_tryTrades 9 = .ok (.goto 4, 3) := by decide +kernel
theorem dX7_tryTrades_12 : decode cX7_tryTrades 12 = .ok (.iload_n 2, 1) := by decide +kernel
theorem dX7_tryTrades_13 : decode cX7_tryTrades 13 = .ok (.istore 4, 2) := by decide +kernel
theorem dX7_tryTrades_15 : decode cX7_tryTrades 15 = .ok (.aload_n 0, 1) := by decide +kernel
theorem dX7_tryTrades_16 : decode cX7_tryTrades 16 = .ok (.getfield 28, 3) := by decide +kernel
theorem dX7_tryTrades_19 : decode cX7_tryTrades 19 = .ok (.iload 4, 2) := by decide +kernel
theorem dX7_tryTrades_21 : decode cX7_tryTrades 21 = .ok (.invokevirtual 116, 3) := by decide +kernel
theorem dX7_tryTrades_24 : decode cX7_tryTrades 24 = .ok (.istore 5, 2) := by decide +kernel
theorem dX7_tryTrades_26 : decode cX7_tryTrades 26 = .ok (.iconst 0, 1) := by decide +kernel
theorem dX7_tryTrades_27 : decode cX7_tryTrades 27 = .ok (.istore 6, 2) := by decide +kernel
theorem dX7_tryTrades_29 : decode cX7_tryTrades 29 = .ok (.iload 6, 2) := by decide +kernel
theorem dX7_tryTrades_31 : decode cX7_tryTrades 31 = .ok (.aload_n 0, 1) := by decide +kernel
theorem dX7_tryTrades_32 : decode cX7_tryTrades 32 = .ok (.getfield 28, 3) := by decide +kernel
theorem dX7_tryTrades_35 : decode cX7_tryTrades 35 = .ok (.getfield 119, 3) := by decide +kernel
theorem dX7_tryTrades_38 : decode cX7_tryTrades 38 = .ok (.getfield 123, 3) := by decide +kernel
theorem dX7_tryTrades_41 : decode cX7_tryTrades 41 = .ok (.if_icmp .ge 147, 3) := by decide +kernel
theorem dX7_tryTrades_44 : decode cX7_tryTrades 44 = .ok (.aload_n 0, 1) := by decide +kernel
theorem dX7_tryTrades_45 : decode cX7_tryTrades 45 = .ok (.getfield 28, 3) := by decide +kernel
theorem dX7_tryTrades_48 : decode cX7_tryTrades 48 = .ok (.iload_n 2, 1) := by decide +kernel
theorem dX7_tryTrades_49 : decode cX7_tryTrades 49 = .ok (.iload 6, 2) := by decide +kernel
theorem dX7_tryTrades_51 : decode cX7_tryTrades 51 = .ok (.invokevirtual 128, 3) := by decide +kernel
theorem dX7_tryTrades_54 : decode cX7_tryTrades 54 = .ok (.ifCond .ne 6, 3) := by decide +kernel
theorem dX7_tryTrades_57 : decode cX7_tryTrades 57 = .ok (.goto 125, 3) := by decide +kernel
theorem dX7_tryTrades_60 : decode cX7_tryTrades 60 = .ok (.iconst 0, 1) := by decide +kernel
theorem dX7_tryTrades_61 : decode cX7_tryTrades 61 = .ok (.istore 7, 2) := by decide +kernel
theorem dX7_tryTrades_63 : decode cX7_tryTrades 63 = .ok (.iload 7, 2) := by decide +kernel
theorem dX7_tryTrades_65 : decode cX7_tryTrades 65 = .ok (.aload_n 0, 1) := by decide +kernel
theorem dX7_tryTrades_66 : decode cX7_tryTrades 66 = .ok (.getfield 28, 3) := by decide +kernel
theorem dX7_tryTrades_69 : decode cX7_tryTrades 69 = .ok (.getfield 103, 3) := by decide +kernel
theorem dX7_tryTrades_72 : decode cX7_tryTrades 72 = .ok (.getfield 132, 3) := by decide +kernel
theorem dX7_tryTrades_75 : decode cX7_tryTrades 75 = .ok (.if_icmp .ge 107, 3) := by decide +kernel
theorem dX7_tryTrades_78 : decode cX7_tryTrades 78 = .ok (.aload_n 0, 1) := by decide +kernel
theorem dX7_tryTrades_79 : decode cX7_tryTrades 79 = .ok (.invokevirtual 84, 3) := by decide +kernel
theorem dX7_tryTrades_82 : decode cX7_tryTrades 82 = .ok (.ifCond .eq 100, 3) := by decide +kernel
theorem dX7_tryTrades_85 : decode cX7_tryTrades 85 = .ok (.aload_n 0, 1) := by decide +kernel
theorem dX7_tryTrades_86 : decode cX7_tryTrades 86 = .ok (.getfield 28, 3) := by decide +kernel
theorem dX7_tryTrades_89 : decode cX7_tryTrades 89 = .ok (.iload_n 3, 1) := by decide +kernel
theorem dX7_tryTrades_90 : decode cX7_tryTrades 90 = .ok (.iload 6, 2) := by decide +kernel
theorem dX7_tryTrades_92 : decode cX7_tryTrades 92 = .ok (.iload 7, 2) := by decide +kernel
theorem dX7_tryTrades_94 : decode cX7_tryTrades 94 = .ok (.invokevirtual 135, 3) := by decide +kernel
theorem dX7_tryTrades_97 : decode cX7_tryTrades 97 = .ok (.ifCond .ne 6, 3) := by decide +kernel
theorem dX7_tryTrades_100 : decode cX7_tryTrades 100 = .ok (.goto 76, 3) := by decide +kernel
theorem dX7_tryTrades_103 : decode cX7_tryTrades 103 = .ok (.aload_n 0, 1) := by decide +kernel
theorem dX7_tryTrades_104 : decode cX7_tryTrades 104 = .ok (.getfield 28, 3) := by decide +kernel
theorem dX7_tryTrades_107 : decode cX7_tryTrades 107 = .ok (.iload_n 2, 1) := by decide +kernel
theorem dX7_tryTrades_108 : decode cX7_tryTrades 108 = .ok (.iload_n 3, 1) := by decide +kernel
theorem dX7_tryTrades_109 : decode cX7_tryTrades 109 = .ok (.iload 6, 2) := by decide +kernel
theorem dX7_tryTrades_111 : decode cX7_tryTrades 111 = .ok (.iload 7, 2) := by decide +kernel
theorem dX7_tryTrades_113 : decode cX7_tryTrades 113 = .ok (.iconst 1, 1) := by decide +kernel
theorem dX7_tryTrades_114 : decode cX7_tryTrades 114 = .ok (.invokevirtual 139, 3) := by decide +kernel
theorem dX7_tryTrades_117 : decode cX7_tryTrades 117 = .ok (.aload_n 0, 1) := by decide +kernel
theorem dX7_tryTrades_118 : decode cX7_tryTrades 118 = .ok (.getfield 32, 3) := by decide +kernel
theorem dX7_tryTrades_121 : decode cX7_tryTrades 121 = .ok (.iconst (-1), 1) := by decide +kernel
theorem dX7_tryTrades_122 : decode cX7_tryTrades 122 = .ok (.if_icmp .eq 17, 3) := by decide +kernel
theorem dX7_tryTrades_125 : decode cX7_tryTrades 125 = .ok (.aload_n 0, 1) := by decide +kernel
theorem dX7_tryTrades_126 : decode cX7_tryTrades 126 = .ok (.getfield 28, 3) := by decide +kernel
theorem dX7_tryTrades_129 : decode cX7_tryTrades 129 = .ok (.iload 4, 2) := by decide +kernel
theorem dX7_tryTrades_131 : decode cX7_tryTrades 131 = .ok (.invokevirtual 116, 3) := by decide +kernel
theorem dX7_tryTrades_134 : decode cX7_tryTrades 134 = .ok (.iload 5, 2) := by decide +kernel
theorem dX7_tryTrades_136 : decode cX7_tryTrades 136 = .ok (.if_icmp .le 26, 3) := by decide +kernel
theorem dX7_tryTrades_139 : decode cX7_tryTrades 139 = .ok (.aload_n 0, 1) := by decide +kernel
theorem dX7_tryTrades_140 : decode cX7_tryTrades 140 = .ok (.iload_n 1, 1) := by decide +kernel
theorem dX7_tryTrades_141 : decode cX7_tryTrades 141 = .ok (.iload_n 2, 1) := by decide +kernel
theorem dX7_tryTrades_142 : decode cX7_tryTrades 142 = .ok (.bipush 6, 2) := by decide +kernel
theorem dX7_tryTrades_144 : decode cX7_tryTrades 144 = .ok (.imul, 1) := by decide +kernel
theorem dX7_tryTrades_145 : decode cX7_tryTrades 145 = .ok (.iload_n 3, 1) := by decide +kernel
theorem dX7_tryTrades_146 : decode cX7_tryTrades 146 = .ok (.iadd, 1) := by decide +kernel
theorem dX7_tryTrades_147 : decode cX7_tryTrades 147 = .ok (.bipush 120, 2) := by decide +kernel
theorem dX7_tryTrades_149 : decode cX7_tryTrades 149 = .ok (.imul, 1) := by decide +kernel
theorem dX7_tryTrades_150 : decode cX7_tryTrades 150 = .ok (.iload 6, 2) := by decide +kernel
theorem dX7_tryTrades_152 : decode cX7_tryTrades 152 = .ok (.iadd, 1) := by decide +kernel
theorem dX7_tryTrades_153 : decode cX7_tryTrades 153 = .ok (.bipush 8, 2) := by decide +kernel
theorem dX7_tryTrades_155 : decode cX7_tryTrades 155 = .ok (.imul, 1) := by decide +kernel
theorem dX7_tryTrades_156 : decode cX7_tryTrades 156 = .ok (.iload 7, 2) := by decide +kernel
theorem dX7_tryTrades_158 : decode cX7_tryTrades 158 = .ok (.iadd, 1) := by decide +kernel
theorem dX7_tryTrades_159 : decode cX7_tryTrades 159 = .ok (.invokevirtual 80, 3) := by decide +kernel
theorem dX7_tryTrades_162 : decode cX7_tryTrades 162 = .ok (.aload_n 0, 1) := by decide +kernel
theorem dX7_tryTrades_163 : decode cX7_tryTrades 163 = .ok (.getfield 28, 3) := by decide +kernel
theorem dX7_tryTrades_166 : decode cX7_tryTrades 166 = .ok (.iload_n 2, 1) := by decide +kernel
theorem dX7_tryTrades_167 : decode cX7_tryTrades 167 = .ok (.iload_n 3, 1) := by decide +kernel
theorem dX7_tryTrades_168 : decode cX7_tryTrades 168 = .ok (.iload 6, 2) := by decide +kernel
theorem dX7_tryTrades_170 : decode cX7_tryTrades 170 = .ok (.iload 7, 2) := by decide +kernel
theorem dX7_tryTrades_172 : decode cX7_tryTrades 172 = .ok (.iconst (-1), 1) := by decide +kernel
theorem dX7_tryTrades_173 : decode cX7_tryTrades 173 = .ok (.invokevirtual 139, 3) := by decide +kernel
theorem dX7_tryTrades_176 : decode cX7_tryTrades 176 = .ok (.iinc 7 1, 3) := by decide +kernel
theorem dX7_tryTrades_179 : decode cX7_tryTrades 179 = .ok (.goto (-116), 3) := by decide +kernel
theorem dX7_tryTrades_182 : decode cX7_tryTrades 182 = .ok (.iinc 6 1, 3) := by decide +kernel
theorem dX7_tryTrades_185 : decode cX7_tryTrades 185 = .ok (.goto (-156), 3) := by decide +kernel
theorem dX7_tryTrades_188 : decode cX7_tryTrades 188 = .ok (.return_, 1) := by decide +kernel
theorem dX7_goOnByTies_0 : decode cX7_goOnByTies 0 = .ok (.iconst 0, 1) := by decide +kernel
theorem dX7_goOnByTies_1 : decode cX7_goOnByTies 1 = .ok (.istore_n 2, 1) := by decide +kernel
theorem dX7_goOnByTies_2 : decode cX7_goOnByTies 2 = .ok (.iload_n 2, 1) := by decide +kernel
theorem dX7_goOnByTies_3 : decode cX7_goOnByTies 3 = .ok (.aload_n 0, 1) := by decide +kernel
theorem dX7_goOnByTies_4 : decode cX7_goOnByTies 4 = .ok (.getfield 28, 3) := by decide +kernel
theorem dX7_goOnByTies_7 : decode cX7_goOnByTies 7 = .ok (.getfield 103, 3) := by decide +kernel
theorem dX7_goOnByTies_10 : decode cX7_goOnByTies 10 = .ok (.getfield 107, 3) := by decide +kernel
theorem dX7_goOnByTies_13 : decode cX7_goOnByTies 13 = .ok (.if_icmp .ge 102, 3) := by decide +kernel
theorem dX7_goOnByTies_16 : decode cX7_goOnByTies 16 = .ok (.aload_n 0, 1) := by decide +kernel
theorem dX7_goOnByTies_17 : decode cX7_goOnByTies 17 = .ok (.getfield 32, 3) := by decide +kernel
theorem dX7_goOnByTies_20 : decode cX7_goOnByTies 20 = .ok (.iconst (-1), 1) := by decide +kernel
theorem dX7_goOnByTies_21 : decode cX7_goOnByTies 21 = .ok (.if_icmp .eq 14, 3) := by decide +kernel
theorem dX7_goOnByTies_24 : decode cX7_goOnByTies 24 = .ok (.aload_n 0, 1) := by decide +kernel
theorem dX7_goOnByTies_25 : decode cX7_goOnByTies 25 = .ok (.getfield 32, 3) := by decide +kernel
theorem dX7_goOnByTies_28 : decode cX7_goOnByTies 28 = .ok (.iload_n 2, 1) := by decide +kernel
theorem dX7_goOnByTies_29 : decode cX7_goOnByTies 29 = .ok (.if_icmp .eq 6, 3) := by decide +kernel
theorem dX7_goOnByTies_32 : decode cX7_goOnByTies 32 = .ok (.goto 77, 3) := by decide +kernel
theorem dX7_goOnByTies_35 : decode cX7_goOnByTies 35 = .ok (.iconst 0, 1) := by decide +kernel
theorem dX7_goOnByTies_36 : decode cX7_goOnByTies 36 = .ok (.istore_n 3, 1) := by decide +kernel
theorem dX7_goOnByTies_37 : decode cX7_goOnByTies 37 = .ok (.iload_n 3, 1) := by decide +kernel
theorem dX7_goOnByTies_38 : decode cX7_goOnByTies 38 = .ok (.aload_n 0, 1) := by decide +kernel
theorem dX7_goOnByTies_39 : decode cX7_goOnByTies 39 = .ok (.getfield 28, 3) := by decide +kernel
theorem dX7_goOnByTies_42 : decode cX7_goOnByTies 42 = .ok (.getfield 103, 3) := by decide +kernel
theorem dX7_goOnByTies_45 : decode cX7_goOnByTies 45 = .ok (.getfield 143, 3) := by decide +kernel
theorem dX7_goOnByTies_48 : decode cX7_goOnByTies 48 = .ok (.if_icmp .ge 61, 3) := by decide +kernel
theorem dX7_goOnByTies_51 : decode cX7_goOnByTies 51 = .ok (.aload_n 0, 1) := by decide +kernel
theorem dX7_goOnByTies_52 : decode cX7_goOnByTies 52 = .ok (.invokevirtual 84, 3) := by decide +kernel
theorem dX7_goOnByTies_55 : decode cX7_goOnByTies 55 = .ok (.ifCond .eq 54, 3) := by decide +kernel
theorem dX7_goOnByTies_58 : decode cX7_goOnByTies 58 = .ok (.aload_n 0, 1) := by decide +kernel
theorem dX7_goOnByTies_59 : decode cX7_goOnByTies 59 = .ok (.getfield 28, 3) := by decide +kernel
theorem dX7_goOnByTies_62 : decode cX7_goOnByTies 62 = .ok (.iload_n 2, 1) := by decide +kernel
theorem dX7_goOnByTies_63 : decode cX7_goOnByTies 63 = .ok (.iload_n 3, 1) := by decide +kernel
theorem dX7_goOnByTies_64 : decode cX7_goOnByTies 64 = .ok (.invokevirtual 146, 3) := by decide +kernel
theorem dX7_goOnByTies_67 : decode cX7_goOnByTies 67 = .ok (.ifCond .eq 36, 3) := by decide +kernel
theorem dX7_goOnByTies_70 : decode cX7_goOnByTies 70 = .ok (.aload_n 0, 1) := by decide +kernel
theorem dX7_goOnByTies_71 : decode cX7_goOnByTies 71 = .ok (.getfield 28, 3) := by decide +kernel
theorem dX7_goOnByTies_74 : decode cX7_goOnByTies 74 = .ok (.iload_n 2, 1) := by decide +kernel
theorem dX7_goOnByTies_75 : decode cX7_goOnByTies 75 = .ok (.iload_n 3, 1) := by decide +kernel
theorem dX7_goOnByTies_76 : decode cX7_goOnByTies 76 = .ok (.iconst 1, 1) := by decide +kernel
theorem dX7_goOnByTies_77 : decode cX7_goOnByTies 77 = .ok (.invokevirtual 149, 3) := by decide +kernel
theorem dX7_goOnByTies_80 : decode cX7_goOnByTies 80 = .ok (.aload_n 0, 1) := by decide +kernel
theorem dX7_goOnByTies_81 : decode cX7_goOnByTies 81 = .ok (.iload_n 1, 1) := by decide +kernel
theorem dX7_goOnByTies_82 : decode cX7_goOnByTies 82 = .ok (.ldc 152, 2) := by decide +kernel
theorem dX7_goOnByTies_84 : decode cX7_goOnByTies 84 = .ok (.iload_n 2, 1) := by decide +kernel
theorem dX7_goOnByTies_85 : decode cX7_goOnByTies 85 = .ok (.iconst 4, 1) := by decide +kernel
theorem dX7_goOnByTies_86 : decode cX7_goOnByTies 86 = .ok (.imul, 1) := by decide +kernel
theorem dX7_goOnByTies_87 : decode cX7_goOnByTies 87 = .ok (.iadd, 1) := by decide +kernel
theorem dX7_goOnByTies_88 : decode cX7_goOnByTies 88 = .ok (.iload_n 3, 1) := by decide +kernel
theorem dX7_goOnByTies_89 : decode cX7_goOnByTies 89 = .ok (.iadd, 1) := by decide +kernel
theorem dX7_goOnByTies_90 : decode cX7_goOnByTies 90 = .ok (.invokevirtual 80, 3) := by decide +kernel
theorem dX7_goOnByTies_93 : decode cX7_goOnByTies 93 = .ok (.aload_n 0, 1) := by decide +kernel
theorem dX7_goOnByTies_94 : decode cX7_goOnByTies 94 = .ok (.getfield 28, 3) := by decide +kernel
theorem dX7_goOnByTies_97 : decode cX7_goOnByTies 97 = .ok (.iload_n 2, 1) := by decide +kernel
theorem dX7_goOnByTies_98 : decode cX7_goOnByTies 98 = .ok (.iload_n 3, 1) := by decide +kernel
theorem dX7_goOnByTies_99 : decode cX7_goOnByTies 99 = .ok (.iconst (-1), 1) := by decide +kernel
theorem dX7_goOnByTies_100 : decode cX7_goOnByTies 100 = .ok (.invokevirtual 149, 3) := by decide +kernel
theorem dX7_goOnByTies_103 : decode cX7_goOnByTies 103 = .ok (.iinc 3 1, 3) := by decide +kernel
theorem dX7_goOnByTies_106 : decode cX7_goOnByTies 106 = .ok (.goto (-69), 3) := by decide +kernel
theorem dX7_goOnByTies_109 : decode cX7_goOnByTies 109 = .ok (.iinc 2 1, 3) := by decide +kernel
theorem dX7_goOnByTies_112 : decode cX7_goOnByTies 112 = .ok (.goto (-110), 3) := by decide +kernel
theorem dX7_goOnByTies_115 : decode cX7_goOnByTies 115 = .ok (.return_, 1) := by decide +kernel
theorem dX7_arrive_0 : decode cX7_arrive 0 = .ok (.aload_n 0, 1) := by decide +kernel
theorem dX7_arrive_1 : decode cX7_arrive 1 = .ok (.invokevirtual 153, 3) := by decide +kernel
theorem dX7_arrive_4 : decode cX7_arrive 4 = .ok (.istore_n 3, 1) := by decide +kernel
theorem dX7_arrive_5 : decode cX7_arrive 5 = .ok (.aload_n 0, 1) := by decide +kernel
theorem dX7_arrive_6 : decode cX7_arrive 6 = .ok (.getfield 25, 3) := by decide +kernel
theorem dX7_arrive_9 : decode cX7_arrive 9 = .ok (.iload_n 3, 1) := by decide +kernel
theorem dX7_arrive_10 : decode cX7_arrive 10 = .ok (.iaload, 1) := by decide +kernel
theorem dX7_arrive_11 : decode cX7_arrive 11 = .ok (.istore 4, 2) := by decide +kernel
theorem dX7_arrive_13 : decode cX7_arrive 13 = .ok (.iconst 0, 1) := by decide +kernel
theorem dX7_arrive_14 : decode cX7_arrive 14 = .ok (.istore 5, 2) := by decide +kernel
theorem dX7_arrive_16 : decode cX7_arrive 16 = .ok (.iload 5, 2) := by decide +kernel
theorem dX7_arrive_18 : decode cX7_arrive 18 = .ok (.aload_n 0, 1) := by decide +kernel
theorem dX7_arrive_19 : decode cX7_arrive 19 = .ok (.getfield 50, 3) := by decide +kernel
theorem dX7_arrive_22 : decode cX7_arrive 22 = .ok (.if_icmp .ge 42, 3) := by decide +kernel
theorem dX7_arrive_25 : decode cX7_arrive 25 = .ok (.iload 4, 2) := by decide +kernel
theorem dX7_arrive_27 : decode cX7_arrive 27 = .ok (.ifCond .lt 37, 3) := by decide +kernel
theorem dX7_arrive_30 : decode cX7_arrive 30 = .ok (.iload 4, 2) := by decide +kernel
theorem dX7_arrive_32 : decode cX7_arrive 32 = .ok (.aload_n 0, 1) := by decide +kernel
theorem dX7_arrive_33 : decode cX7_arrive 33 = .ok (.getfield 50, 3) := by decide +kernel
theorem dX7_arrive_36 : decode cX7_arrive 36 = .ok (.if_icmp .ge 28, 3) := by decide +kernel
theorem dX7_arrive_39 : decode cX7_arrive 39 = .ok (.aload_n 0, 1) := by decide +kernel
theorem dX7_arrive_40 : decode cX7_arrive 40 = .ok (.iload 4, 2) := by decide +kernel
theorem dX7_arrive_42 : decode cX7_arrive 42 = .ok (.invokevirtual 156, 3) := by decide +kernel
theorem dX7_arrive_45 : decode cX7_arrive 45 = .ok (.ifCond .eq 4, 3) := by decide +kernel
theorem dX7_arrive_48 : decode cX7_arrive 48 = .ok (.return_, 1) := by decide +kernel
theorem dX7_arrive_49 : decode cX7_arrive 49 = .ok (.aload_n 0, 1) := by decide +kernel
theorem dX7_arrive_50 : decode cX7_arrive 50 = .ok (.getfield 22, 3) := by decide +kernel
theorem dX7_arrive_53 : decode cX7_arrive 53 = .ok (.iload 4, 2) := by decide +kernel
theorem dX7_arrive_55 : decode cX7_arrive 55 = .ok (.iaload, 1) := by decide +kernel
theorem dX7_arrive_56 : decode cX7_arrive 56 = .ok (.istore 4, 2) := by decide +kernel
theorem dX7_arrive_58 : decode cX7_arrive 58 = .ok (.iinc 5 1, 3) := by decide +kernel
theorem dX7_arrive_61 : decode cX7_arrive 61 = .ok (.goto (-45), 3) := by decide +kernel
theorem dX7_arrive_64 : decode cX7_arrive 64 = .ok (.aload_n 0, 1) := by decide +kernel
theorem dX7_arrive_65 : decode cX7_arrive 65 = .ok (.getfield 50, 3) := by decide +kernel
theorem dX7_arrive_68 : decode cX7_arrive 68 = .ok (.aload_n 0, 1) := by decide +kernel
theorem dX7_arrive_69 : decode cX7_arrive 69 = .ok (.getfield 77, 3) := by decide +kernel
theorem dX7_arrive_72 : decode cX7_arrive 72 = .ok (.if_icmp .lt 9, 3) := by decide +kernel
theorem dX7_arrive_75 : decode cX7_arrive 75 = .ok (.aload_n 0, 1) := by decide +kernel
theorem dX7_arrive_76 : decode cX7_arrive 76 = .ok (.iconst 1, 1) := by decide +kernel
theorem dX7_arrive_77 : decode cX7_arrive 77 = .ok (.putfield 43, 3) := by decide +kernel
theorem dX7_arrive_80 : decode cX7_arrive 80 = .ok (.return_, 1) := by decide +kernel
theorem dX7_arrive_81 : decode cX7_arrive 81 = .ok (.aload_n 0, 1) := by decide +kernel
theorem dX7_arrive_82 : decode cX7_arrive 82 = .ok (.getfield 28, 3) := by decide +kernel
theorem dX7_arrive_85 : decode cX7_arrive 85 = .ok (.getfield 94, 3) := by decide +kernel
theorem dX7_arrive_88 : decode cX7_arrive 88 = .ok (.iconst 0, 1) := by decide +kernel
theorem dX7_arrive_89 : decode cX7_arrive 89 = .ok (.aload_n 0, 1) := by decide +kernel
theorem dX7_arrive_90 : decode cX7_arrive 90 = .ok (.getfield 10, 3) := by decide +kernel
theorem dX7_arrive_93 : decode cX7_arrive 93 = .ok (.aload_n 0, 1) := by decide +kernel
theorem dX7_arrive_94 : decode cX7_arrive 94 = .ok (.getfield 50, 3) := by decide +kernel
theorem dX7_arrive_97 : decode cX7_arrive 97 = .ok (.bipush 48, 2) := by decide +kernel
theorem dX7_arrive_99 : decode cX7_arrive 99 = .ok (.imul, 1) := by decide +kernel
theorem dX7_arrive_100 : decode cX7_arrive 100 = .ok (.bipush 48, 2) := by decide +kernel
theorem dX7_arrive_102 : decode cX7_arrive 102 = .ok (.invokestatic 97, 3) := by decide +kernel
theorem dX7_arrive_105 : decode cX7_arrive 105 = .ok (.aload_n 0, 1) := by decide +kernel
theorem dX7_arrive_106 : decode cX7_arrive 106 = .ok (.getfield 16, 3) := by decide +kernel
theorem dX7_arrive_109 : decode cX7_arrive 109 = .ok (.aload_n 0, 1) := by decide +kernel
theorem dX7_arrive_110 : decode cX7_arrive 110 = .ok (.getfield 50, 3) := by decide +kernel
theorem dX7_arrive_113 : decode cX7_arrive 113 = .ok (.iload_n 1, 1) := by decide +kernel
theorem dX7_arrive_114 : decode cX7_arrive 114 = .ok (.iastore, 1) := by decide +kernel
theorem dX7_arrive_115 : decode cX7_arrive 115 = .ok (.aload_n 0, 1) := by decide +kernel
theorem dX7_arrive_116 : decode cX7_arrive 116 = .ok (.getfield 19, 3) := by decide +kernel
theorem dX7_arrive_119 : decode cX7_arrive 119 = .ok (.aload_n 0, 1) := by decide +kernel
theorem dX7_arrive_120 : decode cX7_arrive 120 = .ok (.getfield 50, 3) := by decide +kernel
theorem dX7_arrive_123 : decode cX7_arrive 123 = .ok (.iload_n 2, 1) := by decide +kernel
theorem dX7_arrive_124 : decode cX7_arrive 124 = .ok (.iastore, 1) := by decide +kernel
theorem dX7_arrive_125 : decode cX7_arrive 125 = .ok (.aload_n 0, 1) := by decide +kernel
theorem dX7_arrive_126 : decode cX7_arrive 126 = .ok (.getfield 22, 3) := by decide +kernel
theorem dX7_arrive_129 : decode cX7_arrive 129 = .ok (.aload_n 0, 1) := by decide +kernel
theorem dX7_arrive_130 : decode cX7_arrive 130 = .ok (.getfield 50, 3) := by decide +kernel
theorem dX7_arrive_133 : decode cX7_arrive 133 = .ok (.aload_n 0, 1) := by decide +kernel
theorem dX7_arrive_134 : decode cX7_arrive 134 = .ok (.getfield 25, 3) := by decide +kernel
theorem dX7_arrive_137 : decode cX7_arrive 137 = .ok (.iload_n 3, 1) := by decide +kernel
theorem dX7_arrive_138 : decode cX7_arrive 138 = .ok (.iaload, 1) := by decide +kernel
theorem dX7_arrive_139 : decode cX7_arrive 139 = .ok (.iastore, 1) := by decide +kernel
theorem dX7_arrive_140 : decode cX7_arrive 140 = .ok (.aload_n 0, 1) := by decide +kernel
theorem dX7_arrive_141 : decode cX7_arrive 141 = .ok (.getfield 25, 3) := by decide +kernel
theorem dX7_arrive_144 : decode cX7_arrive 144 = .ok (.iload_n 3, 1) := by decide +kernel
theorem dX7_arrive_145 : decode cX7_arrive 145 = .ok (.aload_n 0, 1) := by decide +kernel
theorem dX7_arrive_146 : decode cX7_arrive 146 = .ok (.getfield 50, 3) := by decide +kernel
theorem dX7_arrive_149 : decode cX7_arrive 149 = .ok (.iastore, 1) := by decide +kernel
theorem dX7_arrive_150 : decode cX7_arrive 150 = .ok (.aload_n 0, 1) := by decide +kernel
theorem dX7_arrive_151 : decode cX7_arrive 151 = .ok (.getfield 36, 3) := by decide +kernel
theorem dX7_arrive_154 : decode cX7_arrive 154 = .ok (.ifCond .lt 26, 3) := by decide +kernel
theorem dX7_arrive_157 : decode cX7_arrive 157 = .ok (.aload_n 0, 1) := by decide +kernel
theorem dX7_arrive_158 : decode cX7_arrive 158 = .ok (.getfield 28, 3) := by decide +kernel
theorem dX7_arrive_161 : decode cX7_arrive 161 = .ok (.getfield 94, 3) := by decide +kernel
theorem dX7_arrive_164 : decode cX7_arrive 164 = .ok (.aload_n 0, 1) := by decide +kernel
theorem dX7_arrive_165 : decode cX7_arrive 165 = .ok (.getfield 36, 3) := by decide +kernel
theorem dX7_arrive_168 : decode cX7_arrive 168 = .ok (.iaload, 1) := by decide +kernel
theorem dX7_arrive_169 : decode cX7_arrive 169 = .ok (.ifCond .le 11, 3) := by decide +kernel
theorem dX7_arrive_172 : decode cX7_arrive 172 = .ok (.aload_n 0, 1) := by decide +kernel
theorem dX7_arrive_173 : decode cX7_arrive 173 = .ok (.aload_n 0, 1) := by decide +kernel
theorem dX7_arrive_174 : decode cX7_arrive 174 = .ok (.getfield 50, 3) := by decide +kernel
theorem dX7_arrive_177 : decode cX7_arrive 177 = .ok (.putfield 47, 3) := by decide +kernel
theorem dX7_arrive_180 : decode cX7_arrive 180 = .ok (.aload_n 0, 1) := by decide +kernel
theorem dX7_arrive_181 : decode cX7_arrive 181 = .ok (.dup, 1) := by decide +kernel
theorem dX7_arrive_182 : decode cX7_arrive 182 = .ok (.getfield 50, 3) := by decide +kernel
theorem dX7_arrive_185 : decode cX7_arrive 185 = .ok (.iconst 1, 1) := by decide +kernel
theorem dX7_arrive_186 : decode cX7_arrive 186 = .ok (.iadd, 1) := by decide +kernel
theorem dX7_arrive_187 : decode cX7_arrive 187 = .ok (.putfield 50, 3) := by decide +kernel
theorem dX7_arrive_190 : decode cX7_arrive 190 = .ok (.return_, 1) := by decide +kernel
theorem dX7_isAtWork_0 : decode cX7_isAtWork 0 = .ok (.aload_n 0, 1) := by decide +kernel
theorem dX7_isAtWork_1 : decode cX7_isAtWork 1 = .ok (.getfield 28, 3) := by decide +kernel
theorem dX7_isAtWork_4 : decode cX7_isAtWork 4 = .ok (.getfield 103, 3) := by decide +kernel
theorem dX7_isAtWork_7 : decode cX7_isAtWork 7 = .ok (.getfield 107, 3) := by decide +kernel
theorem dX7_isAtWork_10 : decode cX7_isAtWork 10 = .ok (.bipush 8, 2) := by decide +kernel
theorem dX7_isAtWork_12 : decode cX7_isAtWork 12 = .ok (.imul, 1) := by decide +kernel
theorem dX7_isAtWork_13 : decode cX7_isAtWork 13 = .ok (.istore_n 2, 1) := by decide +kernel
theorem dX7_isAtWork_14 : decode cX7_isAtWork 14 = .ok (.iload_n 1, 1) := by decide +kernel
theorem dX7_isAtWork_15 : decode cX7_isAtWork 15 = .ok (.bipush 48, 2) := by decide +kernel
theorem dX7_isAtWork_17 : decode cX7_isAtWork 17 = .ok (.imul, 1) := by decide +kernel
theorem dX7_isAtWork_18 : decode cX7_isAtWork 18 = .ok (.istore_n 3, 1) := by decide +kernel
theorem dX7_isAtWork_19 : decode cX7_isAtWork 19 = .ok (.iconst 0, 1) := by decide +kernel
theorem dX7_isAtWork_20 : decode cX7_isAtWork 20 = .ok (.istore 4, 2) := by decide +kernel
theorem dX7_isAtWork_22 : decode cX7_isAtWork 22 = .ok (.iload 4, 2) := by decide +kernel
theorem dX7_isAtWork_24 : decode cX7_isAtWork 24 = .ok (.iload_n 2, 1) := by decide +kernel
theorem dX7_isAtWork_25 : decode cX7_isAtWork 25 = .ok (.if_icmp .ge 33, 3) := by decide +kernel
theorem dX7_isAtWork_28 : decode cX7_isAtWork 28 = .ok (.aload_n 0, 1) := by decide +kernel
theorem dX7_isAtWork_29 : decode cX7_isAtWork 29 = .ok (.getfield 10, 3) := by decide +kernel
theorem dX7_isAtWork_32 : decode cX7_isAtWork 32 = .ok (.iload_n 3, 1) := by decide +kernel
theorem dX7_isAtWork_33 : decode cX7_isAtWork 33 = .ok (.iload 4, 2) := by decide +kernel
theorem dX7_isAtWork_35 : decode cX7_isAtWork 35 = .ok (.iadd, 1) := by decide +kernel
theorem dX7_isAtWork_36 : decode cX7_isAtWork 36 = .ok (.iaload, 1) := by decide +kernel
theorem dX7_isAtWork_37 : decode cX7_isAtWork 37 = .ok (.aload_n 0, 1) := by decide +kernel
theorem dX7_isAtWork_38 : decode cX7_isAtWork 38 = .ok (.getfield 28, 3) := by decide +kernel
theorem dX7_isAtWork_41 : decode cX7_isAtWork 41 = .ok (.getfield 94, 3) := by decide +kernel
theorem dX7_isAtWork_44 : decode cX7_isAtWork 44 = .ok (.iload 4, 2) := by decide +kernel
theorem dX7_isAtWork_46 : decode cX7_isAtWork 46 = .ok (.iaload, 1) := by decide +kernel
theorem dX7_isAtWork_47 : decode cX7_isAtWork 47 = .ok (.if_icmp .eq 5, 3) := by decide +kernel
theorem dX7_isAtWork_50 : decode cX7_isAtWork 50 = .ok (.iconst 0, 1) := by decide +kernel
theorem dX7_isAtWork_51 : decode cX7_isAtWork 51 = .ok (.ireturn, 1) := by decide +kernel
theorem dX7_isAtWork_52 : decode cX7_isAtWork 52 = .ok (.iinc 4 1, 3) := by decide +kernel
theorem dX7_isAtWork_55 : decode cX7_isAtWork 55 = .ok (.goto (-33), 3) := by decide +kernel
theorem dX7_isAtWork_58 : decode cX7_isAtWork 58 = .ok (.iconst 1, 1) := by decide +kernel
theorem dX7_isAtWork_59 : decode cX7_isAtWork 59 = .ok (.ireturn, 1) := by decide +kernel
theorem dX7_hash_0 : decode cX7_hash 0 = .ok (.aload_n 0, 1) := by decide +kernel
theorem dX7_hash_1 : decode cX7_hash 1 = .ok (.getfield 28, 3) := by decide +kernel
theorem dX7_hash_4 : decode cX7_hash 4 = .ok (.getfield 103, 3) := by decide +kernel
theorem dX7_hash_7 : decode cX7_hash 7 = .ok (.getfield 107, 3) := by decide +kernel
theorem dX7_hash_10 : decode cX7_hash 10 = .ok (.bipush 8, 2) := by decide +kernel
theorem dX7_hash_12 : decode cX7_hash 12 = .ok (.imul, 1) := by decide +kernel
theorem dX7_hash_13 : decode cX7_hash 13 = .ok (.istore_n 1, 1) := by decide +kernel
theorem dX7_hash_14 : decode cX7_hash 14 = .ok (.iconst 0, 1) := by decide +kernel
theorem dX7_hash_15 : decode cX7_hash 15 = .ok (.istore_n 2, 1) := by decide +kernel
theorem dX7_hash_16 : decode cX7_hash 16 = .ok (.iconst 0, 1) := by decide +kernel
theorem dX7_hash_17 : decode cX7_hash 17 = .ok (.istore_n 3, 1) := by decide +kernel
theorem dX7_hash_18 : decode cX7_hash 18 = .ok (.iload_n 3, 1) := by decide +kernel
theorem dX7_hash_19 : decode cX7_hash 19 = .ok (.iload_n 1, 1) := by decide +kernel
theorem dX7_hash_20 : decode cX7_hash 20 = .ok (.if_icmp .ge 24, 3) := by decide +kernel
theorem dX7_hash_23 : decode cX7_hash 23 = .ok (.iload_n 2, 1) := by decide +kernel
theorem dX7_hash_24 : decode cX7_hash 24 = .ok (.bipush 31, 2) := by decide +kernel
theorem dX7_hash_26 : decode cX7_hash 26 = .ok (.imul, 1) := by decide +kernel
theorem dX7_hash_27 : decode cX7_hash 27 = .ok (.aload_n 0, 1) := by decide +kernel
theorem dX7_hash_28 : decode cX7_hash 28 = .ok (.getfield 28, 3) := by decide +kernel
theorem dX7_hash_31 : decode cX7_hash 31 = .ok (.getfield 94, 3) := by decide +kernel
theorem dX7_hash_34 : decode cX7_hash 34 = .ok (.iload_n 3, 1) := by decide +kernel
theorem dX7_hash_35 : decode cX7_hash 35 = .ok (.iaload, 1) := by decide +kernel
theorem dX7_hash_36 : decode cX7_hash 36 = .ok (.iadd, 1) := by decide +kernel
theorem dX7_hash_37 : decode cX7_hash 37 = .ok (.istore_n 2, 1) := by decide +kernel
theorem dX7_hash_38 : decode cX7_hash 38 = .ok (.iinc 3 1, 3) := by decide +kernel
theorem dX7_hash_41 : decode cX7_hash 41 = .ok (.goto (-23), 3) := by decide +kernel
theorem dX7_hash_44 : decode cX7_hash 44 = .ok (.iload_n 2, 1) := by decide +kernel
theorem dX7_hash_45 : decode cX7_hash 45 = .ok (.iload_n 2, 1) := by decide +kernel
theorem dX7_hash_46 : decode cX7_hash 46 = .ok (.bipush 11, 2) := by decide +kernel
theorem dX7_hash_48 : decode cX7_hash 48 = .ok (.iushr, 1) := by decide +kernel
theorem dX7_hash_49 : decode cX7_hash 49 = .ok (.ixor, 1) := by decide +kernel
theorem dX7_hash_50 : decode cX7_hash 50 = .ok (.iload_n 2, 1) := by decide +kernel
theorem dX7_hash_51 : decode cX7_hash 51 = .ok (.bipush 22, 2) := by decide +kernel
theorem dX7_hash_53 : decode cX7_hash 53 = .ok (.iushr, 1) := by decide +kernel
theorem dX7_hash_54 : decode cX7_hash 54 = .ok (.ixor, 1) := by decide +kernel
theorem dX7_hash_55 : decode cX7_hash 55 = .ok (.sipush 1023, 3) := by decide +kernel
theorem dX7_hash_58 : decode cX7_hash 58 = .ok (.iand, 1) := by decide +kernel
theorem dX7_hash_59 : decode cX7_hash 59 = .ok (.ireturn, 1) := by decide +kernel
theorem dX8_init_0 : decode cX8_init 0 = .ok (.aload_n 0, 1) := by decide +kernel
theorem dX8_init_1 : decode cX8_init 1 = .ok (.invokespecial 3, 3) := by decide +kernel
theorem dX8_init_4 : decode cX8_init 4 = .ok (.aload_n 0, 1) := by decide +kernel
theorem dX8_init_5 : decode cX8_init 5 = .ok (.bipush 48, 2) := by decide +kernel
theorem dX8_init_7 : decode cX8_init 7 = .ok (.newarray .int, 2) := by decide +kernel
theorem dX8_init_9 : decode cX8_init 9 = .ok (.putfield 9, 3) := by decide +kernel
theorem dX8_init_12 : decode cX8_init 12 = .ok (.aload_n 0, 1) := by decide +kernel
theorem dX8_init_13 : decode cX8_init 13 = .ok (.bipush 8, 2) := by decide +kernel
theorem dX8_init_15 : decode cX8_init 15 = .ok (.newarray .int, 2) := by decide +kernel
theorem dX8_init_17 : decode cX8_init 17 = .ok (.putfield 15, 3) := by decide +kernel
theorem dX8_init_20 : decode cX8_init 20 = .ok (.return_, 1) := by decide +kernel
theorem dX8_begin_0 : decode cX8_begin 0 = .ok (.aload_n 0, 1) := by decide +kernel
theorem dX8_begin_1 : decode cX8_begin 1 = .ok (.aload_n 1, 1) := by decide +kernel
theorem dX8_begin_2 : decode cX8_begin 2 = .ok (.getfield 18, 3) := by decide +kernel
theorem dX8_begin_5 : decode cX8_begin 5 = .ok (.getfield 24, 3) := by decide +kernel
theorem dX8_begin_8 : decode cX8_begin 8 = .ok (.putfield 30, 3) := by decide +kernel
theorem dX8_begin_11 : decode cX8_begin 11 = .ok (.aload_n 0, 1) := by decide +kernel
theorem dX8_begin_12 : decode cX8_begin 12 = .ok (.aload_n 1, 1) := by decide +kernel
theorem dX8_begin_13 : decode cX8_begin 13 = .ok (.getfield 18, 3) := by decide +kernel
theorem dX8_begin_16 : decode cX8_begin 16 = .ok (.getfield 31, 3) := by decide +kernel
theorem dX8_begin_19 : decode cX8_begin 19 = .ok (.putfield 34, 3) := by decide +kernel
theorem dX8_begin_22 : decode cX8_begin 22 = .ok (.iconst 0, 1) := by decide +kernel
theorem dX8_begin_23 : decode cX8_begin 23 = .ok (.istore_n 2, 1) := by decide +kernel
theorem dX8_begin_24 : decode cX8_begin 24 = .ok (.iload_n 2, 1) := by decide +kernel
theorem dX8_begin_25 : decode cX8_begin 25 = .ok (.bipush 48, 2) := by decide +kernel
theorem dX8_begin_27 : decode cX8_begin 27 = .ok (.if_icmp .ge 16, 3) := by decide +kernel
theorem dX8_begin_30 : decode cX8_begin 30 = .ok (.aload_n 0, 1) := by decide +kernel
theorem dX8_begin_31 : decode cX8_begin 31 = .ok (.getfield 9, 3) := by decide +kernel
theorem dX8_begin_34 : decode cX8_begin 34 = .ok (.iload_n 2, 1) := by decide +kernel
theorem dX8_begin_35 : decode cX8_begin 35 = .ok (.iconst 0, 1) := by decide +kernel
theorem dX8_begin_36 : decode cX8_begin 36 = .ok (.iastore, 1) := by decide +kernel
theorem dX8_begin_37 : decode cX8_begin 37 = .ok (.iinc 2 1, 3) := by decide +kernel
theorem dX8_begin_40 : decode cX8_begin 40 = .ok (.goto (-16), 3) := by decide +kernel
theorem dX8_begin_43 : decode cX8_begin 43 = .ok (.iconst 0, 1) := by decide +kernel
theorem dX8_begin_44 : decode cX8_begin 44 = .ok (.istore_n 2, 1) := by decide +kernel
theorem dX8_begin_45 : decode cX8_begin 45 = .ok (.iload_n 2, 1) := by decide +kernel
theorem dX8_begin_46 : decode cX8_begin 46 = .ok (.aload_n 0, 1) := by decide +kernel
theorem dX8_begin_47 : decode cX8_begin 47 = .ok (.getfield 34, 3) := by decide +kernel
theorem dX8_begin_50 : decode cX8_begin 50 = .ok (.if_icmp .ge 32, 3) := by decide +kernel
theorem dX8_begin_53 : decode cX8_begin 53 = .ok (.aload_n 0, 1) := by decide +kernel
theorem dX8_begin_54 : decode cX8_begin 54 = .ok (.getfield 15, 3) := by decide +kernel
theorem dX8_begin_57 : decode cX8_begin 57 = .ok (.iload_n 2, 1) := by decide +kernel
theorem dX8_begin_58 : decode cX8_begin 58 = .ok (.aload_n 1, 1) := by decide +kernel
theorem dX8_begin_59 : decode cX8_begin 59 = .ok (.iload_n 2, 1) := by decide +kernel
theorem dX8_begin_60 : decode cX8_begin 60 = .ok (.invokevirtual 35, 3) := by decide +kernel
theorem dX8_begin_63 : decode cX8_begin 63 = .ok (.iastore, 1) := by decide +kernel
theorem dX8_begin_64 : decode cX8_begin 64 = .ok (.aload_n 0, 1) := by decide +kernel
theorem dX8_begin_65 : decode cX8_begin 65 = .ok (.getfield 9, 3) := by decide +kernel
theorem dX8_begin_68 : decode cX8_begin 68 = .ok (.iload_n 2, 1) := by decide +kernel
theorem dX8_begin_69 : decode cX8_begin 69 = .ok (.aload_n 0, 1) := by decide +kernel
theorem dX8_begin_70 : decode cX8_begin 70 = .ok (.getfield 15, 3) := by decide +kernel
theorem dX8_begin_73 : decode cX8_begin 73 = .ok (.iload_n 2, 1) := by decide +kernel
theorem dX8_begin_74 : decode cX8_begin 74 = .ok (.iaload, 1) := by decide +kernel
theorem dX8_begin_75 : decode cX8_begin 75 = .ok (.iastore, 1) := by decide +kernel
theorem dX8_begin_76 : decode cX8_begin 76 = .ok (.iinc 2 1, 3) := by decide +kernel
theorem dX8_begin_79 : decode cX8_begin 79 = .ok (.goto (-34), 3) := by decide +kernel
theorem dX8_begin_82 : decode cX8_begin 82 = .ok (.return_, 1) := by decide +kernel
theorem dX8_ways_0 : decode cX8_ways 0 = .ok (.iconst 1, 1) := by decide +kernel
theorem dX8_ways_1 : decode cX8_ways 1 = .ok (.istore_n 1, 1) := by decide +kernel
theorem dX8_ways_2 : decode cX8_ways 2 = .ok (.iconst 0, 1) := by decide +kernel
theorem dX8_ways_3 : decode cX8_ways 3 = .ok (.istore_n 2, 1) := by decide +kernel
theorem dX8_ways_4 : decode cX8_ways 4 = .ok (.iload_n 2, 1) := by decide +kernel
theorem dX8_ways_5 : decode cX8_ways 5 = .ok (.aload_n 0, 1) := by decide +kernel
theorem dX8_ways_6 : decode cX8_ways 6 = .ok (.getfield 34, 3) := by decide +kernel
theorem dX8_ways_9 : decode cX8_ways 9 = .ok (.if_icmp .ge 33, 3) := by decide +kernel
theorem dX8_ways_12 : decode cX8_ways 12 = .ok (.iload_n 1, 1) := by decide +kernel
theorem dX8_ways_13 : decode cX8_ways 13 = .ok (.aload_n 0, 1) := by decide +kernel
theorem dX8_ways_14 : decode cX8_ways 14 = .ok (.aload_n 0, 1) := by decide +kernel
theorem dX8_ways_15 : decode cX8_ways 15 = .ok (.getfield 15, 3) := by decide +kernel
theorem dX8_ways_18 : decode cX8_ways 18 = .ok (.iload_n 2, 1) := by decide +kernel
theorem dX8_ways_19 : decode cX8_ways 19 = .ok (.iaload, 1) := by decide +kernel
theorem dX8_ways_20 : decode cX8_ways 20 = .ok (.invokevirtual 39, 3) := by decide +kernel
theorem dX8_ways_23 : decode cX8_ways 23 = .ok (.imul, 1) := by decide +kernel
theorem dX8_ways_24 : decode cX8_ways 24 = .ok (.istore_n 1, 1) := by decide +kernel
theorem dX8_ways_25 : decode cX8_ways 25 = .ok (.iload_n 1, 1) := by decide +kernel
theorem dX8_ways_26 : decode cX8_ways 26 = .ok (.sipush 1500, 3) := by decide +kernel
theorem dX8_ways_29 : decode cX8_ways 29 = .ok (.if_icmp .le 7, 3) := by decide +kernel
theorem dX8_ways_32 : decode cX8_ways 32 = .ok (.sipush 1501, 3) := by decide +kernel
theorem dX8_ways_35 : decode cX8_ways 35 = .ok (.ireturn, 1) := by decide +kernel
theorem dX8_ways_36 : decode cX8_ways 36 = .ok (.iinc 2 1, 3) := by decide +kernel
theorem dX8_ways_39 : decode cX8_ways 39 = .ok (.goto (-35), 3) := by decide +kernel
theorem dX8_ways_42 : decode cX8_ways 42 = .ok (.iload_n 1, 1) := by decide +kernel
theorem dX8_ways_43 : decode cX8_ways 43 = .ok (.ireturn, 1) := by decide +kernel
theorem dX8_waysOf_0 : decode cX8_waysOf 0 = .ok (.iconst 1, 1) := by decide +kernel
theorem dX8_waysOf_1 : decode cX8_waysOf 1 = .ok (.istore_n 2, 1) := by decide +kernel
theorem dX8_waysOf_2 : decode cX8_waysOf 2 = .ok (.iconst 1, 1) := by decide +kernel
theorem dX8_waysOf_3 : decode cX8_waysOf 3 = .ok (.istore_n 3, 1) := by decide +kernel
theorem dX8_waysOf_4 : decode cX8_waysOf 4 = .ok (.iload_n 3, 1) := by decide +kernel
theorem dX8_waysOf_5 : decode cX8_waysOf 5 = .ok (.aload_n 0, 1) := by decide +kernel
theorem dX8_waysOf_6 : decode cX8_waysOf 6 = .ok (.getfield 30, 3) := by decide +kernel
theorem dX8_waysOf_9 : decode cX8_waysOf 9 = .ok (.if_icmp .ge 28, 3) := by decide +kernel
theorem dX8_waysOf_12 : decode cX8_waysOf 12 = .ok (.iload_n 2, 1) := by decide +kernel
theorem dX8_waysOf_13 : decode cX8_waysOf 13 = .ok (.iload_n 1, 1) := by decide +kernel
theorem dX8_waysOf_14 : decode cX8_waysOf 14 = .ok (.iload_n 3, 1) := by decide +kernel
theorem dX8_waysOf_15 : decode cX8_waysOf 15 = .ok (.iadd, 1) := by decide +kernel
theorem dX8_waysOf_16 : decode cX8_waysOf 16 = .ok (.imul, 1) := by decide +kernel
theorem dX8_waysOf_17 : decode cX8_waysOf 17 = .ok (.iload_n 3, 1) := by decide +kernel
theorem dX8_waysOf_18 : decode cX8_waysOf 18 = .ok (.idiv, 1) := by decide +kernel
theorem dX8_waysOf_19 : decode cX8_waysOf 19 = .ok (.istore_n 2, 1) := by decide +kernel
theorem dX8_waysOf_20 : decode cX8_waysOf 20 = .ok (.iload_n 2, 1) := by decide +kernel
theorem dX8_waysOf_21 : decode cX8_waysOf 21 = .ok (.sipush 1500, 3) := by decide +kernel
theorem dX8_waysOf_24 : decode cX8_waysOf 24 = .ok (.if_icmp .le 7, 3) := by decide +kernel
theorem dX8_waysOf_27 : decode cX8_waysOf 27 = .ok (.sipush 1501, 3) := by decide +kernel
theorem dX8_waysOf_30 : decode cX8_waysOf 30 = .ok (.ireturn, 1) := by decide +kernel
theorem dX8_waysOf_31 : decode cX8_waysOf 31 = .ok (.iinc 3 1, 3) := by decide +kernel
theorem dX8_waysOf_34 : decode cX8_waysOf 34 = .ok (.goto (-30), 3) := by decide +kernel
theorem dX8_waysOf_37 : decode cX8_waysOf 37 = .ok (.iload_n 2, 1) := by decide +kernel
theorem dX8_waysOf_38 : decode cX8_waysOf 38 = .ok (.ireturn, 1) := by decide +kernel
theorem dX8_goOn_0 : decode cX8_goOn 0 = .ok (.aload_n 0, 1) := by decide +kernel
theorem dX8_goOn_1 : decode cX8_goOn 1 = .ok (.getfield 30, 3) := by decide +kernel
theorem dX8_goOn_4 : decode cX8_goOn 4 = .ok (.iconst 2, 1) := by decide +kernel
theorem dX8_goOn_5 : decode cX8_goOn 5 = .ok (.isub, 1) := by decide +kernel
theorem dX8_goOn_6 : decode cX8_goOn 6 = .ok (.istore_n 1, 1) := by decide +kernel
theorem dX8_goOn_7 : decode cX8_goOn 7 = .ok (.iload_n 1, 1) := by decide +kernel
theorem dX8_goOn_8 : decode cX8_goOn 8 = .ok (.ifCond .lt 62, 3) := by decide +kernel
theorem dX8_goOn_11 : decode cX8_goOn 11 = .ok (.aload_n 0, 1) := by decide +kernel
theorem dX8_goOn_12 : decode cX8_goOn 12 = .ok (.getfield 34, 3) := by decide +kernel
theorem dX8_goOn_15 : decode cX8_goOn 15 = .ok (.iconst 1, 1) := by decide +kernel
theorem dX8_goOn_16 : decode cX8_goOn 16 = .ok (.isub, 1) := by decide +kernel
theorem dX8_goOn_17 : decode cX8_goOn 17 = .ok (.istore_n 2, 1) := by decide +kernel
theorem dX8_goOn_18 : decode cX8_goOn 18 = .ok (.iload_n 2, 1) := by decide +kernel
theorem dX8_goOn_19 : decode cX8_goOn 19 = .ok (.ifCond .lt 45, 3) := by decide +kernel
theorem dX8_goOn_22 : decode cX8_goOn 22 = .ok (.aload_n 0, 1) := by decide +kernel
theorem dX8_goOn_23 : decode cX8_goOn 23 = .ok (.getfield 9, 3) := by decide +kernel
theorem dX8_goOn_26 : decode cX8_goOn 26 = .ok (.iload_n 1, 1) := by decide +kernel
theorem dX8_goOn_27 : decode cX8_goOn 27 = .ok (.bipush 8, 2) := by decide +kernel
theorem dX8_goOn_29 : decode cX8_goOn 29 = .ok (.imul, 1) := by decide +kernel
theorem dX8_goOn_30 : decode cX8_goOn 30 = .ok (.iload_n 2, 1) := by decide +kernel
theorem dX8_goOn_31 : decode cX8_goOn 31 = .ok (.iadd, 1) := by decide +kernel
theorem dX8_goOn_32 : decode cX8_goOn 32 = .ok (.iaload, 1) := by decide +kernel
theorem dX8_goOn_33 : decode cX8_goOn 33 = .ok (.ifCond .le 25, 3) := by decide +kernel
theorem dX8_goOn_36 : decode cX8_goOn 36 = .ok (.aload_n 0, 1) := by decide +kernel
theorem dX8_goOn_37 : decode cX8_goOn 37 = .ok (.getfield 9, 3) := by decide +kernel
theorem dX8_goOn_40 : decode cX8_goOn 40 = .ok (.iload_n 1, 1) := by decide +kernel
theorem dX8_goOn_41 : decode cX8_goOn 41 = .ok (.bipush 8, 2) := by decide +kernel
theorem dX8_goOn_43 : decode cX8_goOn 43 = .ok (.imul, 1) := by decide +kernel
theorem dX8_goOn_44 : decode cX8_goOn 44 = .ok (.iload_n 2, 1) := by decide +kernel
theorem dX8_goOn_45 : decode cX8_goOn 45 = .ok (.iadd, 1) := by decide +kernel
theorem dX8_goOn_46 : decode cX8_goOn 46 = .ok (.dup2, 1) := by decide +kernel
theorem dX8_goOn_47 : decode cX8_goOn 47 = .ok (.iaload, 1) := by decide +kernel
theorem dX8_goOn_48 : decode cX8_goOn 48 = .ok (.iconst 1, 1) := by decide +kernel
theorem dX8_goOn_49 : decode cX8_goOn 49 = .ok (.isub, 1) := by decide +kernel
theorem dX8_goOn_50 : decode cX8_goOn 50 = .ok (.iastore, 1) := by decide +kernel
theorem dX8_goOn_51 : decode cX8_goOn 51 = .ok (.aload_n 0, 1) := by decide +kernel
theorem dX8_goOn_52 : decode cX8_goOn 52 = .ok (.iload_n 1, 1) := by decide +kernel
theorem dX8_goOn_53 : decode cX8_goOn 53 = .ok (.iload_n 2, 1) := by decide +kernel
theorem dX8_goOn_54 : decode cX8_goOn 54 = .ok (.invokevirtual 42, 3) := by decide +kernel
theorem dX8_goOn_57 : decode cX8_goOn 57 = .ok (.return_, 1) := by decide +kernel
theorem dX8_goOn_58 : decode cX8_goOn 58 = .ok (.iinc 2 (-1), 3) := by decide +kernel
theorem dX8_goOn_61 : decode cX8_goOn 61 = .ok (.goto (-43), 3) := by decide +kernel
theorem dX8_goOn_64 : decode cX8_goOn 64 = .ok (.iinc 1 (-1), 3) := by decide +kernel
theorem dX8_goOn_67 : decode cX8_goOn 67 = .ok (.goto (-60), 3) := by decide +kernel
theorem dX8_goOn_70 : decode cX8_goOn 70 = .ok (.return_, 1) := by decide +kernel
theorem dX8_handOn_0 : decode cX8_handOn 0 = .ok (.iconst 0, 1) := by decide +kernel
theorem dX8_handOn_1 : decode cX8_handOn 1 = .ok (.istore_n 3, 1) := by decide +kernel
theorem dX8_handOn_2 : decode cX8_handOn 2 = .ok (.iload_n 3, 1) := by decide +kernel
theorem dX8_handOn_3 : decode cX8_handOn 3 = .ok (.aload_n 0, 1) := by decide +kernel
theorem dX8_handOn_4 : decode cX8_handOn 4 = .ok (.getfield 34, 3) := by decide +kernel
theorem dX8_handOn_7 : decode cX8_handOn 7 = .ok (.if_icmp .ge 104, 3) := by decide +kernel
theorem dX8_handOn_10 : decode cX8_handOn 10 = .ok (.iload_n 3, 1) := by decide +kernel
theorem dX8_handOn_11 : decode cX8_handOn 11 = .ok (.iload_n 2, 1) := by decide +kernel
theorem dX8_handOn_12 : decode cX8_handOn 12 = .ok (.if_icmp .gt 9, 3) := by decide +kernel
theorem dX8_handOn_15 : decode cX8_handOn 15 = .ok (.iload_n 1, 1) := by decide +kernel
theorem dX8_handOn_16 : decode cX8_handOn 16 = .ok (.iconst 1, 1) := by decide +kernel
theorem dX8_handOn_17 : decode cX8_handOn 17 = .ok (.iadd, 1) := by decide +kernel
theorem dX8_handOn_18 : decode cX8_handOn 18 = .ok (.goto 4, 3) := by decide +kernel
theorem dX8_handOn_21 : decode cX8_handOn 21 = .ok (.iload_n 1, 1) := by decide +kernel
theorem dX8_handOn_22 : decode cX8_handOn 22 = .ok (.istore 4, 2) := by decide +kernel
theorem dX8_handOn_24 : decode cX8_handOn 24 = .ok (.aload_n 0, 1) := by decide +kernel
theorem dX8_handOn_25 : decode cX8_handOn 25 = .ok (.getfield 15, 3) := by decide +kernel
theorem dX8_handOn_28 : decode cX8_handOn 28 = .ok (.iload_n 3, 1) := by decide +kernel
theorem dX8_handOn_29 : decode cX8_handOn 29 = .ok (.iaload, 1) := by decide +kernel
theorem dX8_handOn_30 : decode cX8_handOn 30 = .ok (.istore 5, 2) := by decide +kernel
theorem dX8_handOn_32 : decode cX8_handOn 32 = .ok (.iconst 0, 1) := by decide +kernel
theorem dX8_handOn_33 : decode cX8_handOn 33 = .ok (.istore 6, 2) := by decide +kernel
theorem dX8_handOn_35 : decode cX8_handOn 35 = .ok (.iload 6, 2) := by decide +kernel
theorem dX8_handOn_37 : decode cX8_handOn 37 = .ok (.aload_n 0, 1) := by decide +kernel
theorem dX8_handOn_38 : decode cX8_handOn 38 = .ok (.getfield 30, 3) := by decide +kernel
theorem dX8_handOn_41 : decode cX8_handOn 41 = .ok (.if_icmp .ge 64, 3) := by decide +kernel
theorem dX8_handOn_44 : decode cX8_handOn 44 = .ok (.iload 6, 2) := by decide +kernel
theorem dX8_handOn_46 : decode cX8_handOn 46 = .ok (.bipush 8, 2) := by decide +kernel
theorem dX8_handOn_48 : decode cX8_handOn 48 = .ok (.imul, 1) := by decide +kernel
theorem dX8_handOn_49 : decode cX8_handOn 49 = .ok (.iload_n 3, 1) := by decide +kernel
theorem dX8_handOn_50 : decode cX8_handOn 50 = .ok (.iadd, 1) := by decide +kernel
theorem dX8_handOn_51 : decode cX8_handOn 51 = .ok (.istore 7, 2) := by decide +kernel
theorem dX8_handOn_53 : decode cX8_handOn 53 = .ok (.iload 6, 2) := by decide +kernel
theorem dX8_handOn_55 : decode cX8_handOn 55 = .ok (.iload 4, 2) := by decide +kernel
theorem dX8_handOn_57 : decode cX8_handOn 57 = .ok (.if_icmp .ne 15, 3) := by decide +kernel
theorem dX8_handOn_60 : decode cX8_handOn 60 = .ok (.aload_n 0, 1) := by decide +kernel
theorem dX8_handOn_61 : decode cX8_handOn 61 = .ok (.getfield 9, 3) := by decide +kernel
theorem dX8_handOn_64 : decode cX8_handOn 64 = .ok (.iload 7, 2) := by decide +kernel
theorem dX8_handOn_66 : decode cX8_handOn 66 = .ok (.iload 5, 2) := by decide +kernel
theorem dX8_handOn_68 : decode cX8_handOn 68 = .ok (.iastore, 1) := by decide +kernel
theorem dX8_handOn_69 : decode cX8_handOn 69 = .ok (.goto 18, 3) := by decide +kernel
theorem dX8_handOn_72 : decode cX8_handOn 72 = .ok (.iload 6, 2) := by decide +kernel
theorem dX8_handOn_74 : decode cX8_handOn 74 = .ok (.iload 4, 2) := by decide +kernel
theorem dX8_handOn_76 : decode cX8_handOn 76 = .ok (.if_icmp .le 11, 3) := by decide +kernel
theorem dX8_handOn_79 : decode cX8_handOn 79 = .ok (.aload_n 0, 1) := by decide +kernel
theorem dX8_handOn_80 : decode cX8_handOn 80 = .ok (.getfield 9, 3) := by decide +kernel
theorem dX8_handOn_83 : decode cX8_handOn 83 = .ok (.iload 7, 2) := by decide +kernel
theorem dX8_handOn_85 : decode cX8_handOn 85 = .ok (.iconst 0, 1) := by decide +kernel
theorem dX8_handOn_86 : decode cX8_handOn 86 = .ok (.iastore, 1) := by decide +kernel
theorem dX8_handOn_87 : decode cX8_handOn 87 = .ok (.iload 5, 2) := by decide +kernel
theorem dX8_handOn_89 : decode cX8_handOn 89 = .ok (.aload_n 0, 1) := by decide +kernel
theorem dX8_handOn_90 : decode cX8_handOn 90 = .ok (.getfield 9, 3) := by decide +kernel
theorem dX8_handOn_93 : decode cX8_handOn 93 = .ok (.iload 7, 2) := by decide +kernel
theorem dX8_handOn_95 : decode cX8_handOn 95 = .ok (.iaload, 1) := by decide +kernel
theorem dX8_handOn_96 : decode cX8_handOn 96 = .ok (.isub, 1) := by decide +kernel
theorem dX8_handOn_97 : decode cX8_handOn 97 = .ok (.istore 5, 2) := by decide +kernel
theorem dX8_handOn_99 : decode cX8_handOn 99 = .ok (.iinc 6 1, 3) := by decide +kernel
theorem dX8_handOn_102 : decode cX8_handOn 102 = .ok (.goto (-67), 3) := by decide +kernel
theorem dX8_handOn_105 : decode cX8_handOn 105 = .ok (.iinc 3 1, 3) := by decide +kernel
theorem dX8_handOn_108 : decode cX8_handOn 108 = .ok (.goto (-106), 3) := by decide +kernel
theorem dX8_handOn_111 : decode cX8_handOn 111 = .ok (.return_, 1) := by decide +kernel
theorem dX9_init_0 : decode cX9_init 0 = .ok (.aload_n 0, 1) := by decide +kernel
theorem dX9_init_1 : decode cX9_init 1 = .ok (.invokespecial 3, 3) := by decide +kernel
theorem dX9_init_4 : decode cX9_init 4 = .ok (.aload_n 0, 1) := by decide +kernel
theorem dX9_init_5 : decode cX9_init 5 = .ok (.sipush 701, 3) := by decide +kernel
theorem dX9_init_8 : decode cX9_init 8 = .ok (.newarray .int, 2) := by decide +kernel
theorem dX9_init_10 : decode cX9_init 10 = .ok (.putfield 9, 3) := by decide +kernel
theorem dX9_init_13 : decode cX9_init 13 = .ok (.aload_n 0, 1) := by decide +kernel
theorem dX9_init_14 : decode cX9_init 14 = .ok (.sipush 701, 3) := by decide +kernel
theorem dX9_init_17 : decode cX9_init 17 = .ok (.newarray .int, 2) := by decide +kernel
theorem dX9_init_19 : decode cX9_init 19 = .ok (.putfield 15, 3) := by decide +kernel
theorem dX9_init_22 : decode cX9_init 22 = .ok (.aload_n 0, 1) := by decide +kernel
theorem dX9_init_23 : decode cX9_init 23 = .ok (.sipush 701, 3) := by decide +kernel
theorem dX9_init_26 : decode cX9_init 26 = .ok (.newarray .int, 2) := by decide +kernel
theorem dX9_init_28 : decode cX9_init 28 = .ok (.putfield 18, 3) := by decide +kernel
theorem dX9_init_31 : decode cX9_init 31 = .ok (.aload_n 0, 1) := by decide +kernel
theorem dX9_init_32 : decode cX9_init 32 = .ok (.aload_n 1, 1) := by decide +kernel
theorem dX9_init_33 : decode cX9_init 33 = .ok (.putfield 21, 3) := by decide +kernel
theorem dX9_init_36 : decode cX9_init 36 = .ok (.return_, 1) := by decide +kernel
theorem dX9_cut_0 : decode cX9_cut 0 = .ok (.aload_n 0, 1) := by decide +kernel
theorem dX9_cut_1 : decode cX9_cut 1 = .ok (.iload_n 1, 1) := by decide +kernel
theorem dX9_cut_2 : decode cX9_cut 2 = .ok (.aload_n 0, 1) := by decide +kernel
theorem dX9_cut_3 : decode cX9_cut 3 = .ok (.getfield 21, 3) := by decide +kernel
theorem dX9_cut_6 : decode cX9_cut 6 = .ok (.arraylength, 1) := by decide +kernel
theorem dX9_cut_7 : decode cX9_cut 7 = .ok (.if_icmp .ge 7, 3) := by decide +kernel
theorem dX9_cut_10 : decode cX9_cut 10 = .ok (.iload_n 1, 1) := by decide +kernel
theorem dX9_cut_11 : decode cX9_cut 11 = .ok (.goto 8, 3) := by decide +kernel
theorem dX9_cut_14 : decode cX9_cut 14 = .ok (.aload_n 0, 1) := by decide +kernel
theorem dX9_cut_15 : decode cX9_cut 15 = .ok (.getfield 21, 3) := by decide +kernel
theorem dX9_cut_18 : decode cX9_cut 18 = .ok (.arraylength, 1) := by decide +kernel
theorem dX9_cut_19 : decode cX9_cut 19 = .ok (.putfield 25, 3) := by decide +kernel
theorem dX9_cut_22 : decode cX9_cut 22 = .ok (.aload_n 0, 1) := by decide +kernel
theorem dX9_cut_23 : decode cX9_cut 23 = .ok (.iconst 0, 1) := by decide +kernel
theorem dX9_cut_24 : decode cX9_cut 24 = .ok (.putfield 29, 3) := by decide +kernel
theorem dX9_cut_27 : decode cX9_cut 27 = .ok (.aload_n 0, 1) := by decide +kernel
theorem dX9_cut_28 : decode cX9_cut 28 = .ok (.iconst 0, 1) := by decide +kernel
theorem dX9_cut_29 : decode cX9_cut 29 = .ok (.putfield 32, 3) := by decide +kernel
theorem dX9_cut_32 : decode cX9_cut 32 = .ok (.aload_n 0, 1) := by decide +kernel
theorem dX9_cut_33 : decode cX9_cut 33 = .ok (.invokevirtual 35, 3) := by decide +kernel
theorem dX9_cut_36 : decode cX9_cut 36 = .ok (.aload_n 0, 1) := by decide +kernel
theorem dX9_cut_37 : decode cX9_cut 37 = .ok (.getfield 29, 3) := by decide +kernel
theorem dX9_cut_40 : decode cX9_cut 40 = .ok (.aload_n 0, 1) := by decide +kernel
theorem dX9_cut_41 : decode cX9_cut 41 = .ok (.getfield 25, 3) := by decide +kernel
theorem dX9_cut_44 : decode cX9_cut 44 = .ok (.if_icmp .ge 56, 3) := by decide +kernel
theorem dX9_cut_47 : decode cX9_cut 47 = .ok (.aload_n 0, 1) := by decide +kernel
theorem dX9_cut_48 : decode cX9_cut 48 = .ok (.getfield 32, 3) := by decide +kernel
theorem dX9_cut_51 : decode cX9_cut 51 = .ok (.sipush 700, 3) := by decide +kernel
theorem dX9_cut_54 : decode cX9_cut 54 = .ok (.if_icmp .ge 46, 3) := by decide +kernel
theorem dX9_cut_57 : decode cX9_cut 57 = .ok (.aload_n 0, 1) := by decide +kernel
theorem dX9_cut_58 : decode cX9_cut 58 = .ok (.getfield 15, 3) := by decide +kernel
theorem dX9_cut_61 : decode cX9_cut 61 = .ok (.aload_n 0, 1) := by decide +kernel
theorem dX9_cut_62 : decode cX9_cut 62 = .ok (.getfield 32, 3) := by decide +kernel
theorem dX9_cut_65 : decode cX9_cut 65 = .ok (.aload_n 0, 1) := by decide +kernel
theorem dX9_cut_66 : decode cX9_cut 66 = .ok (.getfield 29, 3) := by decide +kernel
theorem dX9_cut_69 : decode cX9_cut 69 = .ok (.iastore, 1) := by decide +kernel
theorem dX9_cut_70 : decode cX9_cut 70 = .ok (.aload_n 0, 1) := by decide +kernel
theorem dX9_cut_71 : decode cX9_cut 71 = .ok (.getfield 9, 3) := by decide +kernel
theorem dX9_cut_74 : decode cX9_cut 74 = .ok (.aload_n 0, 1) := by decide +kernel
theorem dX9_cut_75 : decode cX9_cut 75 = .ok (.getfield 32, 3) := by decide +kernel
theorem dX9_cut_78 : decode cX9_cut 78 = .ok (.aload_n 0, 1) := by decide +kernel
theorem dX9_cut_79 : decode cX9_cut 79 = .ok (.invokevirtual 38, 3) := by decide +kernel
theorem dX9_cut_82 : decode cX9_cut 82 = .ok (.iastore, 1) := by decide +kernel
theorem dX9_cut_83 : decode cX9_cut 83 = .ok (.aload_n 0, 1) := by decide +kernel
theorem dX9_cut_84 : decode cX9_cut 84 = .ok (.dup, 1) := by decide +kernel
theorem dX9_cut_85 : decode cX9_cut 85 = .ok (.getfield 32, 3) := by decide +kernel
theorem dX9_cut_88 : decode cX9_cut 88 = .ok (.iconst 1, 1) := by decide +kernel
theorem dX9_cut_89 : decode cX9_cut 89 = .ok (.iadd, 1) := by decide +kernel
theorem dX9_cut_90 : decode cX9_cut 90 = .ok (.putfield 32, 3) := by decide +kernel
theorem dX9_cut_93 : decode cX9_cut 93 = .ok (.aload_n 0, 1) := by decide +kernel
theorem dX9_cut_94 : decode cX9_cut 94 = .ok (.invokevirtual 35, 3) := by decide +kernel
theorem dX9_cut_97 : decode cX9_cut 97 = .ok (.goto (-61), 3) := by decide +kernel
theorem dX9_cut_100 : decode cX9_cut 100 = .ok (.aload_n 0, 1) := by decide +kernel
theorem dX9_cut_101 : decode cX9_cut 101 = .ok (.getfield 15, 3) := by decide +kernel
theorem dX9_cut_104 : decode cX9_cut 104 = .ok (.aload_n 0, 1) := by decide +kernel
theorem dX9_cut_105 : decode cX9_cut 105 = .ok (.getfield 32, 3) := by decide +kernel
theorem dX9_cut_108 : decode cX9_cut 108 = .ok (.aload_n 0, 1) := by decide +kernel
theorem dX9_cut_109 : decode cX9_cut 109 = .ok (.getfield 25, 3) := by decide +kernel
theorem dX9_cut_112 : decode cX9_cut 112 = .ok (.iastore, 1) := by decide +kernel
theorem dX9_cut_113 : decode cX9_cut 113 = .ok (.aload_n 0, 1) := by decide +kernel
theorem dX9_cut_114 : decode cX9_cut 114 = .ok (.getfield 9, 3) := by decide +kernel
theorem dX9_cut_117 : decode cX9_cut 117 = .ok (.aload_n 0, 1) := by decide +kernel
theorem dX9_cut_118 : decode cX9_cut 118 = .ok (.getfield 32, 3) := by decide +kernel
theorem dX9_cut_121 : decode cX9_cut 121 = .ok (.iconst 0, 1) := by decide +kernel
theorem dX9_cut_122 : decode cX9_cut 122 = .ok (.iastore, 1) := by decide +kernel
theorem dX9_cut_123 : decode cX9_cut 123 = .ok (.return_, 1) := by decide +kernel
theorem dX9_passBlanks_0 : decode cX9_passBlanks 0 = .ok (.aload_n 0, 1) := by decide +kernel
theorem dX9_passBlanks_1 : decode cX9_passBlanks 1 = .ok (.getfield 29, 3) := by decide +kernel
theorem dX9_passBlanks_4 : decode cX9_passBlanks 4 = .ok (.aload_n 0, 1) := by decide +kernel
theorem dX9_passBlanks_5 : decode cX9_passBlanks 5 = .ok (.getfield 25, 3) := by decide +kernel
theorem dX9_passBlanks_8 : decode cX9_passBlanks 8 = .ok (.if_icmp .ge 44, 3) := by decide +kernel
theorem dX9_passBlanks_11 : decode cX9_passBlanks 11 = .ok (.aload_n 0, 1) := by decide +kernel
theorem dX9_passBlanks_12 : decode cX9_passBlanks 12 = .ok (.getfield 21, 3) := by decide +kernel
theorem dX9_passBlanks_15 : decode cX9_passBlanks 15 = .ok (.aload_n 0, 1) := by decide +kernel
theorem dX9_passBlanks_16 : decode cX9_passBlanks 16 = .ok (.getfield 29, 3) := by decide +kernel
theorem dX9_passBlanks_19 : decode cX9_passBlanks 19 = .ok (.baload, 1) := by decide +kernel
theorem dX9_passBlanks_20 : decode cX9_passBlanks 20 = .ok (.bipush 32, 2) := by decide +kernel
theorem dX9_passBlanks_22 : decode cX9_passBlanks 22 = .ok (.if_icmp .eq 17, 3) := by decide +kernel
theorem dX9_passBlanks_25 : decode cX9_passBlanks 25 = .ok (.aload_n 0, 1) := by decide +kernel
theorem dX9_passBlanks_26 : decode cX9_passBlanks 26 = .ok (.getfield 21, 3) := by decide +kernel
theorem dX9_passBlanks_29 : decode cX9_passBlanks 29 = .ok (.aload_n 0, 1) := by decide +kernel
theorem dX9_passBlanks_30 : decode cX9_passBlanks 30 = .ok (.getfield 29, 3) := by decide +kernel
theorem dX9_passBlanks_33 : decode cX9_passBlanks 33 = .ok (.baload, 1) := by decide +kernel
theorem dX9_passBlanks_34 : decode cX9_passBlanks 34 = .ok (.bipush 10, 2) := by decide +kernel
theorem dX9_passBlanks_36 : decode cX9_passBlanks 36 = .ok (.if_icmp .ne 16, 3) := by decide +kernel
theorem dX9_passBlanks_39 : decode cX9_passBlanks 39 = .ok (.aload_n 0, 1) := by decide +kernel
theorem dX9_passBlanks_40 : decode cX9_passBlanks 40 = .ok (.dup, 1) := by decide +kernel
theorem dX9_passBlanks_41 : decode cX9_passBlanks 41 = .ok (.getfield 29, 3) := by decide +kernel
theorem dX9_passBlanks_44 : decode cX9_passBlanks 44 = .ok (.iconst 1, 1) := by decide +kernel
theorem dX9_passBlanks_45 : decode cX9_passBlanks 45 = .ok (.iadd, 1) := by decide +kernel
theorem dX9_passBlanks_46 : decode cX9_passBlanks 46 = .ok (.putfield 29, 3) := by decide +kernel
theorem dX9_passBlanks_49 : decode cX9_passBlanks 49 = .ok (.goto (-49), 3) := by decide +kernel
theorem dX9_passBlanks_52 : decode cX9_passBlanks 52 = .ok (.return_, 1) := by decide +kernel
theorem dX9_takeToken_0 : decode cX9_takeToken 0 = .ok (.aload_n 0, 1) := by decide +kernel
theorem dX9_takeToken_1 : decode cX9_takeToken 1 = .ok (.getfield 21, 3) := by decide +kernel
theorem dX9_takeToken_4 : decode cX9_takeToken 4 = .ok (.aload_n 0, 1) := by decide +kernel
theorem dX9_takeToken_5 : decode cX9_takeToken 5 = .ok (.getfield 29, 3) := by decide +kernel
theorem dX9_takeToken_8 : decode cX9_takeToken 8 = .ok (.baload, 1) := by decide +kernel
theorem dX9_takeToken_9 : decode cX9_takeToken 9 = .ok (.istore_n 1, 1) := by decide +kernel
theorem dX9_takeToken_10 : decode cX9_takeToken 10 = .ok (.iload_n 1, 1) := by decide +kernel
theorem dX9_takeToken_11 : decode cX9_takeToken 11 = .ok (.bipush 48, 2) := by decide +kernel
theorem dX9_takeToken_13 : decode cX9_takeToken 13 = .ok (.if_icmp .lt 14, 3) := by decide +kernel
theorem dX9_takeToken_16 : decode cX9_takeToken 16 = .ok (.iload_n 1, 1) := by decide +kernel
theorem dX9_takeToken_17 : decode cX9_takeToken 17 = .ok (.bipush 57, 2) := by decide +kernel
theorem dX9_takeToken_19 : decode cX9_takeToken 19 = .ok (.if_icmp .gt 8, 3) := by decide +kernel
theorem dX9_takeToken_22 : decode cX9_takeToken 22 = .ok (.aload_n 0, 1) := by decide +kernel
theorem dX9_takeToken_23 : decode cX9_takeToken 23 = .ok (.invokevirtual 42, 3) := by decide +kernel
theorem dX9_takeToken_26 : decode cX9_takeToken 26 = .ok (.ireturn, 1) := by decide +kernel
theorem dX9_takeToken_27 : decode cX9_takeToken 27 = .ok (.iload_n 1, 1) := by decide +kernel
theorem dX9_takeToken_28 : decode cX9_takeToken 28 = .ok (.bipush 97, 2) := by decide +kernel
theorem dX9_takeToken_30 : decode cX9_takeToken 30 = .ok (.if_icmp .lt 14, 3) := by decide +kernel
theorem dX9_takeToken_33 : decode cX9_takeToken 33 = .ok (.iload_n 1, 1) := by decide +kernel
theorem dX9_takeToken_34 : decode cX9_takeToken 34 = .ok (.bipush 122, 2) := by decide +kernel
theorem dX9_takeToken_36 : decode cX9_takeToken 36 = .ok (.if_icmp .gt 8, 3) := by decide +kernel
theorem dX9_takeToken_39 : decode cX9_takeToken 39 = .ok (.aload_n 0, 1) := by decide +kernel
theorem dX9_takeToken_40 : decode cX9_takeToken 40 = .ok (.invokevirtual 45, 3) := by decide +kernel
theorem dX9_takeToken_43 : decode cX9_takeToken 43 = .ok (.ireturn, 1) := by decide +kernel
theorem dX9_takeToken_44 : decode cX9_takeToken 44 = .ok (.aload_n 0, 1) := by decide +kernel
theorem dX9_takeToken_45 : decode cX9_takeToken 45 = .ok (.dup, 1) := by decide +kernel
theorem dX9_takeToken_46 : decode cX9_takeToken 46 = .ok (.getfield 29, 3) := by decide +kernel
theorem dX9_takeToken_49 : decode cX9_takeToken 49 = .ok (.iconst 1, 1) := by decide +kernel
theorem dX9_takeToken_50 : decode cX9_takeToken 50 = .ok (.iadd, 1) := by decide +kernel
theorem dX9_takeToken_51 : decode cX9_takeToken 51 = .ok (.putfield 29, 3) := by decide +kernel
theorem dX9_takeToken_54 : decode cX9_takeToken 54 = .ok (.iload_n 1, 1) := by decide +kernel
theorem dX9_takeToken_55 : decode cX9_takeToken 55 = .ok (.bipush 59, 2) := by decide +kernel
theorem dX9_takeToken_57 : decode cX9_takeToken 57 = .ok (.if_icmp .ne 7, 3) := by decide +kernel
theorem dX9_takeToken_60 : decode cX9_takeToken 60 = .ok (.iconst 1, 1) := by decide +kernel
theorem dX9_takeToken_61 : decode cX9_takeToken 61 = .ok (.goto 4, 3) := by decide +kernel
theorem dX9_takeToken_64 : decode cX9_takeToken 64 = .ok (.iconst 3, 1) := by decide +kernel
theorem dX9_takeToken_65 : decode cX9_takeToken 65 = .ok (.ireturn, 1) := by decide +kernel
theorem dX9_takeNumber_0 : decode cX9_takeNumber 0 = .ok (.aload_n 0, 1) := by decide +kernel
theorem dX9_takeNumber_1 : decode cX9_takeNumber 1 = .ok (.getfield 29, 3) := by decide +kernel
theorem dX9_takeNumber_4 : decode cX9_takeNumber 4 = .ok (.istore_n 1, 1) := by decide +kernel
theorem dX9_takeNumber_5 : decode cX9_takeNumber 5 = .ok (.iconst 0, 1) := by decide +kernel
theorem dX9_takeNumber_6 : decode cX9_takeNumber 6 = .ok (.istore_n 2, 1) := by decide +kernel
theorem dX9_takeNumber_7 : decode cX9_takeNumber 7 = .ok (.aload_n 0, 1) := by decide +kernel
theorem dX9_takeNumber_8 : decode cX9_takeNumber 8 = .ok (.getfield 29, 3) := by decide +kernel
theorem dX9_takeNumber_11 : decode cX9_takeNumber 11 = .ok (.aload_n 0, 1) := by decide +kernel
theorem dX9_takeNumber_12 : decode cX9_takeNumber 12 = .ok (.getfield 25, 3) := by decide +kernel
theorem dX9_takeNumber_15 : decode cX9_takeNumber 15 = .ok (.if_icmp .ge 72, 3) := by decide +kernel
theorem dX9_takeNumber_18 : decode cX9_takeNumber 18 = .ok (.aload_n 0, 1) := by decide +kernel
theorem dX9_takeNumber_19 : decode cX9_takeNumber 19 = .ok (.getfield 21, 3) := by decide +kernel
theorem dX9_takeNumber_22 : decode cX9_takeNumber 22 = .ok (.aload_n 0, 1) := by decide +kernel
theorem dX9_takeNumber_23 : decode cX9_takeNumber 23 = .ok (.getfield 29, 3) := by decide +kernel
theorem dX9_takeNumber_26 : decode cX9_takeNumber 26 = .ok (.baload, 1) := by decide +kernel
theorem dX9_takeNumber_27 : decode cX9_takeNumber 27 = .ok (.bipush 48, 2) := by decide +kernel
theorem dX9_takeNumber_29 : decode cX9_takeNumber 29 = .ok (.if_icmp .lt 58, 3) := by decide +kernel
theorem dX9_takeNumber_32 : decode cX9_takeNumber 32 = .ok (.aload_n 0, 1) := by decide +kernel
theorem dX9_takeNumber_33 : decode cX9_takeNumber 33 = .ok (.getfield 21, 3) := by decide +kernel
theorem dX9_takeNumber_36 : decode cX9_takeNumber 36 = .ok (.aload_n 0, 1) := by decide +kernel
theorem dX9_takeNumber_37 : decode cX9_takeNumber 37 = .ok (.getfield 29, 3) := by decide +kernel
theorem dX9_takeNumber_40 : decode cX9_takeNumber 40 = .ok (.baload, 1) := by decide +kernel
theorem dX9_takeNumber_41 : decode cX9_takeNumber 41 = .ok (.bipush 57, 2) := by decide +kernel
theorem dX9_takeNumber_43 : decode cX9_takeNumber 43 = .ok (.if_icmp .gt 44, 3) := by decide +kernel
theorem dX9_takeNumber_46 : decode cX9_takeNumber 46 = .ok (.aload_n 0, 1) := by decide +kernel
theorem dX9_takeNumber_47 : decode cX9_takeNumber 47 = .ok (.getfield 29, 3) := by decide +kernel
theorem dX9_takeNumber_50 : decode cX9_takeNumber 50 = .ok (.iload_n 1, 1) := by decide +kernel
theorem dX9_takeNumber_51 : decode cX9_takeNumber 51 = .ok (.isub, 1) := by decide +kernel
theorem dX9_takeNumber_52 : decode cX9_takeNumber 52 = .ok (.iconst 4, 1) := by decide +kernel
theorem dX9_takeNumber_53 : decode cX9_takeNumber 53 = .ok (.if_icmp .ge 21, 3) := by decide +kernel
theorem dX9_takeNumber_56 : decode cX9_takeNumber 56 = .ok (.iload_n 2, 1) := by decide +kernel
theorem dX9_takeNumber_57 : decode cX9_takeNumber 57 = .ok (.bipush 10, 2) := by decide +kernel
theorem dX9_takeNumber_59 : decode cX9_takeNumber 59 = .ok (.imul, 1) := by decide +kernel
theorem dX9_takeNumber_60 : decode cX9_takeNumber 60 = .ok (.aload_n 0, 1) := by decide +kernel
theorem dX9_takeNumber_61 : decode cX9_takeNumber 61 = .ok (.getfield 21, 3) := by decide +kernel
theorem dX9_takeNumber_64 : decode cX9_takeNumber 64 = .ok (.aload_n 0, 1) := by decide +kernel
theorem dX9_takeNumber_65 : decode cX9_takeNumber 65 = .ok (.getfield 29, 3) := by decide +kernel
theorem dX9_takeNumber_68 : decode cX9_takeNumber 68 = .ok (.baload, 1) := by decide +kernel
theorem dX9_takeNumber_69 : decode cX9_takeNumber 69 = .ok (.iadd, 1) := by decide +kernel
theorem dX9_takeNumber_70 : decode cX9_takeNumber 70 = .ok (.bipush 48, 2) := by decide +kernel
theorem dX9_takeNumber_72 : decode cX9_takeNumber 72 = .ok (.isub, 1) := by decide +kernel
theorem dX9_takeNumber_73 : decode cX9_takeNumber 73 = .ok (.istore_n 2, 1) := by decide +kernel
theorem dX9_takeNumber_74 : decode cX9_takeNumber 74 = .ok (.aload_n 0, 1) := by decide +kernel
theorem dX9_takeNumber_75 : decode cX9_takeNumber 75 = .ok (.dup, 1) := by decide +kernel
theorem dX9_takeNumber_76 : decode cX9_takeNumber 76 = .ok (.getfield 29, 3) := by decide +kernel
theorem dX9_takeNumber_79 : decode cX9_takeNumber 79 = .ok (.iconst 1, 1) := by decide +kernel
theorem dX9_takeNumber_80 : decode cX9_takeNumber 80 = .ok (.iadd, 1) := by decide +kernel
theorem dX9_takeNumber_81 : decode cX9_takeNumber 81 = .ok (.putfield 29, 3) := by decide +kernel
theorem dX9_takeNumber_84 : decode cX9_takeNumber 84 = .ok (.goto (-77), 3) := by decide +kernel
theorem dX9_takeNumber_87 : decode cX9_takeNumber 87 = .ok (.aload_n 0, 1) := by decide +kernel
theorem dX9_takeNumber_88 : decode cX9_takeNumber 88 = .ok (.getfield 18, 3) := by decide +kernel
theorem dX9_takeNumber_91 : decode cX9_takeNumber 91 = .ok (.aload_n 0, 1) := by decide +kernel
theorem dX9_takeNumber_92 : decode cX9_takeNumber 92 = .ok (.getfield 32, 3) := by decide +kernel
theorem dX9_takeNumber_95 : decode cX9_takeNumber 95 = .ok (.aload_n 0, 1) := by decide +kernel
theorem dX9_takeNumber_96 : decode cX9_takeNumber 96 = .ok (.getfield 29, 3) := by decide +kernel
theorem dX9_takeNumber_99 : decode cX9_takeNumber 99 = .ok (.iload_n 1, 1) := by decide +kernel
theorem dX9_takeNumber_100 : decode cX9_takeNumber 100 = .ok (.isub, 1) := by decide +kernel
theorem dX9_takeNumber_101 : decode cX9_takeNumber 101 = .ok (.iconst 4, 1) := by decide +kernel
theorem dX9_takeNumber_102 : decode cX9_takeNumber 102 = .ok (.if_icmp .le 7, 3) := by decide +kernel
theorem dX9_takeNumber_105 : decode cX9_takeNumber 105 = .ok (.iconst (-1), 1) := by decide +kernel
theorem dX9_takeNumber_106 : decode cX9_takeNumber 106 = .ok (.goto 4, 3) := by decide +kernel
theorem dX9_takeNumber_109 : decode cX9_takeNumber 109 = .ok (.iload_n 2, 1) := by decide +kernel
theorem dX9_takeNumber_110 : decode cX9_takeNumber 110 = .ok (.iastore, 1) := by decide +kernel
theorem dX9_takeNumber_111 : decode cX9_takeNumber 111 = .ok (.iconst 2, 1) := by decide +kernel
theorem dX9_takeNumber_112 : decode cX9_takeNumber 112 = .ok (.ireturn, 1) := by decide +kernel
theorem dX9_takeWord_0 : decode cX9_takeWord 0 = .ok (.aload_n 0, 1) := by decide +kernel
theorem dX9_takeWord_1 : decode cX9_takeWord 1 = .ok (.getfield 29, 3) := by decide +kernel
theorem dX9_takeWord_4 : decode cX9_takeWord 4 = .ok (.istore_n 1, 1) := by decide +kernel
theorem dX9_takeWord_5 : decode cX9_takeWord 5 = .ok (.aload_n 0, 1) := by decide +kernel
theorem dX9_takeWord_6 : decode cX9_takeWord 6 = .ok (.getfield 29, 3) := by decide +kernel
theorem dX9_takeWord_9 : decode cX9_takeWord 9 = .ok (.aload_n 0, 1) := by decide +kernel
theorem dX9_takeWord_10 : decode cX9_takeWord 10 = .ok (.getfield 25, 3) := by decide +kernel
theorem dX9_takeWord_13 : decode cX9_takeWord 13 = .ok (.if_icmp .ge 44, 3) := by decide +kernel
theorem dX9_takeWord_16 : decode cX9_takeWord 16 = .ok (.aload_n 0, 1) := by decide +kernel
theorem dX9_takeWord_17 : decode cX9_takeWord 17 = .ok (.getfield 21, 3) := by decide +kernel
theorem dX9_takeWord_20 : decode cX9_takeWord 20 = .ok (.aload_n 0, 1) := by decide +kernel
theorem dX9_takeWord_21 : decode cX9_takeWord 21 = .ok (.getfield 29, 3) := by decide +kernel
theorem dX9_takeWord_24 : decode cX9_takeWord 24 = .ok (.baload, 1) := by decide +kernel
theorem dX9_takeWord_25 : decode cX9_takeWord 25 = .ok (.bipush 97, 2) := by decide +kernel
theorem dX9_takeWord_27 : decode cX9_takeWord 27 = .ok (.if_icmp .lt 30, 3) := by decide +kernel
theorem dX9_takeWord_30 : decode cX9_takeWord 30 = .ok (.aload_n 0, 1) := by decide +kernel
theorem dX9_takeWord_31 : decode cX9_takeWord 31 = .ok (.getfield 21, 3) := by decide +kernel
theorem dX9_takeWord_34 : decode cX9_takeWord 34 = .ok (.aload_n 0, 1) := by decide +kernel
theorem dX9_takeWord_35 : decode cX9_takeWord 35 = .ok (.getfield 29, 3) := by decide +kernel
theorem dX9_takeWord_38 : decode cX9_takeWord 38 = .ok (.baload, 1) := by decide +kernel
theorem dX9_takeWord_39 : decode cX9_takeWord 39 = .ok (.bipush 122, 2) := by decide +kernel
theorem dX9_takeWord_41 : decode cX9_takeWord 41 = .ok (.if_icmp .gt 16, 3) := by decide +kernel
theorem dX9_takeWord_44 : decode cX9_takeWord 44 = .ok (.aload_n 0, 1) := by decide +kernel
theorem dX9_takeWord_45 : decode cX9_takeWord 45 = .ok (.dup, 1) := by decide +kernel
theorem dX9_takeWord_46 : decode cX9_takeWord 46 = .ok (.getfield 29, 3) := by decide +kernel
theorem dX9_takeWord_49 : decode cX9_takeWord 49 = .ok (.iconst 1, 1) := by decide +kernel
theorem dX9_takeWord_50 : decode cX9_takeWord 50 = .ok (.iadd, 1) := by decide +kernel
theorem dX9_takeWord_51 : decode cX9_takeWord 51 = .ok (.putfield 29, 3) := by decide +kernel
theorem dX9_takeWord_54 : decode cX9_takeWord 54 = .ok (.goto (-49), 3) := by decide +kernel
theorem dX9_takeWord_57 : decode cX9_takeWord 57 = .ok (.iconst 0, 1) := by decide +kernel
theorem dX9_takeWord_58 : decode cX9_takeWord 58 = .ok (.istore_n 2, 1) := by decide +kernel
theorem dX9_takeWord_59 : decode cX9_takeWord 59 = .ok (.iload_n 2, 1) := by decide +kernel
theorem dX9_takeWord_60 : decode cX9_takeWord 60 = .ok (.bipush 11, 2) := by decide +kernel
theorem dX9_takeWord_62 : decode cX9_takeWord 62 = .ok (.if_icmp .ge 22, 3) := by decide +kernel
theorem dX9_takeWord_65 : decode cX9_takeWord 65 = .ok (.aload_n 0, 1) := by decide +kernel
theorem dX9_takeWord_66 : decode cX9_takeWord 66 = .ok (.iload_n 2, 1) := by decide +kernel
theorem dX9_takeWord_67 : decode cX9_takeWord 67 = .ok (.iload_n 1, 1) := by decide +kernel
theorem dX9_takeWord_68 : decode cX9_takeWord 68 = .ok (.invokevirtual 48, 3) := by decide +kernel
theorem dX9_takeWord_71 : decode cX9_takeWord 71 = .ok (.ifCond .eq 7, 3) := by decide +kernel
theorem dX9_takeWord_74 : decode cX9_takeWord 74 = .ok (.iconst 4, 1) := by decide +kernel
theorem dX9_takeWord_75 : decode cX9_takeWord 75 = .ok (.iload_n 2, 1) := by decide +kernel
theorem dX9_takeWord_76 : decode cX9_takeWord 76 = .ok (.iadd, 1) := by decide +kernel
theorem dX9_takeWord_77 : decode cX9_takeWord 77 = .ok (.ireturn, 1) := by decide +kernel
theorem dX9_takeWord_78 : decode cX9_takeWord 78 = .ok (.iinc 2 1, 3) := by decide +kernel
theorem dX9_takeWord_81 : decode cX9_takeWord 81 = .ok (.goto (-22), 3) := by decide +kernel
theorem dX9_takeWord_84 : decode cX9_takeWord 84 = .ok (.iconst 3, 1) := by decide +kernel
theorem dX9_takeWord_85 : decode cX9_takeWord 85 = .ok (.ireturn, 1) := by decide +kernel
theorem dX9_isWord_0 : decode cX9_isWord 0 = .ok (.iload_n 1, 1) := by decide +kernel
theorem dX9_isWord_1 : decode cX9_isWord 1 = .ok (.invokestatic 52, 3) := by decide +kernel
theorem dX9_isWord_4 : decode cX9_isWord 4 = .ok (.astore_n 3, 1) := by decide +kernel
theorem dX9_isWord_5 : decode cX9_isWord 5 = .ok (.aload_n 0, 1) := by decide +kernel
theorem dX9_isWord_6 : decode cX9_isWord 6 = .ok (.getfield 29, 3) := by decide +kernel
theorem dX9_isWord_9 : decode cX9_isWord 9 = .ok (.iload_n 2, 1) := by decide +kernel
theorem dX9_isWord_10 : decode cX9_isWord 10 = .ok (.isub, 1) := by decide +kernel
theorem dX9_isWord_11 : decode cX9_isWord 11 = .ok (.aload_n 3, 1) := by decide +kernel
theorem dX9_isWord_12 : decode cX9_isWord 12 = .ok (.invokevirtual 56, 3) := by decide +kernel
theorem dX9_isWord_15 : decode cX9_isWord 15 = .ok (.if_icmp .eq 5, 3) := by decide +kernel
theorem dX9_isWord_18 : decode cX9_isWord 18 = .ok (.iconst 0, 1) := by decide +kernel
theorem dX9_isWord_19 : decode cX9_isWord 19 = .ok (.ireturn, 1) := by decide +kernel
theorem dX9_isWord_20 : decode cX9_isWord 20 = .ok (.iconst 0, 1) := by decide +kernel
theorem dX9_isWord_21 : decode cX9_isWord 21 = .ok (.istore 4, 2) := by decide +kernel
theorem dX9_isWord_23 : decode cX9_isWord 23 = .ok (.iload 4, 2) := by decide +kernel
theorem dX9_isWord_25 : decode cX9_isWord 25 = .ok (.aload_n 3, 1) := by decide +kernel
theorem dX9_isWord_26 : decode cX9_isWord 26 = .ok (.invokevirtual 56, 3) := by decide +kernel
theorem dX9_isWord_29 : decode cX9_isWord 29 = .ok (.if_icmp .ge 29, 3) := by decide +kernel
theorem dX9_isWord_32 : decode cX9_isWord 32 = .ok (.aload_n 0, 1) := by decide +kernel
theorem dX9_isWord_33 : decode cX9_isWord 33 = .ok (.getfield 21, 3) := by decide +kernel
theorem dX9_isWord_36 : decode cX9_isWord 36 = .ok (.iload_n 2, 1) := by decide +kernel
theorem dX9_isWord_37 : decode cX9_isWord 37 = .ok (.iload 4, 2) := by decide +kernel
theorem dX9_isWord_39 : decode cX9_isWord 39 = .ok (.iadd, 1) := by decide +kernel
theorem dX9_isWord_40 : decode cX9_isWord 40 = .ok (.baload, 1) := by decide +kernel
theorem dX9_isWord_41 : decode cX9_isWord 41 = .ok (.aload_n 3, 1) := by decide +kernel
theorem dX9_isWord_42 : decode cX9_isWord 42 = .ok (.iload 4, 2) := by decide +kernel
theorem dX9_isWord_44 : decode cX9_isWord 44 = .ok (.invokevirtual 60, 3) := by decide +kernel
theorem dX9_isWord_47 : decode cX9_isWord 47 = .ok (.if_icmp .eq 5, 3) := by decide +kernel
theorem dX9_isWord_50 : decode cX9_isWord 50 = .ok (.iconst 0, 1) := by decide +kernel
theorem dX9_isWord_51 : decode cX9_isWord 51 = .ok (.ireturn, 1) := by decide +kernel
theorem dX9_isWord_52 : decode cX9_isWord 52 = .ok (.iinc 4 1, 3) := by decide +kernel
theorem dX9_isWord_55 : decode cX9_isWord 55 = .ok (.goto (-32), 3) := by decide +kernel
theorem dX9_isWord_58 : decode cX9_isWord 58 = .ok (.iconst 1, 1) := by decide +kernel
theorem dX9_isWord_59 : decode cX9_isWord 59 = .ok (.ireturn, 1) := by decide +kernel
theorem dX9_wordOf_0 : decode cX9_wordOf 0 = .ok (.iconst 4, 1) := by decide +kernel
theorem dX9_wordOf_1 : decode cX9_wordOf 1 = .ok (.iload_n 0, 1) := by decide +kernel
theorem dX9_wordOf_2 : decode cX9_wordOf 2 = .ok (.iadd, 1) := by decide +kernel
theorem dX9_wordOf_3 : decode cX9_wordOf 3 = .ok (.tableswitch 83 4 13 #[53, 56, 59, 62, 65, 68, 71, 74, 77, 80], 53) := by decide +kernel
theorem dX9_wordOf_56 : decode cX9_wordOf 56 = .ok (.ldc 64, 2) := by decide +kernel
theorem dX9_wordOf_58 : decode cX9_wordOf 58 = .ok (.areturn, 1) := by decide +kernel
theorem dX9_wordOf_59 : decode cX9_wordOf 59 = .ok (.ldc 66, 2) := by decide +kernel
theorem dX9_wordOf_61 : decode cX9_wordOf 61 = .ok (.areturn, 1) := by decide +kernel
theorem dX9_wordOf_62 : decode cX9_wordOf 62 = .ok (.ldc 68, 2) := by decide +kernel
theorem dX9_wordOf_64 : decode cX9_wordOf 64 = .ok (.areturn, 1) := by decide +kernel
theorem dX9_wordOf_65 : decode cX9_wordOf 65 = .ok (.ldc 70, 2) := by decide +kernel
theorem dX9_wordOf_67 : decode cX9_wordOf 67 = .ok (.areturn, 1) := by decide +kernel
theorem dX9_wordOf_68 : decode cX9_wordOf 68 = .ok (.ldc 72, 2) := by decide +kernel
theorem dX9_wordOf_70 : decode cX9_wordOf 70 = .ok (.areturn, 1) := by decide +kernel
theorem dX9_wordOf_71 : decode cX9_wordOf 71 = .ok (.ldc 74, 2) := by decide +kernel
theorem dX9_wordOf_73 : decode cX9_wordOf 73 = .ok (.areturn, 1) := by decide +kernel
theorem dX9_wordOf_74 : decode cX9_wordOf 74 = .ok (.ldc 76, 2) := by decide +kernel
theorem dX9_wordOf_76 : decode cX9_wordOf 76 = .ok (.areturn, 1) := by decide +kernel
theorem dX9_wordOf_77 : decode cX9_wordOf 77 = .ok (.ldc 78, 2) := by decide +kernel
theorem dX9_wordOf_79 : decode cX9_wordOf 79 = .ok (.areturn, 1) := by decide +kernel
theorem dX9_wordOf_80 : decode cX9_wordOf 80 = .ok (.ldc 80, 2) := by decide +kernel
theorem dX9_wordOf_82 : decode cX9_wordOf 82 = .ok (.areturn, 1) := by decide +kernel
theorem dX9_wordOf_83 : decode cX9_wordOf 83 = .ok (.ldc 82, 2) := by decide +kernel
theorem dX9_wordOf_85 : decode cX9_wordOf 85 = .ok (.areturn, 1) := by decide +kernel
theorem dX9_wordOf_86 : decode cX9_wordOf 86 = .ok (.ldc 84, 2) := by decide +kernel
theorem dX9_wordOf_88 : decode cX9_wordOf 88 = .ok (.areturn, 1) := by decide +kernel
theorem dX10_init_0 : decode cX10_init 0 = .ok (.aload_n 0, 1) := by decide +kernel
theorem dX10_init_1 : decode cX10_init 1 = .ok (.invokespecial 3, 3) := by decide +kernel
theorem dX10_init_4 : decode cX10_init 4 = .ok (.aload_n 0, 1) := by decide +kernel
theorem dX10_init_5 : decode cX10_init 5 = .ok (.bipush 48, 2) := by decide +kernel
theorem dX10_init_7 : decode cX10_init 7 = .ok (.newarray .int, 2) := by decide +kernel
theorem dX10_init_9 : decode cX10_init 9 = .ok (.putfield 9, 3) := by decide +kernel
theorem dX10_init_12 : decode cX10_init 12 = .ok (.aload_n 0, 1) := by decide +kernel
theorem dX10_init_13 : decode cX10_init 13 = .ok (.bipush 48, 2) := by decide +kernel
theorem dX10_init_15 : decode cX10_init 15 = .ok (.newarray .int, 2) := by decide +kernel
theorem dX10_init_17 : decode cX10_init 17 = .ok (.putfield 15, 3) := by decide +kernel
theorem dX10_init_20 : decode cX10_init 20 = .ok (.aload_n 0, 1) := by decide +kernel
theorem dX10_init_21 : decode cX10_init 21 = .ok (.bipush 6, 2) := by decide +kernel
theorem dX10_init_23 : decode cX10_init 23 = .ok (.newarray .int, 2) := by decide +kernel
theorem dX10_init_25 : decode cX10_init 25 = .ok (.putfield 18, 3) := by decide +kernel
theorem dX10_init_28 : decode cX10_init 28 = .ok (.aload_n 0, 1) := by decide +kernel
theorem dX10_init_29 : decode cX10_init 29 = .ok (.bipush 6, 2) := by decide +kernel
theorem dX10_init_31 : decode cX10_init 31 = .ok (.newarray .int, 2) := by decide +kernel
theorem dX10_init_33 : decode cX10_init 33 = .ok (.putfield 21, 3) := by decide +kernel
theorem dX10_init_36 : decode cX10_init 36 = .ok (.aload_n 0, 1) := by decide +kernel
theorem dX10_init_37 : decode cX10_init 37 = .ok (.bipush 36, 2) := by decide +kernel
theorem dX10_init_39 : decode cX10_init 39 = .ok (.newarray .int, 2) := by decide +kernel
theorem dX10_init_41 : decode cX10_init 41 = .ok (.putfield 24, 3) := by decide +kernel
theorem dX10_init_44 : decode cX10_init 44 = .ok (.aload_n 0, 1) := by decide +kernel
theorem dX10_init_45 : decode cX10_init 45 = .ok (.bipush 36, 2) := by decide +kernel
theorem dX10_init_47 : decode cX10_init 47 = .ok (.newarray .int, 2) := by decide +kernel
theorem dX10_init_49 : decode cX10_init 49 = .ok (.putfield 27, 3) := by decide +kernel
theorem dX10_init_52 : decode cX10_init 52 = .ok (.aload_n 0, 1) := by decide +kernel
theorem dX10_init_53 : decode cX10_init 53 = .ok (.bipush 36, 2) := by decide +kernel
theorem dX10_init_55 : decode cX10_init 55 = .ok (.newarray .int, 2) := by decide +kernel
theorem dX10_init_57 : decode cX10_init 57 = .ok (.putfield 30, 3) := by decide +kernel
theorem dX10_init_60 : decode cX10_init 60 = .ok (.aload_n 0, 1) := by decide +kernel
theorem dX10_init_61 : decode cX10_init 61 = .ok (.iconst 4, 1) := by decide +kernel
theorem dX10_init_62 : decode cX10_init 62 = .ok (.newarray .int, 2) := by decide +kernel
theorem dX10_init_64 : decode cX10_init 64 = .ok (.putfield 33, 3) := by decide +kernel
theorem dX10_init_67 : decode cX10_init 67 = .ok (.aload_n 0, 1) := by decide +kernel
theorem dX10_init_68 : decode cX10_init 68 = .ok (.iconst 4, 1) := by decide +kernel
theorem dX10_init_69 : decode cX10_init 69 = .ok (.newarray .int, 2) := by decide +kernel
theorem dX10_init_71 : decode cX10_init 71 = .ok (.putfield 36, 3) := by decide +kernel
theorem dX10_init_74 : decode cX10_init 74 = .ok (.aload_n 0, 1) := by decide +kernel
theorem dX10_init_75 : decode cX10_init 75 = .ok (.iconst 4, 1) := by decide +kernel
theorem dX10_init_76 : decode cX10_init 76 = .ok (.newarray .int, 2) := by decide +kernel
theorem dX10_init_78 : decode cX10_init 78 = .ok (.putfield 39, 3) := by decide +kernel
theorem dX10_init_81 : decode cX10_init 81 = .ok (.aload_n 0, 1) := by decide +kernel
theorem dX10_init_82 : decode cX10_init 82 = .ok (.bipush 8, 2) := by decide +kernel
theorem dX10_init_84 : decode cX10_init 84 = .ok (.newarray .int, 2) := by decide +kernel
theorem dX10_init_86 : decode cX10_init 86 = .ok (.putfield 42, 3) := by decide +kernel
theorem dX10_init_89 : decode cX10_init 89 = .ok (.aload_n 0, 1) := by decide +kernel
theorem dX10_init_90 : decode cX10_init 90 = .ok (.bipush 8, 2) := by decide +kernel
theorem dX10_init_92 : decode cX10_init 92 = .ok (.newarray .int, 2) := by decide +kernel
theorem dX10_init_94 : decode cX10_init 94 = .ok (.putfield 45, 3) := by decide +kernel
theorem dX10_init_97 : decode cX10_init 97 = .ok (.aload_n 0, 1) := by decide +kernel
theorem dX10_init_98 : decode cX10_init 98 = .ok (.new 48, 3) := by decide +kernel
theorem dX10_init_101 : decode cX10_init 101 = .ok (.dup, 1) := by decide +kernel
theorem dX10_init_102 : decode cX10_init 102 = .ok (.invokespecial 50, 3) := by decide +kernel
theorem dX10_init_105 : decode cX10_init 105 = .ok (.putfield 51, 3) := by decide +kernel
theorem dX10_init_108 : decode cX10_init 108 = .ok (.aload_n 0, 1) := by decide +kernel
theorem dX10_init_109 : decode cX10_init 109 = .ok (.invokevirtual 55, 3) := by decide +kernel
theorem dX10_init_112 : decode cX10_init 112 = .ok (.aload_n 0, 1) := by decide +kernel
theorem dX10_init_113 : decode cX10_init 113 = .ok (.getfield 51, 3) := by decide +kernel
theorem dX10_init_116 : decode cX10_init 116 = .ok (.aload_n 0, 1) := by decide +kernel
theorem dX10_init_117 : decode cX10_init 117 = .ok (.getfield 58, 3) := by decide +kernel
theorem dX10_init_120 : decode cX10_init 120 = .ok (.invokevirtual 62, 3) := by decide +kernel
theorem dX10_init_123 : decode cX10_init 123 = .ok (.return_, 1) := by decide +kernel
theorem dX10_clear_0 : decode cX10_clear 0 = .ok (.aload_n 0, 1) := by decide +kernel
theorem dX10_clear_1 : decode cX10_clear 1 = .ok (.iconst 0, 1) := by decide +kernel
theorem dX10_clear_2 : decode cX10_clear 2 = .ok (.putfield 66, 3) := by decide +kernel
theorem dX10_clear_5 : decode cX10_clear 5 = .ok (.aload_n 0, 1) := by decide +kernel
theorem dX10_clear_6 : decode cX10_clear 6 = .ok (.iconst 1, 1) := by decide +kernel
theorem dX10_clear_7 : decode cX10_clear 7 = .ok (.putfield 58, 3) := by decide +kernel
theorem dX10_clear_10 : decode cX10_clear 10 = .ok (.aload_n 0, 1) := by decide +kernel
theorem dX10_clear_11 : decode cX10_clear 11 = .ok (.iconst 0, 1) := by decide +kernel
theorem dX10_clear_12 : decode cX10_clear 12 = .ok (.putfield 69, 3) := by decide +kernel
theorem dX10_clear_15 : decode cX10_clear 15 = .ok (.aload_n 0, 1) := by decide +kernel
theorem dX10_clear_16 : decode cX10_clear 16 = .ok (.iconst 0, 1) := by decide +kernel
theorem dX10_clear_17 : decode cX10_clear 17 = .ok (.putfield 72, 3) := by decide +kernel
theorem dX10_clear_20 : decode cX10_clear 20 = .ok (.iconst 0, 1) := by decide +kernel
theorem dX10_clear_21 : decode cX10_clear 21 = .ok (.istore_n 1, 1) := by decide +kernel
theorem dX10_clear_22 : decode cX10_clear 22 = .ok (.iload_n 1, 1) := by decide +kernel
theorem dX10_clear_23 : decode cX10_clear 23 = .ok (.bipush 48, 2) := by decide +kernel
theorem dX10_clear_25 : decode cX10_clear 25 = .ok (.if_icmp .ge 23, 3) := by decide +kernel
theorem dX10_clear_28 : decode cX10_clear 28 = .ok (.aload_n 0, 1) := by decide +kernel
theorem dX10_clear_29 : decode cX10_clear 29 = .ok (.getfield 9, 3) := by decide +kernel
theorem dX10_clear_32 : decode cX10_clear 32 = .ok (.iload_n 1, 1) := by decide +kernel
theorem dX10_clear_33 : decode cX10_clear 33 = .ok (.iconst 0, 1) := by decide +kernel
theorem dX10_clear_34 : decode cX10_clear 34 = .ok (.iastore, 1) := by decide +kernel
theorem dX10_clear_35 : decode cX10_clear 35 = .ok (.aload_n 0, 1) := by decide +kernel
theorem dX10_clear_36 : decode cX10_clear 36 = .ok (.getfield 15, 3) := by decide +kernel
theorem dX10_clear_39 : decode cX10_clear 39 = .ok (.iload_n 1, 1) := by decide +kernel
theorem dX10_clear_40 : decode cX10_clear 40 = .ok (.iconst 0, 1) := by decide +kernel
theorem dX10_clear_41 : decode cX10_clear 41 = .ok (.iastore, 1) := by decide +kernel
theorem dX10_clear_42 : decode cX10_clear 42 = .ok (.iinc 1 1, 3) := by decide +kernel
theorem dX10_clear_45 : decode cX10_clear 45 = .ok (.goto (-23), 3) := by decide +kernel
theorem dX10_clear_48 : decode cX10_clear 48 = .ok (.iconst 0, 1) := by decide +kernel
theorem dX10_clear_49 : decode cX10_clear 49 = .ok (.istore_n 1, 1) := by decide +kernel
theorem dX10_clear_50 : decode cX10_clear 50 = .ok (.iload_n 1, 1) := by decide +kernel
theorem dX10_clear_51 : decode cX10_clear 51 = .ok (.bipush 6, 2) := by decide +kernel
theorem dX10_clear_53 : decode cX10_clear 53 = .ok (.if_icmp .ge 23, 3) := by decide +kernel
theorem dX10_clear_56 : decode cX10_clear 56 = .ok (.aload_n 0, 1) := by decide +kernel
theorem dX10_clear_57 : decode cX10_clear 57 = .ok (.getfield 18, 3) := by decide +kernel
theorem dX10_clear_60 : decode cX10_clear 60 = .ok (.iload_n 1, 1) := by decide +kernel
theorem dX10_clear_61 : decode cX10_clear 61 = .ok (.iconst 0, 1) := by decide +kernel
theorem dX10_clear_62 : decode cX10_clear 62 = .ok (.iastore, 1) := by decide +kernel
theorem dX10_clear_63 : decode cX10_clear 63 = .ok (.aload_n 0, 1) := by decide +kernel
theorem dX10_clear_64 : decode cX10_clear 64 = .ok (.getfield 21, 3) := by decide +kernel
theorem dX10_clear_67 : decode cX10_clear 67 = .ok (.iload_n 1, 1) := by decide +kernel
theorem dX10_clear_68 : decode cX10_clear 68 = .ok (.iconst 0, 1) := by decide +kernel
theorem dX10_clear_69 : decode cX10_clear 69 = .ok (.iastore, 1) := by decide +kernel
theorem dX10_clear_70 : decode cX10_clear 70 = .ok (.iinc 1 1, 3) := by decide +kernel
theorem dX10_clear_73 : decode cX10_clear 73 = .ok (.goto (-23), 3) := by decide +kernel
theorem dX10_clear_76 : decode cX10_clear 76 = .ok (.aload_n 0, 1) := by decide +kernel
theorem dX10_clear_77 : decode cX10_clear 77 = .ok (.getfield 51, 3) := by decide +kernel
theorem dX10_clear_80 : decode cX10_clear 80 = .ok (.iconst 2, 1) := by decide +kernel
theorem dX10_clear_81 : decode cX10_clear 81 = .ok (.putfield 75, 3) := by decide +kernel
theorem dX10_clear_84 : decode cX10_clear 84 = .ok (.aload_n 0, 1) := by decide +kernel
theorem dX10_clear_85 : decode cX10_clear 85 = .ok (.getfield 51, 3) := by decide +kernel
theorem dX10_clear_88 : decode cX10_clear 88 = .ok (.iconst (-1), 1) := by decide +kernel
theorem dX10_clear_89 : decode cX10_clear 89 = .ok (.putfield 78, 3) := by decide +kernel
theorem dX10_clear_92 : decode cX10_clear 92 = .ok (.aload_n 0, 1) := by decide +kernel
theorem dX10_clear_93 : decode cX10_clear 93 = .ok (.getfield 51, 3) := by decide +kernel
theorem dX10_clear_96 : decode cX10_clear 96 = .ok (.iconst 0, 1) := by decide +kernel
theorem dX10_clear_97 : decode cX10_clear 97 = .ok (.putfield 81, 3) := by decide +kernel
theorem dX10_clear_100 : decode cX10_clear 100 = .ok (.return_, 1) := by decide +kernel
theorem dX10_dearest_0 : decode cX10_dearest 0 = .ok (.iconst 0, 1) := by decide +kernel
theorem dX10_dearest_1 : decode cX10_dearest 1 = .ok (.istore_n 2, 1) := by decide +kernel
theorem dX10_dearest_2 : decode cX10_dearest 2 = .ok (.iconst 0, 1) := by decide +kernel
theorem dX10_dearest_3 : decode cX10_dearest 3 = .ok (.istore_n 3, 1) := by decide +kernel
theorem dX10_dearest_4 : decode cX10_dearest 4 = .ok (.iload_n 3, 1) := by decide +kernel
theorem dX10_dearest_5 : decode cX10_dearest 5 = .ok (.aload_n 0, 1) := by decide +kernel
theorem dX10_dearest_6 : decode cX10_dearest 6 = .ok (.getfield 66, 3) := by decide +kernel
theorem dX10_dearest_9 : decode cX10_dearest 9 = .ok (.if_icmp .ge 25, 3) := by decide +kernel
theorem dX10_dearest_12 : decode cX10_dearest 12 = .ok (.iload_n 2, 1) := by decide +kernel
theorem dX10_dearest_13 : decode cX10_dearest 13 = .ok (.aload_n 0, 1) := by decide +kernel
theorem dX10_dearest_14 : decode cX10_dearest 14 = .ok (.getfield 15, 3) := by decide +kernel
theorem dX10_dearest_17 : decode cX10_dearest 17 = .ok (.iload_n 3, 1) := by decide +kernel
theorem dX10_dearest_18 : decode cX10_dearest 18 = .ok (.bipush 8, 2) := by decide +kernel
theorem dX10_dearest_20 : decode cX10_dearest 20 = .ok (.imul, 1) := by decide +kernel
theorem dX10_dearest_21 : decode cX10_dearest 21 = .ok (.iload_n 1, 1) := by decide +kernel
theorem dX10_dearest_22 : decode cX10_dearest 22 = .ok (.iadd, 1) := by decide +kernel
theorem dX10_dearest_23 : decode cX10_dearest 23 = .ok (.iaload, 1) := by decide +kernel
theorem dX10_dearest_24 : decode cX10_dearest 24 = .ok (.invokestatic 85, 3) := by decide +kernel
theorem dX10_dearest_27 : decode cX10_dearest 27 = .ok (.istore_n 2, 1) := by decide +kernel
theorem dX10_dearest_28 : decode cX10_dearest 28 = .ok (.iinc 3 1, 3) := by decide +kernel
theorem dX10_dearest_31 : decode cX10_dearest 31 = .ok (.goto (-27), 3) := by decide +kernel
theorem dX10_dearest_34 : decode cX10_dearest 34 = .ok (.iload_n 2, 1) := by decide +kernel
theorem dX10_dearest_35 : decode cX10_dearest 35 = .ok (.ireturn, 1) := by decide +kernel
theorem dX10_allPairs_0 : decode cX10_allPairs 0 = .ok (.iconst 0, 1) := by decide +kernel
theorem dX10_allPairs_1 : decode cX10_allPairs 1 = .ok (.istore_n 1, 1) := by decide +kernel
theorem dX10_allPairs_2 : decode cX10_allPairs 2 = .ok (.iconst 0, 1) := by decide +kernel
theorem dX10_allPairs_3 : decode cX10_allPairs 3 = .ok (.istore_n 2, 1) := by decide +kernel
theorem dX10_allPairs_4 : decode cX10_allPairs 4 = .ok (.iload_n 2, 1) := by decide +kernel
theorem dX10_allPairs_5 : decode cX10_allPairs 5 = .ok (.aload_n 0, 1) := by decide +kernel
theorem dX10_allPairs_6 : decode cX10_allPairs 6 = .ok (.getfield 66, 3) := by decide +kernel
theorem dX10_allPairs_9 : decode cX10_allPairs 9 = .ok (.if_icmp .ge 46, 3) := by decide +kernel
theorem dX10_allPairs_12 : decode cX10_allPairs 12 = .ok (.iload_n 2, 1) := by decide +kernel
theorem dX10_allPairs_13 : decode cX10_allPairs 13 = .ok (.bipush 6, 2) := by decide +kernel
theorem dX10_allPairs_15 : decode cX10_allPairs 15 = .ok (.imul, 1) := by decide +kernel
theorem dX10_allPairs_16 : decode cX10_allPairs 16 = .ok (.istore_n 3, 1) := by decide +kernel
theorem dX10_allPairs_17 : decode cX10_allPairs 17 = .ok (.iconst 0, 1) := by decide +kernel
theorem dX10_allPairs_18 : decode cX10_allPairs 18 = .ok (.istore 4, 2) := by decide +kernel
theorem dX10_allPairs_20 : decode cX10_allPairs 20 = .ok (.iload 4, 2) := by decide +kernel
theorem dX10_allPairs_22 : decode cX10_allPairs 22 = .ok (.aload_n 0, 1) := by decide +kernel
theorem dX10_allPairs_23 : decode cX10_allPairs 23 = .ok (.getfield 21, 3) := by decide +kernel
theorem dX10_allPairs_26 : decode cX10_allPairs 26 = .ok (.iload_n 2, 1) := by decide +kernel
theorem dX10_allPairs_27 : decode cX10_allPairs 27 = .ok (.iaload, 1) := by decide +kernel
theorem dX10_allPairs_28 : decode cX10_allPairs 28 = .ok (.if_icmp .ge 21, 3) := by decide +kernel
theorem dX10_allPairs_31 : decode cX10_allPairs 31 = .ok (.iload_n 1, 1) := by decide +kernel
theorem dX10_allPairs_32 : decode cX10_allPairs 32 = .ok (.aload_n 0, 1) := by decide +kernel
theorem dX10_allPairs_33 : decode cX10_allPairs 33 = .ok (.getfield 30, 3) := by decide +kernel
theorem dX10_allPairs_36 : decode cX10_allPairs 36 = .ok (.iload_n 3, 1) := by decide +kernel
theorem dX10_allPairs_37 : decode cX10_allPairs 37 = .ok (.iload 4, 2) := by decide +kernel
theorem dX10_allPairs_39 : decode cX10_allPairs 39 = .ok (.iadd, 1) := by decide +kernel
theorem dX10_allPairs_40 : decode cX10_allPairs 40 = .ok (.iaload, 1) := by decide +kernel
theorem dX10_allPairs_41 : decode cX10_allPairs 41 = .ok (.iadd, 1) := by decide +kernel
theorem dX10_allPairs_42 : decode cX10_allPairs 42 = .ok (.istore_n 1, 1) := by decide +kernel
theorem dX10_allPairs_43 : decode cX10_allPairs 43 = .ok (.iinc 4 1, 3) := by decide +kernel
theorem dX10_allPairs_46 : decode cX10_allPairs 46 = .ok (.goto (-26), 3) := by decide +kernel
theorem dX10_allPairs_49 : decode cX10_allPairs 49 = .ok (.iinc 2 1, 3) := by decide +kernel
theorem dX10_allPairs_52 : decode cX10_allPairs 52 = .ok (.goto (-48), 3) := by decide +kernel
theorem dX10_allPairs_55 : decode cX10_allPairs 55 = .ok (.iload_n 1, 1) := by decide +kernel
theorem dX10_allPairs_56 : decode cX10_allPairs 56 = .ok (.ireturn, 1) := by decide +kernel
theorem dX11_init_0 : decode cX11_init 0 = .ok (.aload_n 0, 1) := by decide +kernel
theorem dX11_init_1 : decode cX11_init 1 = .ok (.invokespecial 3, 3) := by decide +kernel
theorem dX11_init_4 : decode cX11_init 4 = .ok (.aload_n 0, 1) := by decide +kernel
theorem dX11_init_5 : decode cX11_init 5 = .ok (.sipush 700, 3) := by decide +kernel
theorem dX11_init_8 : decode cX11_init 8 = .ok (.newarray .byte, 2) := by decide +kernel
theorem dX11_init_10 : decode cX11_init 10 = .ok (.putfield 9, 3) := by decide +kernel
theorem dX11_init_13 : decode cX11_init 13 = .ok (.aload_n 0, 1) := by decide +kernel
theorem dX11_init_14 : decode cX11_init 14 = .ok (.new 13, 3) := by decide +kernel
theorem dX11_init_17 : decode cX11_init 17 = .ok (.dup, 1) := by decide +kernel
theorem dX11_init_18 : decode cX11_init 18 = .ok (.invokespecial 15, 3) := by decide +kernel
theorem dX11_init_21 : decode cX11_init 21 = .ok (.putfield 16, 3) := by decide +kernel
theorem dX11_init_24 : decode cX11_init 24 = .ok (.aload_n 0, 1) := by decide +kernel
theorem dX11_init_25 : decode cX11_init 25 = .ok (.new 13, 3) := by decide +kernel
theorem dX11_init_28 : decode cX11_init 28 = .ok (.dup, 1) := by decide +kernel
theorem dX11_init_29 : decode cX11_init 29 = .ok (.invokespecial 15, 3) := by decide +kernel
theorem dX11_init_32 : decode cX11_init 32 = .ok (.putfield 20, 3) := by decide +kernel
theorem dX11_init_35 : decode cX11_init 35 = .ok (.aload_n 0, 1) := by decide +kernel
theorem dX11_init_36 : decode cX11_init 36 = .ok (.iconst (-1), 1) := by decide +kernel
theorem dX11_init_37 : decode cX11_init 37 = .ok (.putfield 23, 3) := by decide +kernel
theorem dX11_init_40 : decode cX11_init 40 = .ok (.aload_n 0, 1) := by decide +kernel
theorem dX11_init_41 : decode cX11_init 41 = .ok (.new 27, 3) := by decide +kernel
theorem dX11_init_44 : decode cX11_init 44 = .ok (.dup, 1) := by decide +kernel
theorem dX11_init_45 : decode cX11_init 45 = .ok (.new 29, 3) := by decide +kernel
theorem dX11_init_48 : decode cX11_init 48 = .ok (.dup, 1) := by decide +kernel
theorem dX11_init_49 : decode cX11_init 49 = .ok (.aload_n 0, 1) := by decide +kernel
theorem dX11_init_50 : decode cX11_init 50 = .ok (.getfield 9, 3) := by decide +kernel
theorem dX11_init_53 : decode cX11_init 53 = .ok (.invokespecial 31, 3) := by decide +kernel
theorem dX11_init_56 : decode cX11_init 56 = .ok (.aload_n 0, 1) := by decide +kernel
theorem dX11_init_57 : decode cX11_init 57 = .ok (.getfield 20, 3) := by decide +kernel
theorem dX11_init_60 : decode cX11_init 60 = .ok (.invokespecial 34, 3) := by decide +kernel
theorem dX11_init_63 : decode cX11_init 63 = .ok (.putfield 37, 3) := by decide +kernel
theorem dX11_init_66 : decode cX11_init 66 = .ok (.aload_n 0, 1) := by decide +kernel
theorem dX11_init_67 : decode cX11_init 67 = .ok (.new 41, 3) := by decide +kernel
theorem dX11_init_70 : decode cX11_init 70 = .ok (.dup, 1) := by decide +kernel
theorem dX11_init_71 : decode cX11_init 71 = .ok (.aload_n 0, 1) := by decide +kernel
theorem dX11_init_72 : decode cX11_init 72 = .ok (.getfield 16, 3) := by decide +kernel
theorem dX11_init_75 : decode cX11_init 75 = .ok (.invokespecial 43, 3) := by decide +kernel
theorem dX11_init_78 : decode cX11_init 78 = .ok (.putfield 46, 3) := by decide +kernel
theorem dX11_init_81 : decode cX11_init 81 = .ok (.aload_n 0, 1) := by decide +kernel
theorem dX11_init_82 : decode cX11_init 82 = .ok (.new 41, 3) := by decide +kernel
theorem dX11_init_85 : decode cX11_init 85 = .ok (.dup, 1) := by decide +kernel
theorem dX11_init_86 : decode cX11_init 86 = .ok (.aload_n 0, 1) := by decide +kernel
theorem dX11_init_87 : decode cX11_init 87 = .ok (.getfield 16, 3) := by decide +kernel
theorem dX11_init_90 : decode cX11_init 90 = .ok (.invokespecial 43, 3) := by decide +kernel
theorem dX11_init_93 : decode cX11_init 93 = .ok (.putfield 50, 3) := by decide +kernel
theorem dX11_init_96 : decode cX11_init 96 = .ok (.aload_n 0, 1) := by decide +kernel
theorem dX11_init_97 : decode cX11_init 97 = .ok (.new 53, 3) := by decide +kernel
theorem dX11_init_100 : decode cX11_init 100 = .ok (.dup, 1) := by decide +kernel
theorem dX11_init_101 : decode cX11_init 101 = .ok (.invokespecial 55, 3) := by decide +kernel
theorem dX11_init_104 : decode cX11_init 104 = .ok (.putfield 56, 3) := by decide +kernel
theorem dX11_init_107 : decode cX11_init 107 = .ok (.aload_n 0, 1) := by decide +kernel
theorem dX11_init_108 : decode cX11_init 108 = .ok (.new 60, 3) := by decide +kernel
theorem dX11_init_111 : decode cX11_init 111 = .ok (.dup, 1) := by decide +kernel
theorem dX11_init_112 : decode cX11_init 112 = .ok (.new 41, 3) := by decide +kernel
theorem dX11_init_115 : decode cX11_init 115 = .ok (.dup, 1) := by decide +kernel
theorem dX11_init_116 : decode cX11_init 116 = .ok (.aload_n 0, 1) := by decide +kernel
theorem dX11_init_117 : decode cX11_init 117 = .ok (.getfield 16, 3) := by decide +kernel
theorem dX11_init_120 : decode cX11_init 120 = .ok (.invokespecial 43, 3) := by decide +kernel
theorem dX11_init_123 : decode cX11_init 123 = .ok (.invokespecial 62, 3) := by decide +kernel
theorem dX11_init_126 : decode cX11_init 126 = .ok (.putfield 65, 3) := by decide +kernel
theorem dX11_init_129 : decode cX11_init 129 = .ok (.aload_n 0, 1) := by decide +kernel
theorem dX11_init_130 : decode cX11_init 130 = .ok (.new 69, 3) := by decide +kernel
theorem dX11_init_133 : decode cX11_init 133 = .ok (.dup, 1) := by decide +kernel
theorem dX11_init_134 : decode cX11_init 134 = .ok (.new 41, 3) := by decide +kernel
theorem dX11_init_137 : decode cX11_init 137 = .ok (.dup, 1) := by decide +kernel
theorem dX11_init_138 : decode cX11_init 138 = .ok (.aload_n 0, 1) := by decide +kernel
theorem dX11_init_139 : decode cX11_init 139 = .ok (.getfield 16, 3) := by decide +kernel
theorem dX11_init_142 : decode cX11_init 142 = .ok (.invokespecial 43, 3) := by decide +kernel
theorem dX11_init_145 : decode cX11_init 145 = .ok (.invokespecial 71, 3) := by decide +kernel
theorem dX11_init_148 : decode cX11_init 148 = .ok (.putfield 72, 3) := by decide +kernel
theorem dX11_init_151 : decode cX11_init 151 = .ok (.aload_n 0, 1) := by decide +kernel
theorem dX11_init_152 : decode cX11_init 152 = .ok (.new 76, 3) := by decide +kernel
theorem dX11_init_155 : decode cX11_init 155 = .ok (.dup, 1) := by decide +kernel
theorem dX11_init_156 : decode cX11_init 156 = .ok (.invokespecial 78, 3) := by decide +kernel
theorem dX11_init_159 : decode cX11_init 159 = .ok (.putfield 79, 3) := by decide +kernel
theorem dX11_init_162 : decode cX11_init 162 = .ok (.aload_n 0, 1) := by decide +kernel
theorem dX11_init_163 : decode cX11_init 163 = .ok (.new 83, 3) := by decide +kernel
theorem dX11_init_166 : decode cX11_init 166 = .ok (.dup, 1) := by decide +kernel
theorem dX11_init_167 : decode cX11_init 167 = .ok (.invokespecial 85, 3) := by decide +kernel
theorem dX11_init_170 : decode cX11_init 170 = .ok (.putfield 86, 3) := by decide +kernel
theorem dX11_init_173 : decode cX11_init 173 = .ok (.aload_n 0, 1) := by decide +kernel
theorem dX11_init_174 : decode cX11_init 174 = .ok (.new 90, 3) := by decide +kernel
theorem dX11_init_177 : decode cX11_init 177 = .ok (.dup, 1) := by decide +kernel
theorem dX11_init_178 : decode cX11_init 178 = .ok (.invokespecial 92, 3) := by decide +kernel
theorem dX11_init_181 : decode cX11_init 181 = .ok (.putfield 93, 3) := by decide +kernel
theorem dX11_init_184 : decode cX11_init 184 = .ok (.aload_n 0, 1) := by decide +kernel
theorem dX11_init_185 : decode cX11_init 185 = .ok (.new 97, 3) := by decide +kernel
theorem dX11_init_188 : decode cX11_init 188 = .ok (.dup, 1) := by decide +kernel
theorem dX11_init_189 : decode cX11_init 189 = .ok (.invokespecial 99, 3) := by decide +kernel
theorem dX11_init_192 : decode cX11_init 192 = .ok (.putfield 100, 3) := by decide +kernel
theorem dX11_init_195 : decode cX11_init 195 = .ok (.return_, 1) := by decide +kernel
theorem dX11_feed_0 : decode cX11_feed 0 = .ok (.aload_n 0, 1) := by decide +kernel
theorem dX11_feed_1 : decode cX11_feed 1 = .ok (.getfield 104, 3) := by decide +kernel
theorem dX11_feed_4 : decode cX11_feed 4 = .ok (.bipush 20, 2) := by decide +kernel
theorem dX11_feed_6 : decode cX11_feed 6 = .ok (.iadd, 1) := by decide +kernel
theorem dX11_feed_7 : decode cX11_feed 7 = .ok (.sipush 700, 3) := by decide +kernel
theorem dX11_feed_10 : decode cX11_feed 10 = .ok (.if_icmp .le 5, 3) := by decide +kernel
theorem dX11_feed_13 : decode cX11_feed 13 = .ok (.iconst (-1), 1) := by decide +kernel
theorem dX11_feed_14 : decode cX11_feed 14 = .ok (.ireturn, 1) := by decide +kernel
theorem dX11_feed_15 : decode cX11_feed 15 = .ok (.aload_n 0, 1) := by decide +kernel
theorem dX11_feed_16 : decode cX11_feed 16 = .ok (.iload_n 1, 1) := by decide +kernel
theorem dX11_feed_17 : decode cX11_feed 17 = .ok (.invokevirtual 107, 3) := by decide +kernel
theorem dX11_feed_20 : decode cX11_feed 20 = .ok (.aload_n 0, 1) := by decide +kernel
theorem dX11_feed_21 : decode cX11_feed 21 = .ok (.iload_n 2, 1) := by decide +kernel
theorem dX11_feed_22 : decode cX11_feed 22 = .ok (.invokevirtual 107, 3) := by decide +kernel
theorem dX11_feed_25 : decode cX11_feed 25 = .ok (.aload_n 0, 1) := by decide +kernel
theorem dX11_feed_26 : decode cX11_feed 26 = .ok (.iload_n 3, 1) := by decide +kernel
theorem dX11_feed_27 : decode cX11_feed 27 = .ok (.invokevirtual 107, 3) := by decide +kernel
theorem dX11_feed_30 : decode cX11_feed 30 = .ok (.aload_n 0, 1) := by decide +kernel
theorem dX11_feed_31 : decode cX11_feed 31 = .ok (.iload 4, 2) := by decide +kernel
theorem dX11_feed_33 : decode cX11_feed 33 = .ok (.invokevirtual 107, 3) := by decide +kernel
theorem dX11_feed_36 : decode cX11_feed 36 = .ok (.aload_n 0, 1) := by decide +kernel
theorem dX11_feed_37 : decode cX11_feed 37 = .ok (.iload 5, 2) := by decide +kernel
theorem dX11_feed_39 : decode cX11_feed 39 = .ok (.invokevirtual 107, 3) := by decide +kernel
theorem dX11_feed_42 : decode cX11_feed 42 = .ok (.aload_n 0, 1) := by decide +kernel
theorem dX11_feed_43 : decode cX11_feed 43 = .ok (.getfield 104, 3) := by decide +kernel
theorem dX11_feed_46 : decode cX11_feed 46 = .ok (.ireturn, 1) := by decide +kernel
theorem dX11_town_0 : decode cX11_town 0 = .ok (.iload_n 1, 1) := by decide +kernel
theorem dX11_town_1 : decode cX11_town 1 = .ok (.ifCond .lt 11, 3) := by decide +kernel
theorem dX11_town_4 : decode cX11_town 4 = .ok (.iload_n 1, 1) := by decide +kernel
theorem dX11_town_5 : decode cX11_town 5 = .ok (.aload_n 0, 1) := by decide +kernel
theorem dX11_town_6 : decode cX11_town 6 = .ok (.getfield 104, 3) := by decide +kernel
theorem dX11_town_9 : decode cX11_town 9 = .ok (.if_icmp .le 13, 3) := by decide +kernel
theorem dX11_town_12 : decode cX11_town 12 = .ok (.new 111, 3) := by decide +kernel
theorem dX11_town_15 : decode cX11_town 15 = .ok (.dup, 1) := by decide +kernel
theorem dX11_town_16 : decode cX11_town 16 = .ok (.ldc 113, 2) := by decide +kernel
theorem dX11_town_18 : decode cX11_town 18 = .ok (.invokespecial 115, 3) := by decide +kernel
theorem dX11_town_21 : decode cX11_town 21 = .ok (.athrow, 1) := by decide +kernel
theorem dX11_town_22 : decode cX11_town 22 = .ok (.aload_n 0, 1) := by decide +kernel
theorem dX11_town_23 : decode cX11_town 23 = .ok (.iconst 0, 1) := by decide +kernel
theorem dX11_town_24 : decode cX11_town 24 = .ok (.putfield 104, 3) := by decide +kernel
theorem dX11_town_27 : decode cX11_town 27 = .ok (.aload_n 0, 1) := by decide +kernel
theorem dX11_town_28 : decode cX11_town 28 = .ok (.getfield 37, 3) := by decide +kernel
theorem dX11_town_31 : decode cX11_town 31 = .ok (.aload_n 0, 1) := by decide +kernel
theorem dX11_town_32 : decode cX11_town 32 = .ok (.getfield 20, 3) := by decide +kernel
theorem dX11_town_35 : decode cX11_town 35 = .ok (.iload_n 1, 1) := by decide +kernel
theorem dX11_town_36 : decode cX11_town 36 = .ok (.invokevirtual 118, 3) := by decide +kernel
theorem dX11_town_39 : decode cX11_town 39 = .ok (.istore_n 2, 1) := by decide +kernel
theorem dX11_town_40 : decode cX11_town 40 = .ok (.iload_n 2, 1) := by decide +kernel
theorem dX11_town_41 : decode cX11_town 41 = .ok (.ifCond .eq 26, 3) := by decide +kernel
theorem dX11_town_44 : decode cX11_town 44 = .ok (.aload_n 0, 1) := by decide +kernel
theorem dX11_town_45 : decode cX11_town 45 = .ok (.aload_n 0, 1) := by decide +kernel
theorem dX11_town_46 : decode cX11_town 46 = .ok (.getfield 37, 3) := by decide +kernel
theorem dX11_town_49 : decode cX11_town 49 = .ok (.getfield 122, 3) := by decide +kernel
theorem dX11_town_52 : decode cX11_town 52 = .ok (.putfield 23, 3) := by decide +kernel
theorem dX11_town_55 : decode cX11_town 55 = .ok (.aload_n 0, 1) := by decide +kernel
theorem dX11_town_56 : decode cX11_town 56 = .ok (.dup, 1) := by decide +kernel
theorem dX11_town_57 : decode cX11_town 57 = .ok (.getfield 125, 3) := by decide +kernel
theorem dX11_town_60 : decode cX11_town 60 = .ok (.iconst 1, 1) := by decide +kernel
theorem dX11_town_61 : decode cX11_town 61 = .ok (.iadd, 1) := by decide +kernel
theorem dX11_town_62 : decode cX11_town 62 = .ok (.putfield 125, 3) := by decide +kernel
theorem dX11_town_65 : decode cX11_town 65 = .ok (.iload_n 2, 1) := by decide +kernel
theorem dX11_town_66 : decode cX11_town 66 = .ok (.ireturn, 1) := by decide +kernel
theorem dX11_town_67 : decode cX11_town 67 = .ok (.aload_n 0, 1) := by decide +kernel
theorem dX11_town_68 : decode cX11_town 68 = .ok (.iconst (-1), 1) := by decide +kernel
theorem dX11_town_69 : decode cX11_town 69 = .ok (.putfield 23, 3) := by decide +kernel
theorem dX11_town_72 : decode cX11_town 72 = .ok (.aload_n 0, 1) := by decide +kernel
theorem dX11_town_73 : decode cX11_town 73 = .ok (.getfield 20, 3) := by decide +kernel
theorem dX11_town_76 : decode cX11_town 76 = .ok (.astore_n 3, 1) := by decide +kernel
theorem dX11_town_77 : decode cX11_town 77 = .ok (.aload_n 0, 1) := by decide +kernel
theorem dX11_town_78 : decode cX11_town 78 = .ok (.aload_n 0, 1) := by decide +kernel
theorem dX11_town_79 : decode cX11_town 79 = .ok (.getfield 16, 3) := by decide +kernel
theorem dX11_town_82 : decode cX11_town 82 = .ok (.putfield 20, 3) := by decide +kernel
theorem dX11_town_85 : decode cX11_town 85 = .ok (.aload_n 0, 1) := by decide +kernel
theorem dX11_town_86 : decode cX11_town 86 = .ok (.aload_n 3, 1) := by decide +kernel
theorem dX11_town_87 : decode cX11_town 87 = .ok (.putfield 16, 3) := by decide +kernel
theorem dX11_town_90 : decode cX11_town 90 = .ok (.aload_n 0, 1) := by decide +kernel
theorem dX11_town_91 : decode cX11_town 91 = .ok (.getfield 46, 3) := by decide +kernel
theorem dX11_town_94 : decode cX11_town 94 = .ok (.aload_n 3, 1) := by decide +kernel
theorem dX11_town_95 : decode cX11_town 95 = .ok (.invokevirtual 128, 3) := by decide +kernel
theorem dX11_town_98 : decode cX11_town 98 = .ok (.aload_n 0, 1) := by decide +kernel
theorem dX11_town_99 : decode cX11_town 99 = .ok (.getfield 100, 3) := by decide +kernel
theorem dX11_town_102 : decode cX11_town 102 = .ok (.invokevirtual 131, 3) := by decide +kernel
theorem dX11_town_105 : decode cX11_town 105 = .ok (.iconst 0, 1) := by decide +kernel
theorem dX11_town_106 : decode cX11_town 106 = .ok (.ireturn, 1) := by decide +kernel
theorem dX11_fault_0 : decode cX11_fault 0 = .ok (.aload_n 0, 1) := by decide +kernel
theorem dX11_fault_1 : decode cX11_fault 1 = .ok (.getfield 23, 3) := by decide +kernel
theorem dX11_fault_4 : decode cX11_fault 4 = .ok (.ireturn, 1) := by decide +kernel
theorem dX11_count_0 : decode cX11_count 0 = .ok (.iload_n 1, 1) := by decide +kernel
theorem dX11_count_1 : decode cX11_count 1 = .ok (.tableswitch 164 0 11 #[63, 71, 79, 90, 101, 120, 128, 136, 141, 149, 154, 159], 63) := by decide +kernel
theorem dX11_count_64 : decode cX11_count 64 = .ok (.aload_n 0, 1) := by decide +kernel
theorem dX11_count_65 : decode cX11_count 65 = .ok (.getfield 16, 3) := by decide +kernel
theorem dX11_count_68 : decode cX11_count 68 = .ok (.getfield 134, 3) := by decide +kernel
theorem dX11_count_71 : decode cX11_count 71 = .ok (.ireturn, 1) := by decide +kernel
theorem dX11_count_72 : decode cX11_count 72 = .ok (.aload_n 0, 1) := by decide +kernel
theorem dX11_count_73 : decode cX11_count 73 = .ok (.getfield 16, 3) := by decide +kernel
theorem dX11_count_76 : decode cX11_count 76 = .ok (.getfield 137, 3) := by decide +kernel
theorem dX11_count_79 : decode cX11_count 79 = .ok (.ireturn, 1) := by decide +kernel
theorem dX11_count_80 : decode cX11_count 80 = .ok (.aload_n 0, 1) := by decide +kernel
theorem dX11_count_81 : decode cX11_count 81 = .ok (.getfield 16, 3) := by decide +kernel
theorem dX11_count_84 : decode cX11_count 84 = .ok (.getfield 140, 3) := by decide +kernel
theorem dX11_count_87 : decode cX11_count 87 = .ok (.getfield 143, 3) := by decide +kernel
theorem dX11_count_90 : decode cX11_count 90 = .ok (.ireturn, 1) := by decide +kernel
theorem dX11_count_91 : decode cX11_count 91 = .ok (.aload_n 0, 1) := by decide +kernel
theorem dX11_count_92 : decode cX11_count 92 = .ok (.getfield 16, 3) := by decide +kernel
theorem dX11_count_95 : decode cX11_count 95 = .ok (.getfield 140, 3) := by decide +kernel
theorem dX11_count_98 : decode cX11_count 98 = .ok (.getfield 146, 3) := by decide +kernel
theorem dX11_count_101 : decode cX11_count 101 = .ok (.ireturn, 1) := by decide +kernel
theorem dX11_count_102 : decode cX11_count 102 = .ok (.aload_n 0, 1) := by decide +kernel
theorem dX11_count_103 : decode cX11_count 103 = .ok (.getfield 16, 3) := by decide +kernel
theorem dX11_count_106 : decode cX11_count 106 = .ok (.getfield 140, 3) := by decide +kernel
theorem dX11_count_109 : decode cX11_count 109 = .ok (.getfield 149, 3) := by decide +kernel
theorem dX11_count_112 : decode cX11_count 112 = .ok (.ifCond .eq 7, 3) := by decide +kernel
theorem dX11_count_115 : decode cX11_count 115 = .ok (.iconst 1, 1) := by decide +kernel
theorem dX11_count_116 : decode cX11_count 116 = .ok (.goto 4, 3) := by decide +kernel
theorem dX11_count_119 : decode cX11_count 119 = .ok (.iconst 0, 1) := by decide +kernel
theorem dX11_count_120 : decode cX11_count 120 = .ok (.ireturn, 1) := by decide +kernel
theorem dX11_count_121 : decode cX11_count 121 = .ok (.aload_n 0, 1) := by decide +kernel
theorem dX11_count_122 : decode cX11_count 122 = .ok (.getfield 16, 3) := by decide +kernel
theorem dX11_count_125 : decode cX11_count 125 = .ok (.getfield 153, 3) := by decide +kernel
theorem dX11_count_128 : decode cX11_count 128 = .ok (.ireturn, 1) := by decide +kernel
theorem dX11_count_129 : decode cX11_count 129 = .ok (.aload_n 0, 1) := by decide +kernel
theorem dX11_count_130 : decode cX11_count 130 = .ok (.getfield 16, 3) := by decide +kernel
theorem dX11_count_133 : decode cX11_count 133 = .ok (.getfield 156, 3) := by decide +kernel
theorem dX11_count_136 : decode cX11_count 136 = .ok (.ireturn, 1) := by decide +kernel
theorem dX11_count_137 : decode cX11_count 137 = .ok (.aload_n 0, 1) := by decide +kernel
theorem dX11_count_138 : decode cX11_count 138 = .ok (.getfield 104, 3) := by decide +kernel
theorem dX11_count_141 : decode cX11_count 141 = .ok (.ireturn, 1) := by decide +kernel
theorem dX11_count_142 : decode cX11_count 142 = .ok (.aload_n 0, 1) := by decide +kernel
theorem dX11_count_143 : decode cX11_count 143 = .ok (.getfield 46, 3) := by decide +kernel
theorem dX11_count_146 : decode cX11_count 146 = .ok (.invokevirtual 159, 3) := by decide +kernel
theorem dX11_count_149 : decode cX11_count 149 = .ok (.ireturn, 1) := by decide +kernel
theorem dX11_count_150 : decode cX11_count 150 = .ok (.aload_n 0, 1) := by decide +kernel
theorem dX11_count_151 : decode cX11_count 151 = .ok (.getfield 125, 3) := by decide +kernel
theorem dX11_count_154 : decode cX11_count 154 = .ok (.ireturn, 1) := by decide +kernel
theorem dX11_count_155 : decode cX11_count 155 = .ok (.aload_n 0, 1) := by decide +kernel
theorem dX11_count_156 : decode cX11_count 156 = .ok (.getfield 163, 3) := by decide +kernel
theorem dX11_count_159 : decode cX11_count 159 = .ok (.ireturn, 1) := by decide +kernel
theorem dX11_count_160 : decode cX11_count 160 = .ok (.aload_n 0, 1) := by decide +kernel
theorem dX11_count_161 : decode cX11_count 161 = .ok (.getfield 166, 3) := by decide +kernel
theorem dX11_count_164 : decode cX11_count 164 = .ok (.ireturn, 1) := by decide +kernel
theorem dX11_count_165 : decode cX11_count 165 = .ok (.new 169, 3) := by decide +kernel
theorem dX11_count_168 : decode cX11_count 168 = .ok (.dup, 1) := by decide +kernel
theorem dX11_count_169 : decode cX11_count 169 = .ok (.ldc 171, 2) := by decide +kernel
theorem dX11_count_171 : decode cX11_count 171 = .ok (.invokespecial 173, 3) := by decide +kernel
theorem dX11_count_174 : decode cX11_count 174 = .ok (.athrow, 1) := by decide +kernel
theorem dX11_has_0 : decode cX11_has 0 = .ok (.aload_n 0, 1) := by decide +kernel
theorem dX11_has_1 : decode cX11_has 1 = .ok (.iload_n 1, 1) := by decide +kernel
theorem dX11_has_2 : decode cX11_has 2 = .ok (.iload_n 2, 1) := by decide +kernel
theorem dX11_has_3 : decode cX11_has 3 = .ok (.invokevirtual 174, 3) := by decide +kernel
theorem dX11_has_6 : decode cX11_has 6 = .ok (.ifCond .eq 13, 3) := by decide +kernel
theorem dX11_has_9 : decode cX11_has 9 = .ok (.new 169, 3) := by decide +kernel
theorem dX11_has_12 : decode cX11_has 12 = .ok (.dup, 1) := by decide +kernel
theorem dX11_has_13 : decode cX11_has 13 = .ok (.ldc 178, 2) := by decide +kernel
theorem dX11_has_15 : decode cX11_has 15 = .ok (.invokespecial 173, 3) := by decide +kernel
theorem dX11_has_18 : decode cX11_has 18 = .ok (.athrow, 1) := by decide +kernel
theorem dX11_has_19 : decode cX11_has 19 = .ok (.aload_n 0, 1) := by decide +kernel
theorem dX11_has_20 : decode cX11_has 20 = .ok (.getfield 46, 3) := by decide +kernel
theorem dX11_has_23 : decode cX11_has 23 = .ok (.getfield 180, 3) := by decide +kernel
theorem dX11_has_26 : decode cX11_has 26 = .ok (.iload_n 1, 1) := by decide +kernel
theorem dX11_has_27 : decode cX11_has 27 = .ok (.bipush 8, 2) := by decide +kernel
theorem dX11_has_29 : decode cX11_has 29 = .ok (.imul, 1) := by decide +kernel
theorem dX11_has_30 : decode cX11_has 30 = .ok (.iload_n 2, 1) := by decide +kernel
theorem dX11_has_31 : decode cX11_has 31 = .ok (.iadd, 1) := by decide +kernel
theorem dX11_has_32 : decode cX11_has 32 = .ok (.iaload, 1) := by decide +kernel
theorem dX11_has_33 : decode cX11_has 33 = .ok (.ireturn, 1) := by decide +kernel
theorem dX11_likes_0 : decode cX11_likes 0 = .ok (.aload_n 0, 1) := by decide +kernel
theorem dX11_likes_1 : decode cX11_likes 1 = .ok (.iload_n 1, 1) := by decide +kernel
theorem dX11_likes_2 : decode cX11_likes 2 = .ok (.iload_n 2, 1) := by decide +kernel
theorem dX11_likes_3 : decode cX11_likes 3 = .ok (.invokevirtual 174, 3) := by decide +kernel
theorem dX11_likes_6 : decode cX11_likes 6 = .ok (.ifCond .eq 13, 3) := by decide +kernel
theorem dX11_likes_9 : decode cX11_likes 9 = .ok (.new 169, 3) := by decide +kernel
theorem dX11_likes_12 : decode cX11_likes 12 = .ok (.dup, 1) := by decide +kernel
theorem dX11_likes_13 : decode cX11_likes 13 = .ok (.ldc 178, 2) := by decide +kernel
theorem dX11_likes_15 : decode cX11_likes 15 = .ok (.invokespecial 173, 3) := by decide +kernel
theorem dX11_likes_18 : decode cX11_likes 18 = .ok (.athrow, 1) := by decide +kernel
theorem dX11_likes_19 : decode cX11_likes 19 = .ok (.aload_n 0, 1) := by decide +kernel
theorem dX11_likes_20 : decode cX11_likes 20 = .ok (.getfield 16, 3) := by decide +kernel
theorem dX11_likes_23 : decode cX11_likes 23 = .ok (.getfield 184, 3) := by decide +kernel
theorem dX11_likes_26 : decode cX11_likes 26 = .ok (.iload_n 1, 1) := by decide +kernel
theorem dX11_likes_27 : decode cX11_likes 27 = .ok (.bipush 8, 2) := by decide +kernel
theorem dX11_likes_29 : decode cX11_likes 29 = .ok (.imul, 1) := by decide +kernel
theorem dX11_likes_30 : decode cX11_likes 30 = .ok (.iload_n 2, 1) := by decide +kernel
theorem dX11_likes_31 : decode cX11_likes 31 = .ok (.iadd, 1) := by decide +kernel
theorem dX11_likes_32 : decode cX11_likes 32 = .ok (.iaload, 1) := by decide +kernel
theorem dX11_likes_33 : decode cX11_likes 33 = .ok (.ireturn, 1) := by decide +kernel
theorem dX11_worth_0 : decode cX11_worth 0 = .ok (.iload_n 1, 1) := by decide +kernel
theorem dX11_worth_1 : decode cX11_worth 1 = .ok (.iconst (-1), 1) := by decide +kernel
theorem dX11_worth_2 : decode cX11_worth 2 = .ok (.if_icmp .ne 11, 3) := by decide +kernel
theorem dX11_worth_5 : decode cX11_worth 5 = .ok (.aload_n 0, 1) := by decide +kernel
theorem dX11_worth_6 : decode cX11_worth 6 = .ok (.getfield 46, 3) := by decide +kernel
theorem dX11_worth_9 : decode cX11_worth 9 = .ok (.invokevirtual 187, 3) := by decide +kernel
theorem dX11_worth_12 : decode cX11_worth 12 = .ok (.ireturn, 1) := by decide +kernel
theorem dX11_worth_13 : decode cX11_worth 13 = .ok (.aload_n 0, 1) := by decide +kernel
theorem dX11_worth_14 : decode cX11_worth 14 = .ok (.iload_n 1, 1) := by decide +kernel
theorem dX11_worth_15 : decode cX11_worth 15 = .ok (.invokevirtual 190, 3) := by decide +kernel
theorem dX11_worth_18 : decode cX11_worth 18 = .ok (.ifCond .eq 13, 3) := by decide +kernel
theorem dX11_worth_21 : decode cX11_worth 21 = .ok (.new 169, 3) := by decide +kernel
theorem dX11_worth_24 : decode cX11_worth 24 = .ok (.dup, 1) := by decide +kernel
theorem dX11_worth_25 : decode cX11_worth 25 = .ok (.ldc 194, 2) := by decide +kernel
theorem dX11_worth_27 : decode cX11_worth 27 = .ok (.invokespecial 173, 3) := by decide +kernel
theorem dX11_worth_30 : decode cX11_worth 30 = .ok (.athrow, 1) := by decide +kernel
theorem dX11_worth_31 : decode cX11_worth 31 = .ok (.aload_n 0, 1) := by decide +kernel
theorem dX11_worth_32 : decode cX11_worth 32 = .ok (.getfield 46, 3) := by decide +kernel
theorem dX11_worth_35 : decode cX11_worth 35 = .ok (.iload_n 1, 1) := by decide +kernel
theorem dX11_worth_36 : decode cX11_worth 36 = .ok (.invokevirtual 196, 3) := by decide +kernel
theorem dX11_worth_39 : decode cX11_worth 39 = .ok (.ireturn, 1) := by decide +kernel
theorem dX11_left_0 : decode cX11_left 0 = .ok (.aload_n 0, 1) := by decide +kernel
theorem dX11_left_1 : decode cX11_left 1 = .ok (.iload_n 1, 1) := by decide +kernel
theorem dX11_left_2 : decode cX11_left 2 = .ok (.invokevirtual 200, 3) := by decide +kernel
theorem dX11_left_5 : decode cX11_left 5 = .ok (.ifCond .eq 13, 3) := by decide +kernel
theorem dX11_left_8 : decode cX11_left 8 = .ok (.new 169, 3) := by decide +kernel
theorem dX11_left_11 : decode cX11_left 11 = .ok (.dup, 1) := by decide +kernel
theorem dX11_left_12 : decode cX11_left 12 = .ok (.ldc 203, 2) := by decide +kernel
theorem dX11_left_14 : decode cX11_left 14 = .ok (.invokespecial 173, 3) := by decide +kernel
theorem dX11_left_17 : decode cX11_left 17 = .ok (.athrow, 1) := by decide +kernel
theorem dX11_left_18 : decode cX11_left 18 = .ok (.aload_n 0, 1) := by decide +kernel
theorem dX11_left_19 : decode cX11_left 19 = .ok (.getfield 46, 3) := by decide +kernel
theorem dX11_left_22 : decode cX11_left 22 = .ok (.iload_n 1, 1) := by decide +kernel
theorem dX11_left_23 : decode cX11_left 23 = .ok (.invokevirtual 205, 3) := by decide +kernel
theorem dX11_left_26 : decode cX11_left 26 = .ok (.ireturn, 1) := by decide +kernel
theorem dX11_meeting_0 : decode cX11_meeting 0 = .ok (.iload_n 1, 1) := by decide +kernel
theorem dX11_meeting_1 : decode cX11_meeting 1 = .ok (.ifCond .lt 14, 3) := by decide +kernel
theorem dX11_meeting_4 : decode cX11_meeting 4 = .ok (.iload_n 1, 1) := by decide +kernel
theorem dX11_meeting_5 : decode cX11_meeting 5 = .ok (.aload_n 0, 1) := by decide +kernel
theorem dX11_meeting_6 : decode cX11_meeting 6 = .ok (.getfield 16, 3) := by decide +kernel
theorem dX11_meeting_9 : decode cX11_meeting 9 = .ok (.getfield 156, 3) := by decide +kernel
theorem dX11_meeting_12 : decode cX11_meeting 12 = .ok (.if_icmp .lt 13, 3) := by decide +kernel
theorem dX11_meeting_15 : decode cX11_meeting 15 = .ok (.new 169, 3) := by decide +kernel
theorem dX11_meeting_18 : decode cX11_meeting 18 = .ok (.dup, 1) := by decide +kernel
theorem dX11_meeting_19 : decode cX11_meeting 19 = .ok (.ldc 208, 2) := by decide +kernel
theorem dX11_meeting_21 : decode cX11_meeting 21 = .ok (.invokespecial 173, 3) := by decide +kernel
theorem dX11_meeting_24 : decode cX11_meeting 24 = .ok (.athrow, 1) := by decide +kernel
theorem dX11_meeting_25 : decode cX11_meeting 25 = .ok (.iload_n 2, 1) := by decide +kernel
theorem dX11_meeting_26 : decode cX11_meeting 26 = .ok (.ifCond .eq 18, 3) := by decide +kernel
theorem dX11_meeting_29 : decode cX11_meeting 29 = .ok (.iload_n 2, 1) := by decide +kernel
theorem dX11_meeting_30 : decode cX11_meeting 30 = .ok (.iconst 1, 1) := by decide +kernel
theorem dX11_meeting_31 : decode cX11_meeting 31 = .ok (.if_icmp .eq 13, 3) := by decide +kernel
theorem dX11_meeting_34 : decode cX11_meeting 34 = .ok (.new 169, 3) := by decide +kernel
theorem dX11_meeting_37 : decode cX11_meeting 37 = .ok (.dup, 1) := by decide +kernel
theorem dX11_meeting_38 : decode cX11_meeting 38 = .ok (.ldc 210, 2) := by decide +kernel
theorem dX11_meeting_40 : decode cX11_meeting 40 = .ok (.invokespecial 173, 3) := by decide +kernel
theorem dX11_meeting_43 : decode cX11_meeting 43 = .ok (.athrow, 1) := by decide +kernel
theorem dX11_meeting_44 : decode cX11_meeting 44 = .ok (.iload_n 2, 1) := by decide +kernel
theorem dX11_meeting_45 : decode cX11_meeting 45 = .ok (.ifCond .ne 15, 3) := by decide +kernel
theorem dX11_meeting_48 : decode cX11_meeting 48 = .ok (.aload_n 0, 1) := by decide +kernel
theorem dX11_meeting_49 : decode cX11_meeting 49 = .ok (.getfield 16, 3) := by decide +kernel
theorem dX11_meeting_52 : decode cX11_meeting 52 = .ok (.getfield 212, 3) := by decide +kernel
theorem dX11_meeting_55 : decode cX11_meeting 55 = .ok (.iload_n 1, 1) := by decide +kernel
theorem dX11_meeting_56 : decode cX11_meeting 56 = .ok (.iaload, 1) := by decide +kernel
theorem dX11_meeting_57 : decode cX11_meeting 57 = .ok (.goto 12, 3) := by decide +kernel
theorem dX11_meeting_60 : decode cX11_meeting 60 = .ok (.aload_n 0, 1) := by decide +kernel
theorem dX11_meeting_61 : decode cX11_meeting 61 = .ok (.getfield 16, 3) := by decide +kernel
theorem dX11_meeting_64 : decode cX11_meeting 64 = .ok (.getfield 215, 3) := by decide +kernel
theorem dX11_meeting_67 : decode cX11_meeting 67 = .ok (.iload_n 1, 1) := by decide +kernel
theorem dX11_meeting_68 : decode cX11_meeting 68 = .ok (.iaload, 1) := by decide +kernel
theorem dX11_meeting_69 : decode cX11_meeting 69 = .ok (.ireturn, 1) := by decide +kernel
theorem dX11_look_0 : decode cX11_look 0 = .ok (.aload_n 0, 1) := by decide +kernel
theorem dX11_look_1 : decode cX11_look 1 = .ok (.getfield 16, 3) := by decide +kernel
theorem dX11_look_4 : decode cX11_look 4 = .ok (.getfield 140, 3) := by decide +kernel
theorem dX11_look_7 : decode cX11_look 7 = .ok (.iload_n 3, 1) := by decide +kernel
theorem dX11_look_8 : decode cX11_look 8 = .ok (.invokevirtual 218, 3) := by decide +kernel
theorem dX11_look_11 : decode cX11_look 11 = .ok (.istore 6, 2) := by decide +kernel
theorem dX11_look_13 : decode cX11_look 13 = .ok (.aload_n 0, 1) := by decide +kernel
theorem dX11_look_14 : decode cX11_look 14 = .ok (.iload_n 1, 1) := by decide +kernel
theorem dX11_look_15 : decode cX11_look 15 = .ok (.iload_n 2, 1) := by decide +kernel
theorem dX11_look_16 : decode cX11_look 16 = .ok (.invokevirtual 221, 3) := by decide +kernel
theorem dX11_look_19 : decode cX11_look 19 = .ok (.ifCond .ne 29, 3) := by decide +kernel
theorem dX11_look_22 : decode cX11_look 22 = .ok (.aload_n 0, 1) := by decide +kernel
theorem dX11_look_23 : decode cX11_look 23 = .ok (.iload 4, 2) := by decide +kernel
theorem dX11_look_25 : decode cX11_look 25 = .ok (.invokevirtual 200, 3) := by decide +kernel
theorem dX11_look_28 : decode cX11_look 28 = .ok (.ifCond .ne 20, 3) := by decide +kernel
theorem dX11_look_31 : decode cX11_look 31 = .ok (.iload 6, 2) := by decide +kernel
theorem dX11_look_33 : decode cX11_look 33 = .ok (.iconst (-1), 1) := by decide +kernel
theorem dX11_look_34 : decode cX11_look 34 = .ok (.if_icmp .eq 14, 3) := by decide +kernel
theorem dX11_look_37 : decode cX11_look 37 = .ok (.iload 5, 2) := by decide +kernel
theorem dX11_look_39 : decode cX11_look 39 = .ok (.ifCond .lt 9, 3) := by decide +kernel
theorem dX11_look_42 : decode cX11_look 42 = .ok (.iload 5, 2) := by decide +kernel
theorem dX11_look_44 : decode cX11_look 44 = .ok (.iconst 3, 1) := by decide +kernel
theorem dX11_look_45 : decode cX11_look 45 = .ok (.if_icmp .le 13, 3) := by decide +kernel
theorem dX11_look_48 : decode cX11_look 48 = .ok (.new 169, 3) := by decide +kernel
theorem dX11_look_51 : decode cX11_look 51 = .ok (.dup, 1) := by decide +kernel
theorem dX11_look_52 : decode cX11_look 52 = .ok (.ldc 224, 2) := by decide +kernel
theorem dX11_look_54 : decode cX11_look 54 = .ok (.invokespecial 173, 3) := by decide +kernel
theorem dX11_look_57 : decode cX11_look 57 = .ok (.athrow, 1) := by decide +kernel
theorem dX11_look_58 : decode cX11_look 58 = .ok (.aload_n 0, 1) := by decide +kernel
theorem dX11_look_59 : decode cX11_look 59 = .ok (.getfield 46, 3) := by decide +kernel
theorem dX11_look_62 : decode cX11_look 62 = .ok (.iload_n 1, 1) := by decide +kernel
theorem dX11_look_63 : decode cX11_look 63 = .ok (.iload_n 2, 1) := by decide +kernel
theorem dX11_look_64 : decode cX11_look 64 = .ok (.iload 6, 2) := by decide +kernel
theorem dX11_look_66 : decode cX11_look 66 = .ok (.iload 4, 2) := by decide +kernel
theorem dX11_look_68 : decode cX11_look 68 = .ok (.invokevirtual 226, 3) := by decide +kernel
theorem dX11_look_71 : decode cX11_look 71 = .ok (.istore 7, 2) := by decide +kernel
theorem dX11_look_73 : decode cX11_look 73 = .ok (.iload 5, 2) := by decide +kernel
theorem dX11_look_75 : decode cX11_look 75 = .ok (.ifCond .ne 14, 3) := by decide +kernel
theorem dX11_look_78 : decode cX11_look 78 = .ok (.iload 7, 2) := by decide +kernel
theorem dX11_look_80 : decode cX11_look 80 = .ok (.ifCond .eq 7, 3) := by decide +kernel
theorem dX11_look_83 : decode cX11_look 83 = .ok (.iconst 1, 1) := by decide +kernel
theorem dX11_look_84 : decode cX11_look 84 = .ok (.goto 4, 3) := by decide +kernel
theorem dX11_look_87 : decode cX11_look 87 = .ok (.iconst 0, 1) := by decide +kernel
theorem dX11_look_88 : decode cX11_look 88 = .ok (.ireturn, 1) := by decide +kernel
theorem dX11_look_89 : decode cX11_look 89 = .ok (.iload 7, 2) := by decide +kernel
theorem dX11_look_91 : decode cX11_look 91 = .ok (.ifCond .ne 13, 3) := by decide +kernel
theorem dX11_look_94 : decode cX11_look 94 = .ok (.new 111, 3) := by decide +kernel
theorem dX11_look_97 : decode cX11_look 97 = .ok (.dup, 1) := by decide +kernel
theorem dX11_look_98 : decode cX11_look 98 = .ok (.ldc 230, 2) := by decide +kernel
theorem dX11_look_100 : decode cX11_look 100 = .ok (.invokespecial 115, 3) := by decide +kernel
theorem dX11_look_103 : decode cX11_look 103 = .ok (.athrow, 1) := by decide +kernel
theorem dX11_look_104 : decode cX11_look 104 = .ok (.aload_n 0, 1) := by decide +kernel
theorem dX11_look_105 : decode cX11_look 105 = .ok (.getfield 50, 3) := by decide +kernel
theorem dX11_look_108 : decode cX11_look 108 = .ok (.aload_n 0, 1) := by decide +kernel
theorem dX11_look_109 : decode cX11_look 109 = .ok (.getfield 46, 3) := by decide +kernel
theorem dX11_look_112 : decode cX11_look 112 = .ok (.invokevirtual 232, 3) := by decide +kernel
theorem dX11_look_115 : decode cX11_look 115 = .ok (.aload_n 0, 1) := by decide +kernel
theorem dX11_look_116 : decode cX11_look 116 = .ok (.getfield 50, 3) := by decide +kernel
theorem dX11_look_119 : decode cX11_look 119 = .ok (.iload_n 1, 1) := by decide +kernel
theorem dX11_look_120 : decode cX11_look 120 = .ok (.iload_n 2, 1) := by decide +kernel
theorem dX11_look_121 : decode cX11_look 121 = .ok (.iload 6, 2) := by decide +kernel
theorem dX11_look_123 : decode cX11_look 123 = .ok (.iload 4, 2) := by decide +kernel
theorem dX11_look_125 : decode cX11_look 125 = .ok (.iconst 1, 1) := by decide +kernel
theorem dX11_look_126 : decode cX11_look 126 = .ok (.invokevirtual 235, 3) := by decide +kernel
theorem dX11_look_129 : decode cX11_look 129 = .ok (.aload_n 0, 1) := by decide +kernel
theorem dX11_look_130 : decode cX11_look 130 = .ok (.getfield 50, 3) := by decide +kernel
theorem dX11_look_133 : decode cX11_look 133 = .ok (.iload_n 1, 1) := by decide +kernel
theorem dX11_look_134 : decode cX11_look 134 = .ok (.invokevirtual 196, 3) := by decide +kernel
theorem dX11_look_137 : decode cX11_look 137 = .ok (.aload_n 0, 1) := by decide +kernel
theorem dX11_look_138 : decode cX11_look 138 = .ok (.getfield 46, 3) := by decide +kernel
theorem dX11_look_141 : decode cX11_look 141 = .ok (.iload_n 1, 1) := by decide +kernel
theorem dX11_look_142 : decode cX11_look 142 = .ok (.invokevirtual 196, 3) := by decide +kernel
theorem dX11_look_145 : decode cX11_look 145 = .ok (.isub, 1) := by decide +kernel
theorem dX11_look_146 : decode cX11_look 146 = .ok (.istore 8, 2) := by decide +kernel
theorem dX11_look_148 : decode cX11_look 148 = .ok (.aload_n 0, 1) := by decide +kernel
theorem dX11_look_149 : decode cX11_look 149 = .ok (.getfield 50, 3) := by decide +kernel
theorem dX11_look_152 : decode cX11_look 152 = .ok (.iload_n 2, 1) := by decide +kernel
theorem dX11_look_153 : decode cX11_look 153 = .ok (.invokevirtual 196, 3) := by decide +kernel
theorem dX11_look_156 : decode cX11_look 156 = .ok (.aload_n 0, 1) := by decide +kernel
theorem dX11_look_157 : decode cX11_look 157 = .ok (.getfield 46, 3) := by decide +kernel
theorem dX11_look_160 : decode cX11_look 160 = .ok (.iload_n 2, 1) := by decide +kernel
theorem dX11_look_161 : decode cX11_look 161 = .ok (.invokevirtual 196, 3) := by decide +kernel
theorem dX11_look_164 : decode cX11_look 164 = .ok (.isub, 1) := by decide +kernel
theorem dX11_look_165 : decode cX11_look 165 = .ok (.istore 9, 2) := by decide +kernel
theorem dX11_look_167 : decode cX11_look 167 = .ok (.iload 5, 2) := by decide +kernel
theorem dX11_look_169 : decode cX11_look 169 = .ok (.iconst 1, 1) := by decide +kernel
theorem dX11_look_170 : decode cX11_look 170 = .ok (.if_icmp .ne 6, 3) := by decide +kernel
theorem dX11_look_173 : decode cX11_look 173 = .ok (.iload 8, 2) := by decide +kernel
theorem dX11_look_175 : decode cX11_look 175 = .ok (.ireturn, 1) := by decide +kernel
theorem dX11_look_176 : decode cX11_look 176 = .ok (.iload 5, 2) := by decide +kernel
theorem dX11_look_178 : decode cX11_look 178 = .ok (.iconst 2, 1) := by decide +kernel
theorem dX11_look_179 : decode cX11_look 179 = .ok (.if_icmp .ne 6, 3) := by decide +kernel
theorem dX11_look_182 : decode cX11_look 182 = .ok (.iload 9, 2) := by decide +kernel
theorem dX11_look_184 : decode cX11_look 184 = .ok (.ireturn, 1) := by decide +kernel
theorem dX11_look_185 : decode cX11_look 185 = .ok (.iload 8, 2) := by decide +kernel
theorem dX11_look_187 : decode cX11_look 187 = .ok (.ifCond .le 16, 3) := by decide +kernel
theorem dX11_look_190 : decode cX11_look 190 = .ok (.iload 9, 2) := by decide +kernel
theorem dX11_look_192 : decode cX11_look 192 = .ok (.ifCond .le 11, 3) := by decide +kernel
theorem dX11_look_195 : decode cX11_look 195 = .ok (.iload 8, 2) := by decide +kernel
theorem dX11_look_197 : decode cX11_look 197 = .ok (.iload 9, 2) := by decide +kernel
theorem dX11_look_199 : decode cX11_look 199 = .ok (.iadd, 1) := by decide +kernel
theorem dX11_look_200 : decode cX11_look 200 = .ok (.goto 4, 3) := by decide +kernel
theorem dX11_look_203 : decode cX11_look 203 = .ok (.iconst 0, 1) := by decide +kernel
theorem dX11_look_204 : decode cX11_look 204 = .ok (.ireturn, 1) := by decide +kernel
theorem dX11_trade_0 : decode cX11_trade 0 = .ok (.aload_n 0, 1) := by decide +kernel
theorem dX11_trade_1 : decode cX11_trade 1 = .ok (.getfield 16, 3) := by decide +kernel
theorem dX11_trade_4 : decode cX11_trade 4 = .ok (.getfield 140, 3) := by decide +kernel
theorem dX11_trade_7 : decode cX11_trade 7 = .ok (.iload_n 3, 1) := by decide +kernel
theorem dX11_trade_8 : decode cX11_trade 8 = .ok (.invokevirtual 218, 3) := by decide +kernel
theorem dX11_trade_11 : decode cX11_trade 11 = .ok (.istore 5, 2) := by decide +kernel
theorem dX11_trade_13 : decode cX11_trade 13 = .ok (.aload_n 0, 1) := by decide +kernel
theorem dX11_trade_14 : decode cX11_trade 14 = .ok (.iload_n 1, 1) := by decide +kernel
theorem dX11_trade_15 : decode cX11_trade 15 = .ok (.iload_n 2, 1) := by decide +kernel
theorem dX11_trade_16 : decode cX11_trade 16 = .ok (.invokevirtual 221, 3) := by decide +kernel
theorem dX11_trade_19 : decode cX11_trade 19 = .ok (.ifCond .ne 18, 3) := by decide +kernel
theorem dX11_trade_22 : decode cX11_trade 22 = .ok (.aload_n 0, 1) := by decide +kernel
theorem dX11_trade_23 : decode cX11_trade 23 = .ok (.iload 4, 2) := by decide +kernel
theorem dX11_trade_25 : decode cX11_trade 25 = .ok (.invokevirtual 200, 3) := by decide +kernel
theorem dX11_trade_28 : decode cX11_trade 28 = .ok (.ifCond .ne 9, 3) := by decide +kernel
theorem dX11_trade_31 : decode cX11_trade 31 = .ok (.iload 5, 2) := by decide +kernel
theorem dX11_trade_33 : decode cX11_trade 33 = .ok (.iconst (-1), 1) := by decide +kernel
theorem dX11_trade_34 : decode cX11_trade 34 = .ok (.if_icmp .ne 13, 3) := by decide +kernel
theorem dX11_trade_37 : decode cX11_trade 37 = .ok (.new 169, 3) := by decide +kernel
theorem dX11_trade_40 : decode cX11_trade 40 = .ok (.dup, 1) := by decide +kernel
theorem dX11_trade_41 : decode cX11_trade 41 = .ok (.ldc 239, 2) := by decide +kernel
theorem dX11_trade_43 : decode cX11_trade 43 = .ok (.invokespecial 173, 3) := by decide +kernel
theorem dX11_trade_46 : decode cX11_trade 46 = .ok (.athrow, 1) := by decide +kernel
theorem dX11_trade_47 : decode cX11_trade 47 = .ok (.aload_n 0, 1) := by decide +kernel
theorem dX11_trade_48 : decode cX11_trade 48 = .ok (.getfield 46, 3) := by decide +kernel
theorem dX11_trade_51 : decode cX11_trade 51 = .ok (.iload_n 1, 1) := by decide +kernel
theorem dX11_trade_52 : decode cX11_trade 52 = .ok (.iload_n 2, 1) := by decide +kernel
theorem dX11_trade_53 : decode cX11_trade 53 = .ok (.iload 5, 2) := by decide +kernel
theorem dX11_trade_55 : decode cX11_trade 55 = .ok (.iload 4, 2) := by decide +kernel
theorem dX11_trade_57 : decode cX11_trade 57 = .ok (.invokevirtual 226, 3) := by decide +kernel
theorem dX11_trade_60 : decode cX11_trade 60 = .ok (.ifCond .ne 15, 3) := by decide +kernel
theorem dX11_trade_63 : decode cX11_trade 63 = .ok (.aload_n 0, 1) := by decide +kernel
theorem dX11_trade_64 : decode cX11_trade 64 = .ok (.dup, 1) := by decide +kernel
theorem dX11_trade_65 : decode cX11_trade 65 = .ok (.getfield 163, 3) := by decide +kernel
theorem dX11_trade_68 : decode cX11_trade 68 = .ok (.iconst 1, 1) := by decide +kernel
theorem dX11_trade_69 : decode cX11_trade 69 = .ok (.iadd, 1) := by decide +kernel
theorem dX11_trade_70 : decode cX11_trade 70 = .ok (.putfield 163, 3) := by decide +kernel
theorem dX11_trade_73 : decode cX11_trade 73 = .ok (.iconst 0, 1) := by decide +kernel
theorem dX11_trade_74 : decode cX11_trade 74 = .ok (.ireturn, 1) := by decide +kernel
theorem dX11_trade_75 : decode cX11_trade 75 = .ok (.aload_n 0, 1) := by decide +kernel
theorem dX11_trade_76 : decode cX11_trade 76 = .ok (.getfield 46, 3) := by decide +kernel
theorem dX11_trade_79 : decode cX11_trade 79 = .ok (.iload_n 1, 1) := by decide +kernel
theorem dX11_trade_80 : decode cX11_trade 80 = .ok (.iload_n 2, 1) := by decide +kernel
theorem dX11_trade_81 : decode cX11_trade 81 = .ok (.iload 5, 2) := by decide +kernel
theorem dX11_trade_83 : decode cX11_trade 83 = .ok (.iload 4, 2) := by decide +kernel
theorem dX11_trade_85 : decode cX11_trade 85 = .ok (.iconst 1, 1) := by decide +kernel
theorem dX11_trade_86 : decode cX11_trade 86 = .ok (.invokevirtual 235, 3) := by decide +kernel
theorem dX11_trade_89 : decode cX11_trade 89 = .ok (.iconst 1, 1) := by decide +kernel
theorem dX11_trade_90 : decode cX11_trade 90 = .ok (.ireturn, 1) := by decide +kernel
theorem dX11_tie_0 : decode cX11_tie 0 = .ok (.aload_n 0, 1) := by decide +kernel
theorem dX11_tie_1 : decode cX11_tie 1 = .ok (.iload_n 1, 1) := by decide +kernel
theorem dX11_tie_2 : decode cX11_tie 2 = .ok (.invokevirtual 190, 3) := by decide +kernel
theorem dX11_tie_5 : decode cX11_tie 5 = .ok (.ifCond .ne 18, 3) := by decide +kernel
theorem dX11_tie_8 : decode cX11_tie 8 = .ok (.iload_n 2, 1) := by decide +kernel
theorem dX11_tie_9 : decode cX11_tie 9 = .ok (.ifCond .lt 14, 3) := by decide +kernel
theorem dX11_tie_12 : decode cX11_tie 12 = .ok (.iload_n 2, 1) := by decide +kernel
theorem dX11_tie_13 : decode cX11_tie 13 = .ok (.aload_n 0, 1) := by decide +kernel
theorem dX11_tie_14 : decode cX11_tie 14 = .ok (.getfield 16, 3) := by decide +kernel
theorem dX11_tie_17 : decode cX11_tie 17 = .ok (.getfield 153, 3) := by decide +kernel
theorem dX11_tie_20 : decode cX11_tie 20 = .ok (.if_icmp .lt 13, 3) := by decide +kernel
theorem dX11_tie_23 : decode cX11_tie 23 = .ok (.new 169, 3) := by decide +kernel
theorem dX11_tie_26 : decode cX11_tie 26 = .ok (.dup, 1) := by decide +kernel
theorem dX11_tie_27 : decode cX11_tie 27 = .ok (.ldc 241, 2) := by decide +kernel
theorem dX11_tie_29 : decode cX11_tie 29 = .ok (.invokespecial 173, 3) := by decide +kernel
theorem dX11_tie_32 : decode cX11_tie 32 = .ok (.athrow, 1) := by decide +kernel
theorem dX11_tie_33 : decode cX11_tie 33 = .ok (.aload_n 0, 1) := by decide +kernel
theorem dX11_tie_34 : decode cX11_tie 34 = .ok (.getfield 46, 3) := by decide +kernel
theorem dX11_tie_37 : decode cX11_tie 37 = .ok (.iload_n 1, 1) := by decide +kernel
theorem dX11_tie_38 : decode cX11_tie 38 = .ok (.iload_n 2, 1) := by decide +kernel
theorem dX11_tie_39 : decode cX11_tie 39 = .ok (.invokevirtual 243, 3) := by decide +kernel
theorem dX11_tie_42 : decode cX11_tie 42 = .ok (.ifCond .ne 15, 3) := by decide +kernel
theorem dX11_tie_45 : decode cX11_tie 45 = .ok (.aload_n 0, 1) := by decide +kernel
theorem dX11_tie_46 : decode cX11_tie 46 = .ok (.dup, 1) := by decide +kernel
theorem dX11_tie_47 : decode cX11_tie 47 = .ok (.getfield 166, 3) := by decide +kernel
theorem dX11_tie_50 : decode cX11_tie 50 = .ok (.iconst 1, 1) := by decide +kernel
theorem dX11_tie_51 : decode cX11_tie 51 = .ok (.iadd, 1) := by decide +kernel
theorem dX11_tie_52 : decode cX11_tie 52 = .ok (.putfield 166, 3) := by decide +kernel
theorem dX11_tie_55 : decode cX11_tie 55 = .ok (.iconst 0, 1) := by decide +kernel
theorem dX11_tie_56 : decode cX11_tie 56 = .ok (.ireturn, 1) := by decide +kernel
theorem dX11_tie_57 : decode cX11_tie 57 = .ok (.aload_n 0, 1) := by decide +kernel
theorem dX11_tie_58 : decode cX11_tie 58 = .ok (.getfield 46, 3) := by decide +kernel
theorem dX11_tie_61 : decode cX11_tie 61 = .ok (.iload_n 1, 1) := by decide +kernel
theorem dX11_tie_62 : decode cX11_tie 62 = .ok (.iload_n 2, 1) := by decide +kernel
theorem dX11_tie_63 : decode cX11_tie 63 = .ok (.iconst 1, 1) := by decide +kernel
theorem dX11_tie_64 : decode cX11_tie 64 = .ok (.invokevirtual 246, 3) := by decide +kernel
theorem dX11_tie_67 : decode cX11_tie 67 = .ok (.iconst 1, 1) := by decide +kernel
theorem dX11_tie_68 : decode cX11_tie 68 = .ok (.ireturn, 1) := by decide +kernel
theorem dX11_come_0 : decode cX11_come 0 = .ok (.aload_n 0, 1) := by decide +kernel
theorem dX11_come_1 : decode cX11_come 1 = .ok (.iload_n 1, 1) := by decide +kernel
theorem dX11_come_2 : decode cX11_come 2 = .ok (.iload_n 2, 1) := by decide +kernel
theorem dX11_come_3 : decode cX11_come 3 = .ok (.invokevirtual 174, 3) := by decide +kernel
theorem dX11_come_6 : decode cX11_come 6 = .ok (.ifCond .eq 13, 3) := by decide +kernel
theorem dX11_come_9 : decode cX11_come 9 = .ok (.new 169, 3) := by decide +kernel
theorem dX11_come_12 : decode cX11_come 12 = .ok (.dup, 1) := by decide +kernel
theorem dX11_come_13 : decode cX11_come 13 = .ok (.ldc 178, 2) := by decide +kernel
theorem dX11_come_15 : decode cX11_come 15 = .ok (.invokespecial 173, 3) := by decide +kernel
theorem dX11_come_18 : decode cX11_come 18 = .ok (.athrow, 1) := by decide +kernel
theorem dX11_come_19 : decode cX11_come 19 = .ok (.aload_n 0, 1) := by decide +kernel
theorem dX11_come_20 : decode cX11_come 20 = .ok (.getfield 65, 3) := by decide +kernel
theorem dX11_come_23 : decode cX11_come 23 = .ok (.aload_n 0, 1) := by decide +kernel
theorem dX11_come_24 : decode cX11_come 24 = .ok (.getfield 46, 3) := by decide +kernel
theorem dX11_come_27 : decode cX11_come 27 = .ok (.iload_n 1, 1) := by decide +kernel
theorem dX11_come_28 : decode cX11_come 28 = .ok (.iload_n 2, 1) := by decide +kernel
theorem dX11_come_29 : decode cX11_come 29 = .ok (.sipush 1000, 3) := by decide +kernel
theorem dX11_come_32 : decode cX11_come 32 = .ok (.invokevirtual 250, 3) := by decide +kernel
theorem dX11_come_35 : decode cX11_come 35 = .ok (.istore_n 3, 1) := by decide +kernel
theorem dX11_come_36 : decode cX11_come 36 = .ok (.iload_n 3, 1) := by decide +kernel
theorem dX11_come_37 : decode cX11_come 37 = .ok (.ifCond .ge 5, 3) := by decide +kernel
theorem dX11_come_40 : decode cX11_come 40 = .ok (.iload_n 3, 1) := by decide +kernel
theorem dX11_come_41 : decode cX11_come 41 = .ok (.ireturn, 1) := by decide +kernel
theorem dX11_come_42 : decode cX11_come 42 = .ok (.aload_n 0, 1) := by decide +kernel
theorem dX11_come_43 : decode cX11_come 43 = .ok (.getfield 100, 3) := by decide +kernel
theorem dX11_come_46 : decode cX11_come 46 = .ok (.aload_n 0, 1) := by decide +kernel
theorem dX11_come_47 : decode cX11_come 47 = .ok (.getfield 65, 3) := by decide +kernel
theorem dX11_come_50 : decode cX11_come 50 = .ok (.iload_n 3, 1) := by decide +kernel
theorem dX11_come_51 : decode cX11_come 51 = .ok (.aload_n 0, 1) := by decide +kernel
theorem dX11_come_52 : decode cX11_come 52 = .ok (.getfield 100, 3) := by decide +kernel
theorem dX11_come_55 : decode cX11_come 55 = .ok (.getfield 254, 3) := by decide +kernel
theorem dX11_come_58 : decode cX11_come 58 = .ok (.invokevirtual 257, 3) := by decide +kernel
theorem dX11_come_61 : decode cX11_come 61 = .ok (.putfield 261, 3) := by decide +kernel
theorem dX11_come_64 : decode cX11_come 64 = .ok (.aload_n 0, 1) := by decide +kernel
theorem dX11_come_65 : decode cX11_come 65 = .ok (.getfield 100, 3) := by decide +kernel
theorem dX11_come_68 : decode cX11_come 68 = .ok (.getfield 261, 3) := by decide +kernel
theorem dX11_come_71 : decode cX11_come 71 = .ok (.ireturn, 1) := by decide +kernel
theorem dX11_step_0 : decode cX11_step 0 = .ok (.iload_n 1, 1) := by decide +kernel
theorem dX11_step_1 : decode cX11_step 1 = .ok (.ifCond .lt 23, 3) := by decide +kernel
theorem dX11_step_4 : decode cX11_step 4 = .ok (.iload_n 1, 1) := by decide +kernel
theorem dX11_step_5 : decode cX11_step 5 = .ok (.aload_n 0, 1) := by decide +kernel
theorem dX11_step_6 : decode cX11_step 6 = .ok (.getfield 100, 3) := by decide +kernel
theorem dX11_step_9 : decode cX11_step 9 = .ok (.getfield 261, 3) := by decide +kernel
theorem dX11_step_12 : decode cX11_step 12 = .ok (.if_icmp .ge 12, 3) := by decide +kernel
theorem dX11_step_15 : decode cX11_step 15 = .ok (.iload_n 2, 1) := by decide +kernel
theorem dX11_step_16 : decode cX11_step 16 = .ok (.ifCond .lt 8, 3) := by decide +kernel
theorem dX11_step_19 : decode cX11_step 19 = .ok (.iload_n 2, 1) := by decide +kernel
theorem dX11_step_20 : decode cX11_step 20 = .ok (.iconst 3, 1) := by decide +kernel
theorem dX11_step_21 : decode cX11_step 21 = .ok (.if_icmp .le 14, 3) := by decide +kernel
theorem dX11_step_24 : decode cX11_step 24 = .ok (.new 169, 3) := by decide +kernel
theorem dX11_step_27 : decode cX11_step 27 = .ok (.dup, 1) := by decide +kernel
theorem dX11_step_28 : decode cX11_step 28 = .ok (.ldc_w 264, 3) := by decide +kernel
theorem dX11_step_31 : decode cX11_step 31 = .ok (.invokespecial 173, 3) := by decide +kernel
theorem dX11_step_34 : decode cX11_step 34 = .ok (.athrow, 1) := by decide +kernel
theorem dX11_step_35 : decode cX11_step 35 = .ok (.aload_n 0, 1) := by decide +kernel
theorem dX11_step_36 : decode cX11_step 36 = .ok (.getfield 100, 3) := by decide +kernel
theorem dX11_step_39 : decode cX11_step 39 = .ok (.getfield 254, 3) := by decide +kernel
theorem dX11_step_42 : decode cX11_step 42 = .ok (.iload_n 1, 1) := by decide +kernel
theorem dX11_step_43 : decode cX11_step 43 = .ok (.iaload, 1) := by decide +kernel
theorem dX11_step_44 : decode cX11_step 44 = .ok (.istore_n 3, 1) := by decide +kernel
theorem dX11_step_45 : decode cX11_step 45 = .ok (.iload_n 3, 1) := by decide +kernel
theorem dX11_step_46 : decode cX11_step 46 = .ok (.ldc_w 266, 3) := by decide +kernel
theorem dX11_step_49 : decode cX11_step 49 = .ok (.if_icmp .ge 12, 3) := by decide +kernel
theorem dX11_step_52 : decode cX11_step 52 = .ok (.aload_n 0, 1) := by decide +kernel
theorem dX11_step_53 : decode cX11_step 53 = .ok (.iload_n 3, 1) := by decide +kernel
theorem dX11_step_54 : decode cX11_step 54 = .ok (.iload_n 2, 1) := by decide +kernel
theorem dX11_step_55 : decode cX11_step 55 = .ok (.invokevirtual 267, 3) := by decide +kernel
theorem dX11_step_58 : decode cX11_step 58 = .ok (.goto 12, 3) := by decide +kernel
theorem dX11_step_61 : decode cX11_step 61 = .ok (.iload_n 3, 1) := by decide +kernel
theorem dX11_step_62 : decode cX11_step 62 = .ok (.ldc_w 266, 3) := by decide +kernel
theorem dX11_step_65 : decode cX11_step 65 = .ok (.isub, 1) := by decide +kernel
theorem dX11_step_66 : decode cX11_step 66 = .ok (.iload_n 2, 1) := by decide +kernel
theorem dX11_step_67 : decode cX11_step 67 = .ok (.invokestatic 271, 3) := by decide +kernel
theorem dX11_step_70 : decode cX11_step 70 = .ok (.ireturn, 1) := by decide +kernel
theorem dX11_poor_0 : decode cX11_poor 0 = .ok (.aload_n 0, 1) := by decide +kernel
theorem dX11_poor_1 : decode cX11_poor 1 = .ok (.iload_n 1, 1) := by decide +kernel
theorem dX11_poor_2 : decode cX11_poor 2 = .ok (.iload_n 2, 1) := by decide +kernel
theorem dX11_poor_3 : decode cX11_poor 3 = .ok (.invokevirtual 174, 3) := by decide +kernel
theorem dX11_poor_6 : decode cX11_poor 6 = .ok (.ifCond .eq 13, 3) := by decide +kernel
theorem dX11_poor_9 : decode cX11_poor 9 = .ok (.new 169, 3) := by decide +kernel
theorem dX11_poor_12 : decode cX11_poor 12 = .ok (.dup, 1) := by decide +kernel
theorem dX11_poor_13 : decode cX11_poor 13 = .ok (.ldc 178, 2) := by decide +kernel
theorem dX11_poor_15 : decode cX11_poor 15 = .ok (.invokespecial 173, 3) := by decide +kernel
theorem dX11_poor_18 : decode cX11_poor 18 = .ok (.athrow, 1) := by decide +kernel
theorem dX11_poor_19 : decode cX11_poor 19 = .ok (.iconst 0, 1) := by decide +kernel
theorem dX11_poor_20 : decode cX11_poor 20 = .ok (.istore_n 3, 1) := by decide +kernel
theorem dX11_poor_21 : decode cX11_poor 21 = .ok (.aload_n 0, 1) := by decide +kernel
theorem dX11_poor_22 : decode cX11_poor 22 = .ok (.getfield 79, 3) := by decide +kernel
theorem dX11_poor_25 : decode cX11_poor 25 = .ok (.aload_n 0, 1) := by decide +kernel
theorem dX11_poor_26 : decode cX11_poor 26 = .ok (.getfield 46, 3) := by decide +kernel
theorem dX11_poor_29 : decode cX11_poor 29 = .ok (.iload_n 1, 1) := by decide +kernel
theorem dX11_poor_30 : decode cX11_poor 30 = .ok (.invokevirtual 274, 3) := by decide +kernel
theorem dX11_poor_33 : decode cX11_poor 33 = .ok (.iconst 0, 1) := by decide +kernel
theorem dX11_poor_34 : decode cX11_poor 34 = .ok (.istore 4, 2) := by decide +kernel
theorem dX11_poor_36 : decode cX11_poor 36 = .ok (.iload 4, 2) := by decide +kernel
theorem dX11_poor_38 : decode cX11_poor 38 = .ok (.aload_n 0, 1) := by decide +kernel
theorem dX11_poor_39 : decode cX11_poor 39 = .ok (.getfield 79, 3) := by decide +kernel
theorem dX11_poor_42 : decode cX11_poor 42 = .ok (.getfield 278, 3) := by decide +kernel
theorem dX11_poor_45 : decode cX11_poor 45 = .ok (.if_icmp .gt 133, 3) := by decide +kernel
theorem dX11_poor_48 : decode cX11_poor 48 = .ok (.aload_n 0, 1) := by decide +kernel
theorem dX11_poor_49 : decode cX11_poor 49 = .ok (.getfield 79, 3) := by decide +kernel
theorem dX11_poor_52 : decode cX11_poor 52 = .ok (.iconst 0, 1) := by decide +kernel
theorem dX11_poor_53 : decode cX11_poor 53 = .ok (.iload 4, 2) := by decide +kernel
theorem dX11_poor_55 : decode cX11_poor 55 = .ok (.invokevirtual 280, 3) := by decide +kernel
theorem dX11_poor_58 : decode cX11_poor 58 = .ok (.iconst 1, 1) := by decide +kernel
theorem dX11_poor_59 : decode cX11_poor 59 = .ok (.istore 5, 2) := by decide +kernel
theorem dX11_poor_61 : decode cX11_poor 61 = .ok (.iconst 0, 1) := by decide +kernel
theorem dX11_poor_62 : decode cX11_poor 62 = .ok (.istore 6, 2) := by decide +kernel
theorem dX11_poor_64 : decode cX11_poor 64 = .ok (.iload 6, 2) := by decide +kernel
theorem dX11_poor_66 : decode cX11_poor 66 = .ok (.bipush 100, 2) := by decide +kernel
theorem dX11_poor_68 : decode cX11_poor 68 = .ok (.if_icmp .gt 104, 3) := by decide +kernel
theorem dX11_poor_71 : decode cX11_poor 71 = .ok (.iload 5, 2) := by decide +kernel
theorem dX11_poor_73 : decode cX11_poor 73 = .ok (.ifCond .eq 99, 3) := by decide +kernel
theorem dX11_poor_76 : decode cX11_poor 76 = .ok (.iload_n 3, 1) := by decide +kernel
theorem dX11_poor_77 : decode cX11_poor 77 = .ok (.bipush 100, 2) := by decide +kernel
theorem dX11_poor_79 : decode cX11_poor 79 = .ok (.if_icmp .lt 6, 3) := by decide +kernel
theorem dX11_poor_82 : decode cX11_poor 82 = .ok (.bipush (-2), 2) := by decide +kernel
theorem dX11_poor_84 : decode cX11_poor 84 = .ok (.ireturn, 1) := by decide +kernel
theorem dX11_poor_85 : decode cX11_poor 85 = .ok (.iinc 3 1, 3) := by decide +kernel
theorem dX11_poor_88 : decode cX11_poor 88 = .ok (.aload_n 0, 1) := by decide +kernel
theorem dX11_poor_89 : decode cX11_poor 89 = .ok (.getfield 50, 3) := by decide +kernel
theorem dX11_poor_92 : decode cX11_poor 92 = .ok (.aload_n 0, 1) := by decide +kernel
theorem dX11_poor_93 : decode cX11_poor 93 = .ok (.getfield 46, 3) := by decide +kernel
theorem dX11_poor_96 : decode cX11_poor 96 = .ok (.iload_n 1, 1) := by decide +kernel
theorem dX11_poor_97 : decode cX11_poor 97 = .ok (.aload_n 0, 1) := by decide +kernel
theorem dX11_poor_98 : decode cX11_poor 98 = .ok (.getfield 79, 3) := by decide +kernel
theorem dX11_poor_101 : decode cX11_poor 101 = .ok (.getfield 284, 3) := by decide +kernel
theorem dX11_poor_104 : decode cX11_poor 104 = .ok (.invokevirtual 287, 3) := by decide +kernel
theorem dX11_poor_107 : decode cX11_poor 107 = .ok (.aload_n 0, 1) := by decide +kernel
theorem dX11_poor_108 : decode cX11_poor 108 = .ok (.getfield 65, 3) := by decide +kernel
theorem dX11_poor_111 : decode cX11_poor 111 = .ok (.aload_n 0, 1) := by decide +kernel
theorem dX11_poor_112 : decode cX11_poor 112 = .ok (.getfield 50, 3) := by decide +kernel
theorem dX11_poor_115 : decode cX11_poor 115 = .ok (.iload_n 1, 1) := by decide +kernel
theorem dX11_poor_116 : decode cX11_poor 116 = .ok (.iload_n 2, 1) := by decide +kernel
theorem dX11_poor_117 : decode cX11_poor 117 = .ok (.sipush 300, 3) := by decide +kernel
theorem dX11_poor_120 : decode cX11_poor 120 = .ok (.invokevirtual 250, 3) := by decide +kernel
theorem dX11_poor_123 : decode cX11_poor 123 = .ok (.istore 7, 2) := by decide +kernel
theorem dX11_poor_125 : decode cX11_poor 125 = .ok (.iload 7, 2) := by decide +kernel
theorem dX11_poor_127 : decode cX11_poor 127 = .ok (.bipush (-2), 2) := by decide +kernel
theorem dX11_poor_129 : decode cX11_poor 129 = .ok (.if_icmp .ne 6, 3) := by decide +kernel
theorem dX11_poor_132 : decode cX11_poor 132 = .ok (.bipush (-2), 2) := by decide +kernel
theorem dX11_poor_134 : decode cX11_poor 134 = .ok (.ireturn, 1) := by decide +kernel
theorem dX11_poor_135 : decode cX11_poor 135 = .ok (.iload 7, 2) := by decide +kernel
theorem dX11_poor_137 : decode cX11_poor 137 = .ok (.ifCond .lt 20, 3) := by decide +kernel
theorem dX11_poor_140 : decode cX11_poor 140 = .ok (.aload_n 0, 1) := by decide +kernel
theorem dX11_poor_141 : decode cX11_poor 141 = .ok (.getfield 100, 3) := by decide +kernel
theorem dX11_poor_144 : decode cX11_poor 144 = .ok (.aload_n 0, 1) := by decide +kernel
theorem dX11_poor_145 : decode cX11_poor 145 = .ok (.getfield 79, 3) := by decide +kernel
theorem dX11_poor_148 : decode cX11_poor 148 = .ok (.getfield 284, 3) := by decide +kernel
theorem dX11_poor_151 : decode cX11_poor 151 = .ok (.invokevirtual 291, 3) := by decide +kernel
theorem dX11_poor_154 : decode cX11_poor 154 = .ok (.iload 4, 2) := by decide +kernel
theorem dX11_poor_156 : decode cX11_poor 156 = .ok (.ireturn, 1) := by decide +kernel
theorem dX11_poor_157 : decode cX11_poor 157 = .ok (.aload_n 0, 1) := by decide +kernel
theorem dX11_poor_158 : decode cX11_poor 158 = .ok (.getfield 79, 3) := by decide +kernel
theorem dX11_poor_161 : decode cX11_poor 161 = .ok (.invokevirtual 295, 3) := by decide +kernel
theorem dX11_poor_164 : decode cX11_poor 164 = .ok (.istore 5, 2) := by decide +kernel
theorem dX11_poor_166 : decode cX11_poor 166 = .ok (.iinc 6 1, 3) := by decide +kernel
theorem dX11_poor_169 : decode cX11_poor 169 = .ok (.goto (-105), 3) := by decide +kernel
theorem dX11_poor_172 : decode cX11_poor 172 = .ok (.iinc 4 1, 3) := by decide +kernel
theorem dX11_poor_175 : decode cX11_poor 175 = .ok (.goto (-139), 3) := by decide +kernel
theorem dX11_poor_178 : decode cX11_poor 178 = .ok (.iconst (-1), 1) := by decide +kernel
theorem dX11_poor_179 : decode cX11_poor 179 = .ok (.ireturn, 1) := by decide +kernel
theorem dX11_bag_0 : decode cX11_bag 0 = .ok (.aload_n 0, 1) := by decide +kernel
theorem dX11_bag_1 : decode cX11_bag 1 = .ok (.getfield 100, 3) := by decide +kernel
theorem dX11_bag_4 : decode cX11_bag 4 = .ok (.getfield 299, 3) := by decide +kernel
theorem dX11_bag_7 : decode cX11_bag 7 = .ok (.ifCond .eq 11, 3) := by decide +kernel
theorem dX11_bag_10 : decode cX11_bag 10 = .ok (.aload_n 0, 1) := by decide +kernel
theorem dX11_bag_11 : decode cX11_bag 11 = .ok (.iload_n 1, 1) := by decide +kernel
theorem dX11_bag_12 : decode cX11_bag 12 = .ok (.invokevirtual 200, 3) := by decide +kernel
theorem dX11_bag_15 : decode cX11_bag 15 = .ok (.ifCond .eq 14, 3) := by decide +kernel
theorem dX11_bag_18 : decode cX11_bag 18 = .ok (.new 169, 3) := by decide +kernel
theorem dX11_bag_21 : decode cX11_bag 21 = .ok (.dup, 1) := by decide +kernel
theorem dX11_bag_22 : decode cX11_bag 22 = .ok (.ldc_w 302, 3) := by decide +kernel
theorem dX11_bag_25 : decode cX11_bag 25 = .ok (.invokespecial 173, 3) := by decide +kernel
theorem dX11_bag_28 : decode cX11_bag 28 = .ok (.athrow, 1) := by decide +kernel
theorem dX11_bag_29 : decode cX11_bag 29 = .ok (.aload_n 0, 1) := by decide +kernel
theorem dX11_bag_30 : decode cX11_bag 30 = .ok (.getfield 100, 3) := by decide +kernel
theorem dX11_bag_33 : decode cX11_bag 33 = .ok (.getfield 304, 3) := by decide +kernel
theorem dX11_bag_36 : decode cX11_bag 36 = .ok (.iload_n 1, 1) := by decide +kernel
theorem dX11_bag_37 : decode cX11_bag 37 = .ok (.iaload, 1) := by decide +kernel
theorem dX11_bag_38 : decode cX11_bag 38 = .ok (.ireturn, 1) := by decide +kernel
theorem dX11_most_0 : decode cX11_most 0 = .ok (.aload_n 0, 1) := by decide +kernel
theorem dX11_most_1 : decode cX11_most 1 = .ok (.getfield 65, 3) := by decide +kernel
theorem dX11_most_4 : decode cX11_most 4 = .ok (.aload_n 0, 1) := by decide +kernel
theorem dX11_most_5 : decode cX11_most 5 = .ok (.getfield 46, 3) := by decide +kernel
theorem dX11_most_8 : decode cX11_most 8 = .ok (.sipush 400, 3) := by decide +kernel
theorem dX11_most_11 : decode cX11_most 11 = .ok (.invokevirtual 307, 3) := by decide +kernel
theorem dX11_most_14 : decode cX11_most 14 = .ok (.istore_n 1, 1) := by decide +kernel
theorem dX11_most_15 : decode cX11_most 15 = .ok (.iload_n 1, 1) := by decide +kernel
theorem dX11_most_16 : decode cX11_most 16 = .ok (.ifCond .ge 6, 3) := by decide +kernel
theorem dX11_most_19 : decode cX11_most 19 = .ok (.bipush (-2), 2) := by decide +kernel
theorem dX11_most_21 : decode cX11_most 21 = .ok (.ireturn, 1) := by decide +kernel
theorem dX11_most_22 : decode cX11_most 22 = .ok (.aload_n 0, 1) := by decide +kernel
theorem dX11_most_23 : decode cX11_most 23 = .ok (.getfield 100, 3) := by decide +kernel
theorem dX11_most_26 : decode cX11_most 26 = .ok (.aload_n 0, 1) := by decide +kernel
theorem dX11_most_27 : decode cX11_most 27 = .ok (.getfield 65, 3) := by decide +kernel
theorem dX11_most_30 : decode cX11_most 30 = .ok (.iload_n 1, 1) := by decide +kernel
theorem dX11_most_31 : decode cX11_most 31 = .ok (.aload_n 0, 1) := by decide +kernel
theorem dX11_most_32 : decode cX11_most 32 = .ok (.getfield 100, 3) := by decide +kernel
theorem dX11_most_35 : decode cX11_most 35 = .ok (.getfield 254, 3) := by decide +kernel
theorem dX11_most_38 : decode cX11_most 38 = .ok (.invokevirtual 257, 3) := by decide +kernel
theorem dX11_most_41 : decode cX11_most 41 = .ok (.putfield 261, 3) := by decide +kernel
theorem dX11_most_44 : decode cX11_most 44 = .ok (.aload_n 0, 1) := by decide +kernel
theorem dX11_most_45 : decode cX11_most 45 = .ok (.getfield 65, 3) := by decide +kernel
theorem dX11_most_48 : decode cX11_most 48 = .ok (.iload_n 1, 1) := by decide +kernel
theorem dX11_most_49 : decode cX11_most 49 = .ok (.invokevirtual 311, 3) := by decide +kernel
theorem dX11_most_52 : decode cX11_most 52 = .ok (.ireturn, 1) := by decide +kernel
theorem dX11_freely_0 : decode cX11_freely 0 = .ok (.iconst 0, 1) := by decide +kernel
theorem dX11_freely_1 : decode cX11_freely 1 = .ok (.istore_n 1, 1) := by decide +kernel
theorem dX11_freely_2 : decode cX11_freely 2 = .ok (.iconst 0, 1) := by decide +kernel
theorem dX11_freely_3 : decode cX11_freely 3 = .ok (.istore_n 2, 1) := by decide +kernel
theorem dX11_freely_4 : decode cX11_freely 4 = .ok (.iload_n 2, 1) := by decide +kernel
theorem dX11_freely_5 : decode cX11_freely 5 = .ok (.aload_n 0, 1) := by decide +kernel
theorem dX11_freely_6 : decode cX11_freely 6 = .ok (.getfield 16, 3) := by decide +kernel
theorem dX11_freely_9 : decode cX11_freely 9 = .ok (.getfield 137, 3) := by decide +kernel
theorem dX11_freely_12 : decode cX11_freely 12 = .ok (.if_icmp .ge 32, 3) := by decide +kernel
theorem dX11_freely_15 : decode cX11_freely 15 = .ok (.iload_n 1, 1) := by decide +kernel
theorem dX11_freely_16 : decode cX11_freely 16 = .ok (.aload_n 0, 1) := by decide +kernel
theorem dX11_freely_17 : decode cX11_freely 17 = .ok (.getfield 46, 3) := by decide +kernel
theorem dX11_freely_20 : decode cX11_freely 20 = .ok (.iload_n 2, 1) := by decide +kernel
theorem dX11_freely_21 : decode cX11_freely 21 = .ok (.invokevirtual 205, 3) := by decide +kernel
theorem dX11_freely_24 : decode cX11_freely 24 = .ok (.aload_n 0, 1) := by decide +kernel
theorem dX11_freely_25 : decode cX11_freely 25 = .ok (.getfield 16, 3) := by decide +kernel
theorem dX11_freely_28 : decode cX11_freely 28 = .ok (.iload_n 2, 1) := by decide +kernel
theorem dX11_freely_29 : decode cX11_freely 29 = .ok (.invokevirtual 314, 3) := by decide +kernel
theorem dX11_freely_32 : decode cX11_freely 32 = .ok (.imul, 1) := by decide +kernel
theorem dX11_freely_33 : decode cX11_freely 33 = .ok (.bipush 100, 2) := by decide +kernel
theorem dX11_freely_35 : decode cX11_freely 35 = .ok (.imul, 1) := by decide +kernel
theorem dX11_freely_36 : decode cX11_freely 36 = .ok (.iadd, 1) := by decide +kernel
theorem dX11_freely_37 : decode cX11_freely 37 = .ok (.istore_n 1, 1) := by decide +kernel
theorem dX11_freely_38 : decode cX11_freely 38 = .ok (.iinc 2 1, 3) := by decide +kernel
theorem dX11_freely_41 : decode cX11_freely 41 = .ok (.goto (-37), 3) := by decide +kernel
theorem dX11_freely_44 : decode cX11_freely 44 = .ok (.iload_n 1, 1) := by decide +kernel
theorem dX11_freely_45 : decode cX11_freely 45 = .ok (.aload_n 0, 1) := by decide +kernel
theorem dX11_freely_46 : decode cX11_freely 46 = .ok (.getfield 16, 3) := by decide +kernel
theorem dX11_freely_49 : decode cX11_freely 49 = .ok (.invokevirtual 317, 3) := by decide +kernel
theorem dX11_freely_52 : decode cX11_freely 52 = .ok (.bipush 100, 2) := by decide +kernel
theorem dX11_freely_54 : decode cX11_freely 54 = .ok (.imul, 1) := by decide +kernel
theorem dX11_freely_55 : decode cX11_freely 55 = .ok (.iadd, 1) := by decide +kernel
theorem dX11_freely_56 : decode cX11_freely 56 = .ok (.ireturn, 1) := by decide +kernel
theorem dX11_meet_0 : decode cX11_meet 0 = .ok (.aload_n 0, 1) := by decide +kernel
theorem dX11_meet_1 : decode cX11_meet 1 = .ok (.iload_n 1, 1) := by decide +kernel
theorem dX11_meet_2 : decode cX11_meet 2 = .ok (.iload_n 2, 1) := by decide +kernel
theorem dX11_meet_3 : decode cX11_meet 3 = .ok (.invokevirtual 221, 3) := by decide +kernel
theorem dX11_meet_6 : decode cX11_meet 6 = .ok (.ifCond .eq 14, 3) := by decide +kernel
theorem dX11_meet_9 : decode cX11_meet 9 = .ok (.new 169, 3) := by decide +kernel
theorem dX11_meet_12 : decode cX11_meet 12 = .ok (.dup, 1) := by decide +kernel
theorem dX11_meet_13 : decode cX11_meet 13 = .ok (.ldc_w 320, 3) := by decide +kernel
theorem dX11_meet_16 : decode cX11_meet 16 = .ok (.invokespecial 173, 3) := by decide +kernel
theorem dX11_meet_19 : decode cX11_meet 19 = .ok (.athrow, 1) := by decide +kernel
theorem dX11_meet_20 : decode cX11_meet 20 = .ok (.aload_n 0, 1) := by decide +kernel
theorem dX11_meet_21 : decode cX11_meet 21 = .ok (.getfield 46, 3) := by decide +kernel
theorem dX11_meet_24 : decode cX11_meet 24 = .ok (.iload_n 1, 1) := by decide +kernel
theorem dX11_meet_25 : decode cX11_meet 25 = .ok (.iload_n 2, 1) := by decide +kernel
theorem dX11_meet_26 : decode cX11_meet 26 = .ok (.invokevirtual 322, 3) := by decide +kernel
theorem dX11_meet_29 : decode cX11_meet 29 = .ok (.ireturn, 1) := by decide +kernel
theorem dX11_days_0 : decode cX11_days 0 = .ok (.iload_n 1, 1) := by decide +kernel
theorem dX11_days_1 : decode cX11_days 1 = .ok (.ifCond .lt 9, 3) := by decide +kernel
theorem dX11_days_4 : decode cX11_days 4 = .ok (.iload_n 1, 1) := by decide +kernel
theorem dX11_days_5 : decode cX11_days 5 = .ok (.bipush 60, 2) := by decide +kernel
theorem dX11_days_7 : decode cX11_days 7 = .ok (.if_icmp .le 14, 3) := by decide +kernel
theorem dX11_days_10 : decode cX11_days 10 = .ok (.new 111, 3) := by decide +kernel
theorem dX11_days_13 : decode cX11_days 13 = .ok (.dup, 1) := by decide +kernel
theorem dX11_days_14 : decode cX11_days 14 = .ok (.ldc_w 325, 3) := by decide +kernel
theorem dX11_days_17 : decode cX11_days 17 = .ok (.invokespecial 115, 3) := by decide +kernel
theorem dX11_days_20 : decode cX11_days 20 = .ok (.athrow, 1) := by decide +kernel
theorem dX11_days_21 : decode cX11_days 21 = .ok (.iconst 0, 1) := by decide +kernel
theorem dX11_days_22 : decode cX11_days 22 = .ok (.istore_n 2, 1) := by decide +kernel
theorem dX11_days_23 : decode cX11_days 23 = .ok (.iconst 0, 1) := by decide +kernel
theorem dX11_days_24 : decode cX11_days 24 = .ok (.istore_n 3, 1) := by decide +kernel
theorem dX11_days_25 : decode cX11_days 25 = .ok (.iload_n 3, 1) := by decide +kernel
theorem dX11_days_26 : decode cX11_days 26 = .ok (.iload_n 1, 1) := by decide +kernel
theorem dX11_days_27 : decode cX11_days 27 = .ok (.if_icmp .ge 20, 3) := by decide +kernel
theorem dX11_days_30 : decode cX11_days 30 = .ok (.iload_n 2, 1) := by decide +kernel
theorem dX11_days_31 : decode cX11_days 31 = .ok (.aload_n 0, 1) := by decide +kernel
theorem dX11_days_32 : decode cX11_days 32 = .ok (.getfield 46, 3) := by decide +kernel
theorem dX11_days_35 : decode cX11_days 35 = .ok (.iconst (-1), 1) := by decide +kernel
theorem dX11_days_36 : decode cX11_days 36 = .ok (.invokevirtual 327, 3) := by decide +kernel
theorem dX11_days_39 : decode cX11_days 39 = .ok (.iadd, 1) := by decide +kernel
theorem dX11_days_40 : decode cX11_days 40 = .ok (.istore_n 2, 1) := by decide +kernel
theorem dX11_days_41 : decode cX11_days 41 = .ok (.iinc 3 1, 3) := by decide +kernel
theorem dX11_days_44 : decode cX11_days 44 = .ok (.goto (-19), 3) := by decide +kernel
theorem dX11_days_47 : decode cX11_days 47 = .ok (.iload_n 2, 1) := by decide +kernel
theorem dX11_days_48 : decode cX11_days 48 = .ok (.ireturn, 1) := by decide +kernel
theorem dX11_end_0 : decode cX11_end 0 = .ok (.iload_n 1, 1) := by decide +kernel
theorem dX11_end_1 : decode cX11_end 1 = .ok (.ifCond .lt 16, 3) := by decide +kernel
theorem dX11_end_4 : decode cX11_end 4 = .ok (.iload_n 1, 1) := by decide +kernel
theorem dX11_end_5 : decode cX11_end 5 = .ok (.iconst 3, 1) := by decide +kernel
theorem dX11_end_6 : decode cX11_end 6 = .ok (.aload_n 0, 1) := by decide +kernel
theorem dX11_end_7 : decode cX11_end 7 = .ok (.getfield 16, 3) := by decide +kernel
theorem dX11_end_10 : decode cX11_end 10 = .ok (.getfield 134, 3) := by decide +kernel
theorem dX11_end_13 : decode cX11_end 13 = .ok (.iadd, 1) := by decide +kernel
theorem dX11_end_14 : decode cX11_end 14 = .ok (.if_icmp .lt 14, 3) := by decide +kernel
theorem dX11_end_17 : decode cX11_end 17 = .ok (.new 169, 3) := by decide +kernel
theorem dX11_end_20 : decode cX11_end 20 = .ok (.dup, 1) := by decide +kernel
theorem dX11_end_21 : decode cX11_end 21 = .ok (.ldc_w 330, 3) := by decide +kernel
theorem dX11_end_24 : decode cX11_end 24 = .ok (.invokespecial 173, 3) := by decide +kernel
theorem dX11_end_27 : decode cX11_end 27 = .ok (.athrow, 1) := by decide +kernel
theorem dX11_end_28 : decode cX11_end 28 = .ok (.aload_n 0, 1) := by decide +kernel
theorem dX11_end_29 : decode cX11_end 29 = .ok (.getfield 50, 3) := by decide +kernel
theorem dX11_end_32 : decode cX11_end 32 = .ok (.aload_n 0, 1) := by decide +kernel
theorem dX11_end_33 : decode cX11_end 33 = .ok (.getfield 46, 3) := by decide +kernel
theorem dX11_end_36 : decode cX11_end 36 = .ok (.invokevirtual 232, 3) := by decide +kernel
theorem dX11_end_39 : decode cX11_end 39 = .ok (.aload_n 0, 1) := by decide +kernel
theorem dX11_end_40 : decode cX11_end 40 = .ok (.getfield 50, 3) := by decide +kernel
theorem dX11_end_43 : decode cX11_end 43 = .ok (.invokevirtual 332, 3) := by decide +kernel
theorem dX11_end_46 : decode cX11_end 46 = .ok (.istore_n 2, 1) := by decide +kernel
theorem dX11_end_47 : decode cX11_end 47 = .ok (.iload_n 1, 1) := by decide +kernel
theorem dX11_end_48 : decode cX11_end 48 = .ok (.tableswitch 46 0 2 #[28, 30, 38], 28) := by decide +kernel
theorem dX11_end_76 : decode cX11_end 76 = .ok (.iload_n 2, 1) := by decide +kernel
theorem dX11_end_77 : decode cX11_end 77 = .ok (.ireturn, 1) := by decide +kernel
theorem dX11_end_78 : decode cX11_end 78 = .ok (.aload_n 0, 1) := by decide +kernel
theorem dX11_end_79 : decode cX11_end 79 = .ok (.getfield 50, 3) := by decide +kernel
theorem dX11_end_82 : decode cX11_end 82 = .ok (.invokevirtual 159, 3) := by decide +kernel
theorem dX11_end_85 : decode cX11_end 85 = .ok (.ireturn, 1) := by decide +kernel
theorem dX11_end_86 : decode cX11_end 86 = .ok (.aload_n 0, 1) := by decide +kernel
theorem dX11_end_87 : decode cX11_end 87 = .ok (.getfield 50, 3) := by decide +kernel
theorem dX11_end_90 : decode cX11_end 90 = .ok (.invokevirtual 187, 3) := by decide +kernel
theorem dX11_end_93 : decode cX11_end 93 = .ok (.ireturn, 1) := by decide +kernel
theorem dX11_end_94 : decode cX11_end 94 = .ok (.aload_n 0, 1) := by decide +kernel
theorem dX11_end_95 : decode cX11_end 95 = .ok (.getfield 50, 3) := by decide +kernel
theorem dX11_end_98 : decode cX11_end 98 = .ok (.iload_n 1, 1) := by decide +kernel
theorem dX11_end_99 : decode cX11_end 99 = .ok (.iconst 3, 1) := by decide +kernel
theorem dX11_end_100 : decode cX11_end 100 = .ok (.isub, 1) := by decide +kernel
theorem dX11_end_101 : decode cX11_end 101 = .ok (.invokevirtual 196, 3) := by decide +kernel
theorem dX11_end_104 : decode cX11_end 104 = .ok (.ireturn, 1) := by decide +kernel
theorem dX11_order_0 : decode cX11_order 0 = .ok (.aload_n 0, 1) := by decide +kernel
theorem dX11_order_1 : decode cX11_order 1 = .ok (.getfield 16, 3) := by decide +kernel
theorem dX11_order_4 : decode cX11_order 4 = .ok (.getfield 156, 3) := by decide +kernel
theorem dX11_order_7 : decode cX11_order 7 = .ok (.iconst 5, 1) := by decide +kernel
theorem dX11_order_8 : decode cX11_order 8 = .ok (.if_icmp .le 5, 3) := by decide +kernel
theorem dX11_order_11 : decode cX11_order 11 = .ok (.iconst (-1), 1) := by decide +kernel
theorem dX11_order_12 : decode cX11_order 12 = .ok (.ireturn, 1) := by decide +kernel
theorem dX11_order_13 : decode cX11_order 13 = .ok (.iconst (-1), 1) := by decide +kernel
theorem dX11_order_14 : decode cX11_order 14 = .ok (.istore_n 1, 1) := by decide +kernel
theorem dX11_order_15 : decode cX11_order 15 = .ok (.aload_n 0, 1) := by decide +kernel
theorem dX11_order_16 : decode cX11_order 16 = .ok (.getfield 93, 3) := by decide +kernel
theorem dX11_order_19 : decode cX11_order 19 = .ok (.aload_n 0, 1) := by decide +kernel
theorem dX11_order_20 : decode cX11_order 20 = .ok (.getfield 16, 3) := by decide +kernel
theorem dX11_order_23 : decode cX11_order 23 = .ok (.getfield 156, 3) := by decide +kernel
theorem dX11_order_26 : decode cX11_order 26 = .ok (.invokevirtual 335, 3) := by decide +kernel
theorem dX11_order_29 : decode cX11_order 29 = .ok (.iconst 1, 1) := by decide +kernel
theorem dX11_order_30 : decode cX11_order 30 = .ok (.istore_n 2, 1) := by decide +kernel
theorem dX11_order_31 : decode cX11_order 31 = .ok (.iconst 0, 1) := by decide +kernel
theorem dX11_order_32 : decode cX11_order 32 = .ok (.istore_n 3, 1) := by decide +kernel
theorem dX11_order_33 : decode cX11_order 33 = .ok (.iload_n 3, 1) := by decide +kernel
theorem dX11_order_34 : decode cX11_order 34 = .ok (.bipush 120, 2) := by decide +kernel
theorem dX11_order_36 : decode cX11_order 36 = .ok (.if_icmp .ge 92, 3) := by decide +kernel
theorem dX11_order_39 : decode cX11_order 39 = .ok (.iload_n 2, 1) := by decide +kernel
theorem dX11_order_40 : decode cX11_order 40 = .ok (.ifCond .eq 88, 3) := by decide +kernel
theorem dX11_order_43 : decode cX11_order 43 = .ok (.aload_n 0, 1) := by decide +kernel
theorem dX11_order_44 : decode cX11_order 44 = .ok (.getfield 50, 3) := by decide +kernel
theorem dX11_order_47 : decode cX11_order 47 = .ok (.aload_n 0, 1) := by decide +kernel
theorem dX11_order_48 : decode cX11_order 48 = .ok (.getfield 46, 3) := by decide +kernel
theorem dX11_order_51 : decode cX11_order 51 = .ok (.invokevirtual 232, 3) := by decide +kernel
theorem dX11_order_54 : decode cX11_order 54 = .ok (.aload_n 0, 1) := by decide +kernel
theorem dX11_order_55 : decode cX11_order 55 = .ok (.getfield 50, 3) := by decide +kernel
theorem dX11_order_58 : decode cX11_order 58 = .ok (.aload_n 0, 1) := by decide +kernel
theorem dX11_order_59 : decode cX11_order 59 = .ok (.getfield 93, 3) := by decide +kernel
theorem dX11_order_62 : decode cX11_order 62 = .ok (.getfield 338, 3) := by decide +kernel
theorem dX11_order_65 : decode cX11_order 65 = .ok (.aload_n 0, 1) := by decide +kernel
theorem dX11_order_66 : decode cX11_order 66 = .ok (.getfield 16, 3) := by decide +kernel
theorem dX11_order_69 : decode cX11_order 69 = .ok (.getfield 156, 3) := by decide +kernel
theorem dX11_order_72 : decode cX11_order 72 = .ok (.invokevirtual 339, 3) := by decide +kernel
theorem dX11_order_75 : decode cX11_order 75 = .ok (.aload_n 0, 1) := by decide +kernel
theorem dX11_order_76 : decode cX11_order 76 = .ok (.getfield 50, 3) := by decide +kernel
theorem dX11_order_79 : decode cX11_order 79 = .ok (.invokevirtual 187, 3) := by decide +kernel
theorem dX11_order_82 : decode cX11_order 82 = .ok (.istore 4, 2) := by decide +kernel
theorem dX11_order_84 : decode cX11_order 84 = .ok (.iload 4, 2) := by decide +kernel
theorem dX11_order_86 : decode cX11_order 86 = .ok (.iload_n 1, 1) := by decide +kernel
theorem dX11_order_87 : decode cX11_order 87 = .ok (.if_icmp .le 27, 3) := by decide +kernel
theorem dX11_order_90 : decode cX11_order 90 = .ok (.iload 4, 2) := by decide +kernel
theorem dX11_order_92 : decode cX11_order 92 = .ok (.istore_n 1, 1) := by decide +kernel
theorem dX11_order_93 : decode cX11_order 93 = .ok (.aload_n 0, 1) := by decide +kernel
theorem dX11_order_94 : decode cX11_order 94 = .ok (.getfield 100, 3) := by decide +kernel
theorem dX11_order_97 : decode cX11_order 97 = .ok (.aload_n 0, 1) := by decide +kernel
theorem dX11_order_98 : decode cX11_order 98 = .ok (.getfield 93, 3) := by decide +kernel
theorem dX11_order_101 : decode cX11_order 101 = .ok (.getfield 338, 3) := by decide +kernel
theorem dX11_order_104 : decode cX11_order 104 = .ok (.aload_n 0, 1) := by decide +kernel
theorem dX11_order_105 : decode cX11_order 105 = .ok (.getfield 16, 3) := by decide +kernel
theorem dX11_order_108 : decode cX11_order 108 = .ok (.getfield 156, 3) := by decide +kernel
theorem dX11_order_111 : decode cX11_order 111 = .ok (.invokevirtual 343, 3) := by decide +kernel
theorem dX11_order_114 : decode cX11_order 114 = .ok (.aload_n 0, 1) := by decide +kernel
theorem dX11_order_115 : decode cX11_order 115 = .ok (.getfield 93, 3) := by decide +kernel
theorem dX11_order_118 : decode cX11_order 118 = .ok (.invokevirtual 346, 3) := by decide +kernel
theorem dX11_order_121 : decode cX11_order 121 = .ok (.istore_n 2, 1) := by decide +kernel
theorem dX11_order_122 : decode cX11_order 122 = .ok (.iinc 3 1, 3) := by decide +kernel
theorem dX11_order_125 : decode cX11_order 125 = .ok (.goto (-92), 3) := by decide +kernel
theorem dX11_order_128 : decode cX11_order 128 = .ok (.iload_n 1, 1) := by decide +kernel
theorem dX11_order_129 : decode cX11_order 129 = .ok (.ireturn, 1) := by decide +kernel
theorem dX11_ordered_0 : decode cX11_ordered 0 = .ok (.iload_n 1, 1) := by decide +kernel
theorem dX11_ordered_1 : decode cX11_ordered 1 = .ok (.ifCond .lt 14, 3) := by decide +kernel
theorem dX11_ordered_4 : decode cX11_ordered 4 = .ok (.iload_n 1, 1) := by decide +kernel
theorem dX11_ordered_5 : decode cX11_ordered 5 = .ok (.aload_n 0, 1) := by decide +kernel
theorem dX11_ordered_6 : decode cX11_ordered 6 = .ok (.getfield 100, 3) := by decide +kernel
theorem dX11_ordered_9 : decode cX11_ordered 9 = .ok (.getfield 347, 3) := by decide +kernel
theorem dX11_ordered_12 : decode cX11_ordered 12 = .ok (.if_icmp .lt 14, 3) := by decide +kernel
theorem dX11_ordered_15 : decode cX11_ordered 15 = .ok (.new 169, 3) := by decide +kernel
theorem dX11_ordered_18 : decode cX11_ordered 18 = .ok (.dup, 1) := by decide +kernel
theorem dX11_ordered_19 : decode cX11_ordered 19 = .ok (.ldc_w 350, 3) := by decide +kernel
theorem dX11_ordered_22 : decode cX11_ordered 22 = .ok (.invokespecial 173, 3) := by decide +kernel
theorem dX11_ordered_25 : decode cX11_ordered 25 = .ok (.athrow, 1) := by decide +kernel
theorem dX11_ordered_26 : decode cX11_ordered 26 = .ok (.aload_n 0, 1) := by decide +kernel
theorem dX11_ordered_27 : decode cX11_ordered 27 = .ok (.getfield 100, 3) := by decide +kernel
theorem dX11_ordered_30 : decode cX11_ordered 30 = .ok (.getfield 352, 3) := by decide +kernel
theorem dX11_ordered_33 : decode cX11_ordered 33 = .ok (.iload_n 1, 1) := by decide +kernel
theorem dX11_ordered_34 : decode cX11_ordered 34 = .ok (.iaload, 1) := by decide +kernel
theorem dX11_ordered_35 : decode cX11_ordered 35 = .ok (.ireturn, 1) := by decide +kernel
theorem dX11_ahead_0 : decode cX11_ahead 0 = .ok (.aload_n 0, 1) := by decide +kernel
theorem dX11_ahead_1 : decode cX11_ahead 1 = .ok (.iload_n 1, 1) := by decide +kernel
theorem dX11_ahead_2 : decode cX11_ahead 2 = .ok (.invokevirtual 190, 3) := by decide +kernel
theorem dX11_ahead_5 : decode cX11_ahead 5 = .ok (.ifCond .eq 13, 3) := by decide +kernel
theorem dX11_ahead_8 : decode cX11_ahead 8 = .ok (.new 169, 3) := by decide +kernel
theorem dX11_ahead_11 : decode cX11_ahead 11 = .ok (.dup, 1) := by decide +kernel
theorem dX11_ahead_12 : decode cX11_ahead 12 = .ok (.ldc 194, 2) := by decide +kernel
theorem dX11_ahead_14 : decode cX11_ahead 14 = .ok (.invokespecial 173, 3) := by decide +kernel
theorem dX11_ahead_17 : decode cX11_ahead 17 = .ok (.athrow, 1) := by decide +kernel
theorem dX11_ahead_18 : decode cX11_ahead 18 = .ok (.aload_n 0, 1) := by decide +kernel
theorem dX11_ahead_19 : decode cX11_ahead 19 = .ok (.getfield 72, 3) := by decide +kernel
theorem dX11_ahead_22 : decode cX11_ahead 22 = .ok (.aload_n 0, 1) := by decide +kernel
theorem dX11_ahead_23 : decode cX11_ahead 23 = .ok (.getfield 46, 3) := by decide +kernel
theorem dX11_ahead_26 : decode cX11_ahead 26 = .ok (.invokevirtual 355, 3) := by decide +kernel
theorem dX11_ahead_29 : decode cX11_ahead 29 = .ok (.ifCond .eq 17, 3) := by decide +kernel
theorem dX11_ahead_32 : decode cX11_ahead 32 = .ok (.aload_n 0, 1) := by decide +kernel
theorem dX11_ahead_33 : decode cX11_ahead 33 = .ok (.getfield 72, 3) := by decide +kernel
theorem dX11_ahead_36 : decode cX11_ahead 36 = .ok (.getfield 359, 3) := by decide +kernel
theorem dX11_ahead_39 : decode cX11_ahead 39 = .ok (.iconst 0, 1) := by decide +kernel
theorem dX11_ahead_40 : decode cX11_ahead 40 = .ok (.aaload, 1) := by decide +kernel
theorem dX11_ahead_41 : decode cX11_ahead 41 = .ok (.iload_n 1, 1) := by decide +kernel
theorem dX11_ahead_42 : decode cX11_ahead 42 = .ok (.iaload, 1) := by decide +kernel
theorem dX11_ahead_43 : decode cX11_ahead 43 = .ok (.goto 5, 3) := by decide +kernel
theorem dX11_ahead_46 : decode cX11_ahead 46 = .ok (.bipush (-2), 2) := by decide +kernel
theorem dX11_ahead_48 : decode cX11_ahead 48 = .ok (.ireturn, 1) := by decide +kernel
theorem dX11_still_0 : decode cX11_still 0 = .ok (.aload_n 0, 1) := by decide +kernel
theorem dX11_still_1 : decode cX11_still 1 = .ok (.iload_n 1, 1) := by decide +kernel
theorem dX11_still_2 : decode cX11_still 2 = .ok (.invokevirtual 190, 3) := by decide +kernel
theorem dX11_still_5 : decode cX11_still 5 = .ok (.ifCond .ne 12, 3) := by decide +kernel
theorem dX11_still_8 : decode cX11_still 8 = .ok (.iload_n 3, 1) := by decide +kernel
theorem dX11_still_9 : decode cX11_still 9 = .ok (.ifCond .eq 19, 3) := by decide +kernel
theorem dX11_still_12 : decode cX11_still 12 = .ok (.iload_n 3, 1) := by decide +kernel
theorem dX11_still_13 : decode cX11_still 13 = .ok (.iconst 1, 1) := by decide +kernel
theorem dX11_still_14 : decode cX11_still 14 = .ok (.if_icmp .eq 14, 3) := by decide +kernel
theorem dX11_still_17 : decode cX11_still 17 = .ok (.new 169, 3) := by decide +kernel
theorem dX11_still_20 : decode cX11_still 20 = .ok (.dup, 1) := by decide +kernel
theorem dX11_still_21 : decode cX11_still 21 = .ok (.ldc_w 363, 3) := by decide +kernel
theorem dX11_still_24 : decode cX11_still 24 = .ok (.invokespecial 173, 3) := by decide +kernel
theorem dX11_still_27 : decode cX11_still 27 = .ok (.athrow, 1) := by decide +kernel
theorem dX11_still_28 : decode cX11_still 28 = .ok (.iload_n 2, 1) := by decide +kernel
theorem dX11_still_29 : decode cX11_still 29 = .ok (.iconst 1, 1) := by decide +kernel
theorem dX11_still_30 : decode cX11_still 30 = .ok (.if_icmp .lt 9, 3) := by decide +kernel
theorem dX11_still_33 : decode cX11_still 33 = .ok (.iload_n 2, 1) := by decide +kernel
theorem dX11_still_34 : decode cX11_still 34 = .ok (.bipush 10, 2) := by decide +kernel
theorem dX11_still_36 : decode cX11_still 36 = .ok (.if_icmp .le 14, 3) := by decide +kernel
theorem dX11_still_39 : decode cX11_still 39 = .ok (.new 111, 3) := by decide +kernel
theorem dX11_still_42 : decode cX11_still 42 = .ok (.dup, 1) := by decide +kernel
theorem dX11_still_43 : decode cX11_still 43 = .ok (.ldc_w 365, 3) := by decide +kernel
theorem dX11_still_46 : decode cX11_still 46 = .ok (.invokespecial 115, 3) := by decide +kernel
theorem dX11_still_49 : decode cX11_still 49 = .ok (.athrow, 1) := by decide +kernel
theorem dX11_still_50 : decode cX11_still 50 = .ok (.iconst (-1), 1) := by decide +kernel
theorem dX11_still_51 : decode cX11_still 51 = .ok (.istore 4, 2) := by decide +kernel
theorem dX11_still_53 : decode cX11_still 53 = .ok (.iconst 0, 1) := by decide +kernel
theorem dX11_still_54 : decode cX11_still 54 = .ok (.istore 5, 2) := by decide +kernel
theorem dX11_still_56 : decode cX11_still 56 = .ok (.iconst 0, 1) := by decide +kernel
theorem dX11_still_57 : decode cX11_still 57 = .ok (.istore 6, 2) := by decide +kernel
theorem dX11_still_59 : decode cX11_still 59 = .ok (.iload 6, 2) := by decide +kernel
theorem dX11_still_61 : decode cX11_still 61 = .ok (.bipush 10, 2) := by decide +kernel
theorem dX11_still_63 : decode cX11_still 63 = .ok (.if_icmp .gt 34, 3) := by decide +kernel
theorem dX11_still_66 : decode cX11_still 66 = .ok (.aload_n 0, 1) := by decide +kernel
theorem dX11_still_67 : decode cX11_still 67 = .ok (.iload_n 1, 1) := by decide +kernel
theorem dX11_still_68 : decode cX11_still 68 = .ok (.iload 6, 2) := by decide +kernel
theorem dX11_still_70 : decode cX11_still 70 = .ok (.iload_n 2, 1) := by decide +kernel
theorem dX11_still_71 : decode cX11_still 71 = .ok (.invokevirtual 367, 3) := by decide +kernel
theorem dX11_still_74 : decode cX11_still 74 = .ok (.istore 7, 2) := by decide +kernel
theorem dX11_still_76 : decode cX11_still 76 = .ok (.iload 7, 2) := by decide +kernel
theorem dX11_still_78 : decode cX11_still 78 = .ok (.iload 4, 2) := by decide +kernel
theorem dX11_still_80 : decode cX11_still 80 = .ok (.if_icmp .le 11, 3) := by decide +kernel
theorem dX11_still_83 : decode cX11_still 83 = .ok (.iload 7, 2) := by decide +kernel
theorem dX11_still_85 : decode cX11_still 85 = .ok (.istore 4, 2) := by decide +kernel
theorem dX11_still_87 : decode cX11_still 87 = .ok (.iload 6, 2) := by decide +kernel
theorem dX11_still_89 : decode cX11_still 89 = .ok (.istore 5, 2) := by decide +kernel
theorem dX11_still_91 : decode cX11_still 91 = .ok (.iinc 6 1, 3) := by decide +kernel
theorem dX11_still_94 : decode cX11_still 94 = .ok (.goto (-35), 3) := by decide +kernel
theorem dX11_still_97 : decode cX11_still 97 = .ok (.iload_n 3, 1) := by decide +kernel
theorem dX11_still_98 : decode cX11_still 98 = .ok (.ifCond .ne 8, 3) := by decide +kernel
theorem dX11_still_101 : decode cX11_still 101 = .ok (.iload 5, 2) := by decide +kernel
theorem dX11_still_103 : decode cX11_still 103 = .ok (.goto 5, 3) := by decide +kernel
theorem dX11_still_106 : decode cX11_still 106 = .ok (.iload 4, 2) := by decide +kernel
theorem dX11_still_108 : decode cX11_still 108 = .ok (.ireturn, 1) := by decide +kernel
theorem dX11_share_0 : decode cX11_share 0 = .ok (.iload_n 1, 1) := by decide +kernel
theorem dX11_share_1 : decode cX11_share 1 = .ok (.ifCond .eq 19, 3) := by decide +kernel
theorem dX11_share_4 : decode cX11_share 4 = .ok (.iload_n 1, 1) := by decide +kernel
theorem dX11_share_5 : decode cX11_share 5 = .ok (.iconst 1, 1) := by decide +kernel
theorem dX11_share_6 : decode cX11_share 6 = .ok (.if_icmp .eq 14, 3) := by decide +kernel
theorem dX11_share_9 : decode cX11_share 9 = .ok (.new 169, 3) := by decide +kernel
theorem dX11_share_12 : decode cX11_share 12 = .ok (.dup, 1) := by decide +kernel
theorem dX11_share_13 : decode cX11_share 13 = .ok (.ldc_w 371, 3) := by decide +kernel
theorem dX11_share_16 : decode cX11_share 16 = .ok (.invokespecial 173, 3) := by decide +kernel
theorem dX11_share_19 : decode cX11_share 19 = .ok (.athrow, 1) := by decide +kernel
theorem dX11_share_20 : decode cX11_share 20 = .ok (.aload_n 0, 1) := by decide +kernel
theorem dX11_share_21 : decode cX11_share 21 = .ok (.getfield 16, 3) := by decide +kernel
theorem dX11_share_24 : decode cX11_share 24 = .ok (.getfield 134, 3) := by decide +kernel
theorem dX11_share_27 : decode cX11_share 27 = .ok (.iconst 1, 1) := by decide +kernel
theorem dX11_share_28 : decode cX11_share 28 = .ok (.if_icmp .ge 5, 3) := by decide +kernel
theorem dX11_share_31 : decode cX11_share 31 = .ok (.iconst (-1), 1) := by decide +kernel
theorem dX11_share_32 : decode cX11_share 32 = .ok (.ireturn, 1) := by decide +kernel
theorem dX11_share_33 : decode cX11_share 33 = .ok (.aload_n 0, 1) := by decide +kernel
theorem dX11_share_34 : decode cX11_share 34 = .ok (.getfield 86, 3) := by decide +kernel
theorem dX11_share_37 : decode cX11_share 37 = .ok (.aload_n 0, 1) := by decide +kernel
theorem dX11_share_38 : decode cX11_share 38 = .ok (.getfield 46, 3) := by decide +kernel
theorem dX11_share_41 : decode cX11_share 41 = .ok (.invokevirtual 373, 3) := by decide +kernel
theorem dX11_share_44 : decode cX11_share 44 = .ok (.aload_n 0, 1) := by decide +kernel
theorem dX11_share_45 : decode cX11_share 45 = .ok (.getfield 86, 3) := by decide +kernel
theorem dX11_share_48 : decode cX11_share 48 = .ok (.invokevirtual 375, 3) := by decide +kernel
theorem dX11_share_51 : decode cX11_share 51 = .ok (.istore_n 2, 1) := by decide +kernel
theorem dX11_share_52 : decode cX11_share 52 = .ok (.iload_n 2, 1) := by decide +kernel
theorem dX11_share_53 : decode cX11_share 53 = .ok (.sipush 1500, 3) := by decide +kernel
theorem dX11_share_56 : decode cX11_share 56 = .ok (.if_icmp .le 6, 3) := by decide +kernel
theorem dX11_share_59 : decode cX11_share 59 = .ok (.bipush (-2), 2) := by decide +kernel
theorem dX11_share_61 : decode cX11_share 61 = .ok (.ireturn, 1) := by decide +kernel
theorem dX11_share_62 : decode cX11_share 62 = .ok (.iconst (-1), 1) := by decide +kernel
theorem dX11_share_63 : decode cX11_share 63 = .ok (.istore_n 3, 1) := by decide +kernel
theorem dX11_share_64 : decode cX11_share 64 = .ok (.iconst (-1), 1) := by decide +kernel
theorem dX11_share_65 : decode cX11_share 65 = .ok (.istore 4, 2) := by decide +kernel
theorem dX11_share_67 : decode cX11_share 67 = .ok (.iconst 0, 1) := by decide +kernel
theorem dX11_share_68 : decode cX11_share 68 = .ok (.istore 5, 2) := by decide +kernel
theorem dX11_share_70 : decode cX11_share 70 = .ok (.iload 5, 2) := by decide +kernel
theorem dX11_share_72 : decode cX11_share 72 = .ok (.iload_n 2, 1) := by decide +kernel
theorem dX11_share_73 : decode cX11_share 73 = .ok (.if_icmp .ge 101, 3) := by decide +kernel
theorem dX11_share_76 : decode cX11_share 76 = .ok (.aload_n 0, 1) := by decide +kernel
theorem dX11_share_77 : decode cX11_share 77 = .ok (.getfield 50, 3) := by decide +kernel
theorem dX11_share_80 : decode cX11_share 80 = .ok (.aload_n 0, 1) := by decide +kernel
theorem dX11_share_81 : decode cX11_share 81 = .ok (.getfield 46, 3) := by decide +kernel
theorem dX11_share_84 : decode cX11_share 84 = .ok (.aload_n 0, 1) := by decide +kernel
theorem dX11_share_85 : decode cX11_share 85 = .ok (.getfield 86, 3) := by decide +kernel
theorem dX11_share_88 : decode cX11_share 88 = .ok (.getfield 378, 3) := by decide +kernel
theorem dX11_share_91 : decode cX11_share 91 = .ok (.invokevirtual 379, 3) := by decide +kernel
theorem dX11_share_94 : decode cX11_share 94 = .ok (.aload_n 0, 1) := by decide +kernel
theorem dX11_share_95 : decode cX11_share 95 = .ok (.getfield 50, 3) := by decide +kernel
theorem dX11_share_98 : decode cX11_share 98 = .ok (.iconst (-1), 1) := by decide +kernel
theorem dX11_share_99 : decode cX11_share 99 = .ok (.invokevirtual 327, 3) := by decide +kernel
theorem dX11_share_102 : decode cX11_share 102 = .ok (.pop, 1) := by decide +kernel
theorem dX11_share_103 : decode cX11_share 103 = .ok (.aload_n 0, 1) := by decide +kernel
theorem dX11_share_104 : decode cX11_share 104 = .ok (.getfield 50, 3) := by decide +kernel
theorem dX11_share_107 : decode cX11_share 107 = .ok (.invokevirtual 187, 3) := by decide +kernel
theorem dX11_share_110 : decode cX11_share 110 = .ok (.istore 6, 2) := by decide +kernel
theorem dX11_share_112 : decode cX11_share 112 = .ok (.aload_n 0, 1) := by decide +kernel
theorem dX11_share_113 : decode cX11_share 113 = .ok (.getfield 50, 3) := by decide +kernel
theorem dX11_share_116 : decode cX11_share 116 = .ok (.invokevirtual 383, 3) := by decide +kernel
theorem dX11_share_119 : decode cX11_share 119 = .ok (.istore 7, 2) := by decide +kernel
theorem dX11_share_121 : decode cX11_share 121 = .ok (.iload 7, 2) := by decide +kernel
theorem dX11_share_123 : decode cX11_share 123 = .ok (.iload_n 3, 1) := by decide +kernel
theorem dX11_share_124 : decode cX11_share 124 = .ok (.if_icmp .gt 16, 3) := by decide +kernel
theorem dX11_share_127 : decode cX11_share 127 = .ok (.iload 7, 2) := by decide +kernel
theorem dX11_share_129 : decode cX11_share 129 = .ok (.iload_n 3, 1) := by decide +kernel
theorem dX11_share_130 : decode cX11_share 130 = .ok (.if_icmp .ne 31, 3) := by decide +kernel
theorem dX11_share_133 : decode cX11_share 133 = .ok (.iload 6, 2) := by decide +kernel
theorem dX11_share_135 : decode cX11_share 135 = .ok (.iload 4, 2) := by decide +kernel
theorem dX11_share_137 : decode cX11_share 137 = .ok (.if_icmp .le 24, 3) := by decide +kernel
theorem dX11_share_140 : decode cX11_share 140 = .ok (.iload 7, 2) := by decide +kernel
theorem dX11_share_142 : decode cX11_share 142 = .ok (.istore_n 3, 1) := by decide +kernel
theorem dX11_share_143 : decode cX11_share 143 = .ok (.iload 6, 2) := by decide +kernel
theorem dX11_share_145 : decode cX11_share 145 = .ok (.istore 4, 2) := by decide +kernel
theorem dX11_share_147 : decode cX11_share 147 = .ok (.aload_n 0, 1) := by decide +kernel
theorem dX11_share_148 : decode cX11_share 148 = .ok (.getfield 100, 3) := by decide +kernel
theorem dX11_share_151 : decode cX11_share 151 = .ok (.aload_n 0, 1) := by decide +kernel
theorem dX11_share_152 : decode cX11_share 152 = .ok (.getfield 86, 3) := by decide +kernel
theorem dX11_share_155 : decode cX11_share 155 = .ok (.getfield 378, 3) := by decide +kernel
theorem dX11_share_158 : decode cX11_share 158 = .ok (.invokevirtual 386, 3) := by decide +kernel
theorem dX11_share_161 : decode cX11_share 161 = .ok (.aload_n 0, 1) := by decide +kernel
theorem dX11_share_162 : decode cX11_share 162 = .ok (.getfield 86, 3) := by decide +kernel
theorem dX11_share_165 : decode cX11_share 165 = .ok (.invokevirtual 389, 3) := by decide +kernel
theorem dX11_share_168 : decode cX11_share 168 = .ok (.iinc 5 1, 3) := by decide +kernel
theorem dX11_share_171 : decode cX11_share 171 = .ok (.goto (-101), 3) := by decide +kernel
theorem dX11_share_174 : decode cX11_share 174 = .ok (.iload_n 1, 1) := by decide +kernel
theorem dX11_share_175 : decode cX11_share 175 = .ok (.ifCond .ne 7, 3) := by decide +kernel
theorem dX11_share_178 : decode cX11_share 178 = .ok (.iload_n 3, 1) := by decide +kernel
theorem dX11_share_179 : decode cX11_share 179 = .ok (.goto 5, 3) := by decide +kernel
theorem dX11_share_182 : decode cX11_share 182 = .ok (.iload 4, 2) := by decide +kernel
theorem dX11_share_184 : decode cX11_share 184 = .ok (.ireturn, 1) := by decide +kernel
theorem dX11_shared_0 : decode cX11_shared 0 = .ok (.aload_n 0, 1) := by decide +kernel
theorem dX11_shared_1 : decode cX11_shared 1 = .ok (.getfield 100, 3) := by decide +kernel
theorem dX11_shared_4 : decode cX11_shared 4 = .ok (.getfield 391, 3) := by decide +kernel
theorem dX11_shared_7 : decode cX11_shared 7 = .ok (.ifCond .eq 12, 3) := by decide +kernel
theorem dX11_shared_10 : decode cX11_shared 10 = .ok (.aload_n 0, 1) := by decide +kernel
theorem dX11_shared_11 : decode cX11_shared 11 = .ok (.iload_n 1, 1) := by decide +kernel
theorem dX11_shared_12 : decode cX11_shared 12 = .ok (.iload_n 2, 1) := by decide +kernel
theorem dX11_shared_13 : decode cX11_shared 13 = .ok (.invokevirtual 174, 3) := by decide +kernel
theorem dX11_shared_16 : decode cX11_shared 16 = .ok (.ifCond .eq 14, 3) := by decide +kernel
theorem dX11_shared_19 : decode cX11_shared 19 = .ok (.new 169, 3) := by decide +kernel
theorem dX11_shared_22 : decode cX11_shared 22 = .ok (.dup, 1) := by decide +kernel
theorem dX11_shared_23 : decode cX11_shared 23 = .ok (.ldc_w 394, 3) := by decide +kernel
theorem dX11_shared_26 : decode cX11_shared 26 = .ok (.invokespecial 173, 3) := by decide +kernel
theorem dX11_shared_29 : decode cX11_shared 29 = .ok (.athrow, 1) := by decide +kernel
theorem dX11_shared_30 : decode cX11_shared 30 = .ok (.aload_n 0, 1) := by decide +kernel
theorem dX11_shared_31 : decode cX11_shared 31 = .ok (.getfield 100, 3) := by decide +kernel
theorem dX11_shared_34 : decode cX11_shared 34 = .ok (.getfield 396, 3) := by decide +kernel
theorem dX11_shared_37 : decode cX11_shared 37 = .ok (.iload_n 1, 1) := by decide +kernel
theorem dX11_shared_38 : decode cX11_shared 38 = .ok (.bipush 8, 2) := by decide +kernel
theorem dX11_shared_40 : decode cX11_shared 40 = .ok (.imul, 1) := by decide +kernel
theorem dX11_shared_41 : decode cX11_shared 41 = .ok (.iload_n 2, 1) := by decide +kernel
theorem dX11_shared_42 : decode cX11_shared 42 = .ok (.iadd, 1) := by decide +kernel
theorem dX11_shared_43 : decode cX11_shared 43 = .ok (.iaload, 1) := by decide +kernel
theorem dX11_shared_44 : decode cX11_shared 44 = .ok (.ireturn, 1) := by decide +kernel
theorem dX11_law_0 : decode cX11_law 0 = .ok (.iload_n 1, 1) := by decide +kernel
theorem dX11_law_1 : decode cX11_law 1 = .ok (.ifCond .lt 18, 3) := by decide +kernel
theorem dX11_law_4 : decode cX11_law 4 = .ok (.iload_n 1, 1) := by decide +kernel
theorem dX11_law_5 : decode cX11_law 5 = .ok (.bipush 6, 2) := by decide +kernel
theorem dX11_law_7 : decode cX11_law 7 = .ok (.if_icmp .ge 12, 3) := by decide +kernel
theorem dX11_law_10 : decode cX11_law 10 = .ok (.iload_n 2, 1) := by decide +kernel
theorem dX11_law_11 : decode cX11_law 11 = .ok (.ifCond .eq 19, 3) := by decide +kernel
theorem dX11_law_14 : decode cX11_law 14 = .ok (.iload_n 2, 1) := by decide +kernel
theorem dX11_law_15 : decode cX11_law 15 = .ok (.iconst 1, 1) := by decide +kernel
theorem dX11_law_16 : decode cX11_law 16 = .ok (.if_icmp .eq 14, 3) := by decide +kernel
theorem dX11_law_19 : decode cX11_law 19 = .ok (.new 169, 3) := by decide +kernel
theorem dX11_law_22 : decode cX11_law 22 = .ok (.dup, 1) := by decide +kernel
theorem dX11_law_23 : decode cX11_law 23 = .ok (.ldc_w 399, 3) := by decide +kernel
theorem dX11_law_26 : decode cX11_law 26 = .ok (.invokespecial 173, 3) := by decide +kernel
theorem dX11_law_29 : decode cX11_law 29 = .ok (.athrow, 1) := by decide +kernel
theorem dX11_law_30 : decode cX11_law 30 = .ok (.aload_n 0, 1) := by decide +kernel
theorem dX11_law_31 : decode cX11_law 31 = .ok (.iload_n 1, 1) := by decide +kernel
theorem dX11_law_32 : decode cX11_law 32 = .ok (.invokevirtual 401, 3) := by decide +kernel
theorem dX11_law_35 : decode cX11_law 35 = .ok (.iload_n 2, 1) := by decide +kernel
theorem dX11_law_36 : decode cX11_law 36 = .ok (.ifCond .ne 13, 3) := by decide +kernel
theorem dX11_law_39 : decode cX11_law 39 = .ok (.aload_n 0, 1) := by decide +kernel
theorem dX11_law_40 : decode cX11_law 40 = .ok (.getfield 50, 3) := by decide +kernel
theorem dX11_law_43 : decode cX11_law 43 = .ok (.invokevirtual 159, 3) := by decide +kernel
theorem dX11_law_46 : decode cX11_law 46 = .ok (.goto 10, 3) := by decide +kernel
theorem dX11_law_49 : decode cX11_law 49 = .ok (.aload_n 0, 1) := by decide +kernel
theorem dX11_law_50 : decode cX11_law 50 = .ok (.getfield 50, 3) := by decide +kernel
theorem dX11_law_53 : decode cX11_law 53 = .ok (.invokevirtual 187, 3) := by decide +kernel
theorem dX11_law_56 : decode cX11_law 56 = .ok (.ireturn, 1) := by decide +kernel
theorem dX11_best_0 : decode cX11_best 0 = .ok (.iconst (-1), 1) := by decide +kernel
theorem dX11_best_1 : decode cX11_best 1 = .ok (.istore_n 1, 1) := by decide +kernel
theorem dX11_best_2 : decode cX11_best 2 = .ok (.iconst 0, 1) := by decide +kernel
theorem dX11_best_3 : decode cX11_best 3 = .ok (.istore_n 2, 1) := by decide +kernel
theorem dX11_best_4 : decode cX11_best 4 = .ok (.iconst 0, 1) := by decide +kernel
theorem dX11_best_5 : decode cX11_best 5 = .ok (.istore_n 3, 1) := by decide +kernel
theorem dX11_best_6 : decode cX11_best 6 = .ok (.iload_n 3, 1) := by decide +kernel
theorem dX11_best_7 : decode cX11_best 7 = .ok (.bipush 6, 2) := by decide +kernel
theorem dX11_best_9 : decode cX11_best 9 = .ok (.if_icmp .ge 34, 3) := by decide +kernel
theorem dX11_best_12 : decode cX11_best 12 = .ok (.aload_n 0, 1) := by decide +kernel
theorem dX11_best_13 : decode cX11_best 13 = .ok (.iload_n 3, 1) := by decide +kernel
theorem dX11_best_14 : decode cX11_best 14 = .ok (.invokevirtual 401, 3) := by decide +kernel
theorem dX11_best_17 : decode cX11_best 17 = .ok (.aload_n 0, 1) := by decide +kernel
theorem dX11_best_18 : decode cX11_best 18 = .ok (.getfield 50, 3) := by decide +kernel
theorem dX11_best_21 : decode cX11_best 21 = .ok (.invokevirtual 187, 3) := by decide +kernel
theorem dX11_best_24 : decode cX11_best 24 = .ok (.istore 4, 2) := by decide +kernel
theorem dX11_best_26 : decode cX11_best 26 = .ok (.iload 4, 2) := by decide +kernel
theorem dX11_best_28 : decode cX11_best 28 = .ok (.iload_n 1, 1) := by decide +kernel
theorem dX11_best_29 : decode cX11_best 29 = .ok (.if_icmp .le 8, 3) := by decide +kernel
theorem dX11_best_32 : decode cX11_best 32 = .ok (.iload 4, 2) := by decide +kernel
theorem dX11_best_34 : decode cX11_best 34 = .ok (.istore_n 1, 1) := by decide +kernel
theorem dX11_best_35 : decode cX11_best 35 = .ok (.iload_n 3, 1) := by decide +kernel
theorem dX11_best_36 : decode cX11_best 36 = .ok (.istore_n 2, 1) := by decide +kernel
theorem dX11_best_37 : decode cX11_best 37 = .ok (.iinc 3 1, 3) := by decide +kernel
theorem dX11_best_40 : decode cX11_best 40 = .ok (.goto (-34), 3) := by decide +kernel
theorem dX11_best_43 : decode cX11_best 43 = .ok (.iload_n 2, 1) := by decide +kernel
theorem dX11_best_44 : decode cX11_best 44 = .ok (.ireturn, 1) := by decide +kernel
theorem dX11_run_0 : decode cX11_run 0 = .ok (.iload_n 1, 1) := by decide +kernel
theorem dX11_run_1 : decode cX11_run 1 = .ok (.ifCond .lt 21, 3) := by decide +kernel
theorem dX11_run_4 : decode cX11_run 4 = .ok (.iload_n 1, 1) := by decide +kernel
theorem dX11_run_5 : decode cX11_run 5 = .ok (.sipush 400, 3) := by decide +kernel
theorem dX11_run_8 : decode cX11_run 8 = .ok (.if_icmp .gt 14, 3) := by decide +kernel
theorem dX11_run_11 : decode cX11_run 11 = .ok (.aload_n 0, 1) := by decide +kernel
theorem dX11_run_12 : decode cX11_run 12 = .ok (.getfield 16, 3) := by decide +kernel
theorem dX11_run_15 : decode cX11_run 15 = .ok (.getfield 134, 3) := by decide +kernel
theorem dX11_run_18 : decode cX11_run 18 = .ok (.iconst 2, 1) := by decide +kernel
theorem dX11_run_19 : decode cX11_run 19 = .ok (.if_icmp .ge 14, 3) := by decide +kernel
theorem dX11_run_22 : decode cX11_run 22 = .ok (.new 111, 3) := by decide +kernel
theorem dX11_run_25 : decode cX11_run 25 = .ok (.dup, 1) := by decide +kernel
theorem dX11_run_26 : decode cX11_run 26 = .ok (.ldc_w 404, 3) := by decide +kernel
theorem dX11_run_29 : decode cX11_run 29 = .ok (.invokespecial 115, 3) := by decide +kernel
theorem dX11_run_32 : decode cX11_run 32 = .ok (.athrow, 1) := by decide +kernel
theorem dX11_run_33 : decode cX11_run 33 = .ok (.iconst 0, 1) := by decide +kernel
theorem dX11_run_34 : decode cX11_run 34 = .ok (.istore_n 3, 1) := by decide +kernel
theorem dX11_run_35 : decode cX11_run 35 = .ok (.iload_n 2, 1) := by decide +kernel
theorem dX11_run_36 : decode cX11_run 36 = .ok (.istore 4, 2) := by decide +kernel
theorem dX11_run_38 : decode cX11_run 38 = .ok (.iconst 0, 1) := by decide +kernel
theorem dX11_run_39 : decode cX11_run 39 = .ok (.istore 5, 2) := by decide +kernel
theorem dX11_run_41 : decode cX11_run 41 = .ok (.iload 5, 2) := by decide +kernel
theorem dX11_run_43 : decode cX11_run 43 = .ok (.iload_n 1, 1) := by decide +kernel
theorem dX11_run_44 : decode cX11_run 44 = .ok (.if_icmp .ge 80, 3) := by decide +kernel
theorem dX11_run_47 : decode cX11_run 47 = .ok (.iload 4, 2) := by decide +kernel
theorem dX11_run_49 : decode cX11_run 49 = .ok (.invokestatic 406, 3) := by decide +kernel
theorem dX11_run_52 : decode cX11_run 52 = .ok (.istore 4, 2) := by decide +kernel
theorem dX11_run_54 : decode cX11_run 54 = .ok (.iload 4, 2) := by decide +kernel
theorem dX11_run_56 : decode cX11_run 56 = .ok (.aload_n 0, 1) := by decide +kernel
theorem dX11_run_57 : decode cX11_run 57 = .ok (.getfield 16, 3) := by decide +kernel
theorem dX11_run_60 : decode cX11_run 60 = .ok (.getfield 134, 3) := by decide +kernel
theorem dX11_run_63 : decode cX11_run 63 = .ok (.invokestatic 409, 3) := by decide +kernel
theorem dX11_run_66 : decode cX11_run 66 = .ok (.istore 6, 2) := by decide +kernel
theorem dX11_run_68 : decode cX11_run 68 = .ok (.iload 4, 2) := by decide +kernel
theorem dX11_run_70 : decode cX11_run 70 = .ok (.invokestatic 406, 3) := by decide +kernel
theorem dX11_run_73 : decode cX11_run 73 = .ok (.istore 4, 2) := by decide +kernel
theorem dX11_run_75 : decode cX11_run 75 = .ok (.iload 4, 2) := by decide +kernel
theorem dX11_run_77 : decode cX11_run 77 = .ok (.aload_n 0, 1) := by decide +kernel
theorem dX11_run_78 : decode cX11_run 78 = .ok (.getfield 16, 3) := by decide +kernel
theorem dX11_run_81 : decode cX11_run 81 = .ok (.getfield 134, 3) := by decide +kernel
theorem dX11_run_84 : decode cX11_run 84 = .ok (.iconst 1, 1) := by decide +kernel
theorem dX11_run_85 : decode cX11_run 85 = .ok (.isub, 1) := by decide +kernel
theorem dX11_run_86 : decode cX11_run 86 = .ok (.invokestatic 409, 3) := by decide +kernel
theorem dX11_run_89 : decode cX11_run 89 = .ok (.istore 7, 2) := by decide +kernel
theorem dX11_run_91 : decode cX11_run 91 = .ok (.iload 7, 2) := by decide +kernel
theorem dX11_run_93 : decode cX11_run 93 = .ok (.iload 6, 2) := by decide +kernel
theorem dX11_run_95 : decode cX11_run 95 = .ok (.if_icmp .lt 6, 3) := by decide +kernel
theorem dX11_run_98 : decode cX11_run 98 = .ok (.iinc 7 1, 3) := by decide +kernel
theorem dX11_run_101 : decode cX11_run 101 = .ok (.aload_n 0, 1) := by decide +kernel
theorem dX11_run_102 : decode cX11_run 102 = .ok (.getfield 46, 3) := by decide +kernel
theorem dX11_run_105 : decode cX11_run 105 = .ok (.iload 6, 2) := by decide +kernel
theorem dX11_run_107 : decode cX11_run 107 = .ok (.iload 7, 2) := by decide +kernel
theorem dX11_run_109 : decode cX11_run 109 = .ok (.invokevirtual 322, 3) := by decide +kernel
theorem dX11_run_112 : decode cX11_run 112 = .ok (.ifCond .le 6, 3) := by decide +kernel
theorem dX11_run_115 : decode cX11_run 115 = .ok (.iinc 3 1, 3) := by decide +kernel
theorem dX11_run_118 : decode cX11_run 118 = .ok (.iinc 5 1, 3) := by decide +kernel
theorem dX11_run_121 : decode cX11_run 121 = .ok (.goto (-80), 3) := by decide +kernel
theorem dX11_run_124 : decode cX11_run 124 = .ok (.iload_n 3, 1) := by decide +kernel
theorem dX11_run_125 : decode cX11_run 125 = .ok (.ireturn, 1) := by decide +kernel
theorem dX11_image_0 : decode cX11_image 0 = .ok (.aload_n 0, 1) := by decide +kernel
theorem dX11_image_1 : decode cX11_image 1 = .ok (.getfield 46, 3) := by decide +kernel
theorem dX11_image_4 : decode cX11_image 4 = .ok (.getfield 180, 3) := by decide +kernel
theorem dX11_image_7 : decode cX11_image 7 = .ok (.iconst 0, 1) := by decide +kernel
theorem dX11_image_8 : decode cX11_image 8 = .ok (.aload_n 0, 1) := by decide +kernel
theorem dX11_image_9 : decode cX11_image 9 = .ok (.getfield 100, 3) := by decide +kernel
theorem dX11_image_12 : decode cX11_image 12 = .ok (.getfield 412, 3) := by decide +kernel
theorem dX11_image_15 : decode cX11_image 15 = .ok (.iconst 0, 1) := by decide +kernel
theorem dX11_image_16 : decode cX11_image 16 = .ok (.bipush 48, 2) := by decide +kernel
theorem dX11_image_18 : decode cX11_image 18 = .ok (.invokestatic 415, 3) := by decide +kernel
theorem dX11_image_21 : decode cX11_image 21 = .ok (.aload_n 0, 1) := by decide +kernel
theorem dX11_image_22 : decode cX11_image 22 = .ok (.getfield 100, 3) := by decide +kernel
theorem dX11_image_25 : decode cX11_image 25 = .ok (.iconst 1, 1) := by decide +kernel
theorem dX11_image_26 : decode cX11_image 26 = .ok (.putfield 421, 3) := by decide +kernel
theorem dX11_image_29 : decode cX11_image 29 = .ok (.return_, 1) := by decide +kernel
theorem dX11_restore_0 : decode cX11_restore 0 = .ok (.aload_n 0, 1) := by decide +kernel
theorem dX11_restore_1 : decode cX11_restore 1 = .ok (.getfield 100, 3) := by decide +kernel
theorem dX11_restore_4 : decode cX11_restore 4 = .ok (.getfield 421, 3) := by decide +kernel
theorem dX11_restore_7 : decode cX11_restore 7 = .ok (.ifCond .ne 5, 3) := by decide +kernel
theorem dX11_restore_10 : decode cX11_restore 10 = .ok (.iconst 0, 1) := by decide +kernel
theorem dX11_restore_11 : decode cX11_restore 11 = .ok (.ireturn, 1) := by decide +kernel
theorem dX11_restore_12 : decode cX11_restore 12 = .ok (.aload_n 0, 1) := by decide +kernel
theorem dX11_restore_13 : decode cX11_restore 13 = .ok (.getfield 100, 3) := by decide +kernel
theorem dX11_restore_16 : decode cX11_restore 16 = .ok (.getfield 412, 3) := by decide +kernel
theorem dX11_restore_19 : decode cX11_restore 19 = .ok (.iconst 0, 1) := by decide +kernel
theorem dX11_restore_20 : decode cX11_restore 20 = .ok (.aload_n 0, 1) := by decide +kernel
theorem dX11_restore_21 : decode cX11_restore 21 = .ok (.getfield 46, 3) := by decide +kernel
theorem dX11_restore_24 : decode cX11_restore 24 = .ok (.getfield 180, 3) := by decide +kernel
theorem dX11_restore_27 : decode cX11_restore 27 = .ok (.iconst 0, 1) := by decide +kernel
theorem dX11_restore_28 : decode cX11_restore 28 = .ok (.bipush 48, 2) := by decide +kernel
theorem dX11_restore_30 : decode cX11_restore 30 = .ok (.invokestatic 415, 3) := by decide +kernel
theorem dX11_restore_33 : decode cX11_restore 33 = .ok (.iconst 1, 1) := by decide +kernel
theorem dX11_restore_34 : decode cX11_restore 34 = .ok (.ireturn, 1) := by decide +kernel
theorem dX11_isNobody_0 : decode cX11_isNobody 0 = .ok (.iload_n 1, 1) := by decide +kernel
theorem dX11_isNobody_1 : decode cX11_isNobody 1 = .ok (.ifCond .lt 14, 3) := by decide +kernel
theorem dX11_isNobody_4 : decode cX11_isNobody 4 = .ok (.iload_n 1, 1) := by decide +kernel
theorem dX11_isNobody_5 : decode cX11_isNobody 5 = .ok (.aload_n 0, 1) := by decide +kernel
theorem dX11_isNobody_6 : decode cX11_isNobody 6 = .ok (.getfield 16, 3) := by decide +kernel
theorem dX11_isNobody_9 : decode cX11_isNobody 9 = .ok (.getfield 134, 3) := by decide +kernel
theorem dX11_isNobody_12 : decode cX11_isNobody 12 = .ok (.if_icmp .lt 7, 3) := by decide +kernel
theorem dX11_isNobody_15 : decode cX11_isNobody 15 = .ok (.iconst 1, 1) := by decide +kernel
theorem dX11_isNobody_16 : decode cX11_isNobody 16 = .ok (.goto 4, 3) := by decide +kernel
theorem dX11_isNobody_19 : decode cX11_isNobody 19 = .ok (.iconst 0, 1) := by decide +kernel
theorem dX11_isNobody_20 : decode cX11_isNobody 20 = .ok (.ireturn, 1) := by decide +kernel
theorem dX11_isNoSort_0 : decode cX11_isNoSort 0 = .ok (.iload_n 1, 1) := by decide +kernel
theorem dX11_isNoSort_1 : decode cX11_isNoSort 1 = .ok (.ifCond .lt 14, 3) := by decide +kernel
theorem dX11_isNoSort_4 : decode cX11_isNoSort 4 = .ok (.iload_n 1, 1) := by decide +kernel
theorem dX11_isNoSort_5 : decode cX11_isNoSort 5 = .ok (.aload_n 0, 1) := by decide +kernel
theorem dX11_isNoSort_6 : decode cX11_isNoSort 6 = .ok (.getfield 16, 3) := by decide +kernel
theorem dX11_isNoSort_9 : decode cX11_isNoSort 9 = .ok (.getfield 137, 3) := by decide +kernel
theorem dX11_isNoSort_12 : decode cX11_isNoSort 12 = .ok (.if_icmp .lt 7, 3) := by decide +kernel
theorem dX11_isNoSort_15 : decode cX11_isNoSort 15 = .ok (.iconst 1, 1) := by decide +kernel
theorem dX11_isNoSort_16 : decode cX11_isNoSort 16 = .ok (.goto 4, 3) := by decide +kernel
theorem dX11_isNoSort_19 : decode cX11_isNoSort 19 = .ok (.iconst 0, 1) := by decide +kernel
theorem dX11_isNoSort_20 : decode cX11_isNoSort 20 = .ok (.ireturn, 1) := by decide +kernel
theorem dX11_isNoCell_0 : decode cX11_isNoCell 0 = .ok (.aload_n 0, 1) := by decide +kernel
theorem dX11_isNoCell_1 : decode cX11_isNoCell 1 = .ok (.iload_n 1, 1) := by decide +kernel
theorem dX11_isNoCell_2 : decode cX11_isNoCell 2 = .ok (.invokevirtual 190, 3) := by decide +kernel
theorem dX11_isNoCell_5 : decode cX11_isNoCell 5 = .ok (.ifCond .ne 11, 3) := by decide +kernel
theorem dX11_isNoCell_8 : decode cX11_isNoCell 8 = .ok (.aload_n 0, 1) := by decide +kernel
theorem dX11_isNoCell_9 : decode cX11_isNoCell 9 = .ok (.iload_n 2, 1) := by decide +kernel
theorem dX11_isNoCell_10 : decode cX11_isNoCell 10 = .ok (.invokevirtual 200, 3) := by decide +kernel
theorem dX11_isNoCell_13 : decode cX11_isNoCell 13 = .ok (.ifCond .eq 7, 3) := by decide +kernel
theorem dX11_isNoCell_16 : decode cX11_isNoCell 16 = .ok (.iconst 1, 1) := by decide +kernel
theorem dX11_isNoCell_17 : decode cX11_isNoCell 17 = .ok (.goto 4, 3) := by decide +kernel
theorem dX11_isNoCell_20 : decode cX11_isNoCell 20 = .ok (.iconst 0, 1) := by decide +kernel
theorem dX11_isNoCell_21 : decode cX11_isNoCell 21 = .ok (.ireturn, 1) := by decide +kernel
theorem dX11_isNoTwo_0 : decode cX11_isNoTwo 0 = .ok (.aload_n 0, 1) := by decide +kernel
theorem dX11_isNoTwo_1 : decode cX11_isNoTwo 1 = .ok (.iload_n 1, 1) := by decide +kernel
theorem dX11_isNoTwo_2 : decode cX11_isNoTwo 2 = .ok (.invokevirtual 190, 3) := by decide +kernel
theorem dX11_isNoTwo_5 : decode cX11_isNoTwo 5 = .ok (.ifCond .ne 16, 3) := by decide +kernel
theorem dX11_isNoTwo_8 : decode cX11_isNoTwo 8 = .ok (.aload_n 0, 1) := by decide +kernel
theorem dX11_isNoTwo_9 : decode cX11_isNoTwo 9 = .ok (.iload_n 2, 1) := by decide +kernel
theorem dX11_isNoTwo_10 : decode cX11_isNoTwo 10 = .ok (.invokevirtual 190, 3) := by decide +kernel
theorem dX11_isNoTwo_13 : decode cX11_isNoTwo 13 = .ok (.ifCond .ne 8, 3) := by decide +kernel
theorem dX11_isNoTwo_16 : decode cX11_isNoTwo 16 = .ok (.iload_n 1, 1) := by decide +kernel
theorem dX11_isNoTwo_17 : decode cX11_isNoTwo 17 = .ok (.iload_n 2, 1) := by decide +kernel
theorem dX11_isNoTwo_18 : decode cX11_isNoTwo 18 = .ok (.if_icmp .ne 7, 3) := by decide +kernel
theorem dX11_isNoTwo_21 : decode cX11_isNoTwo 21 = .ok (.iconst 1, 1) := by decide +kernel
theorem dX11_isNoTwo_22 : decode cX11_isNoTwo 22 = .ok (.goto 4, 3) := by decide +kernel
theorem dX11_isNoTwo_25 : decode cX11_isNoTwo 25 = .ok (.iconst 0, 1) := by decide +kernel
theorem dX11_isNoTwo_26 : decode cX11_isNoTwo 26 = .ok (.ireturn, 1) := by decide +kernel
theorem dX11_put_0 : decode cX11_put 0 = .ok (.bipush 24, 2) := by decide +kernel
theorem dX11_put_2 : decode cX11_put 2 = .ok (.istore_n 2, 1) := by decide +kernel
theorem dX11_put_3 : decode cX11_put 3 = .ok (.iload_n 2, 1) := by decide +kernel
theorem dX11_put_4 : decode cX11_put 4 = .ok (.ifCond .lt 42, 3) := by decide +kernel
theorem dX11_put_7 : decode cX11_put 7 = .ok (.aload_n 0, 1) := by decide +kernel
theorem dX11_put_8 : decode cX11_put 8 = .ok (.getfield 104, 3) := by decide +kernel
theorem dX11_put_11 : decode cX11_put 11 = .ok (.sipush 700, 3) := by decide +kernel
theorem dX11_put_14 : decode cX11_put 14 = .ok (.if_icmp .ge 32, 3) := by decide +kernel
theorem dX11_put_17 : decode cX11_put 17 = .ok (.aload_n 0, 1) := by decide +kernel
theorem dX11_put_18 : decode cX11_put 18 = .ok (.getfield 9, 3) := by decide +kernel
theorem dX11_put_21 : decode cX11_put 21 = .ok (.aload_n 0, 1) := by decide +kernel
theorem dX11_put_22 : decode cX11_put 22 = .ok (.getfield 104, 3) := by decide +kernel
theorem dX11_put_25 : decode cX11_put 25 = .ok (.iload_n 1, 1) := by decide +kernel
theorem dX11_put_26 : decode cX11_put 26 = .ok (.iload_n 2, 1) := by decide +kernel
theorem dX11_put_27 : decode cX11_put 27 = .ok (.iushr, 1) := by decide +kernel
theorem dX11_put_28 : decode cX11_put 28 = .ok (.i2b, 1) := by decide +kernel
theorem dX11_put_29 : decode cX11_put 29 = .ok (.bastore, 1) := by decide +kernel
theorem dX11_put_30 : decode cX11_put 30 = .ok (.aload_n 0, 1) := by decide +kernel
theorem dX11_put_31 : decode cX11_put 31 = .ok (.dup, 1) := by decide +kernel
theorem dX11_put_32 : decode cX11_put 32 = .ok (.getfield 104, 3) := by decide +kernel
theorem dX11_put_35 : decode cX11_put 35 = .ok (.iconst 1, 1) := by decide +kernel
theorem dX11_put_36 : decode cX11_put 36 = .ok (.iadd, 1) := by decide +kernel
theorem dX11_put_37 : decode cX11_put 37 = .ok (.putfield 104, 3) := by decide +kernel
theorem dX11_put_40 : decode cX11_put 40 = .ok (.iinc 2 (-8), 3) := by decide +kernel
theorem dX11_put_43 : decode cX11_put 43 = .ok (.goto (-40), 3) := by decide +kernel
theorem dX11_put_46 : decode cX11_put 46 = .ok (.return_, 1) := by decide +kernel
theorem dX11_partOfTrade_0 : decode cX11_partOfTrade 0 = .ok (.iload_n 1, 1) := by decide +kernel
theorem dX11_partOfTrade_1 : decode cX11_partOfTrade 1 = .ok (.bipush 8, 2) := by decide +kernel
theorem dX11_partOfTrade_3 : decode cX11_partOfTrade 3 = .ok (.irem, 1) := by decide +kernel
theorem dX11_partOfTrade_4 : decode cX11_partOfTrade 4 = .ok (.istore_n 3, 1) := by decide +kernel
theorem dX11_partOfTrade_5 : decode cX11_partOfTrade 5 = .ok (.iload_n 1, 1) := by decide +kernel
theorem dX11_partOfTrade_6 : decode cX11_partOfTrade 6 = .ok (.bipush 8, 2) := by decide +kernel
theorem dX11_partOfTrade_8 : decode cX11_partOfTrade 8 = .ok (.idiv, 1) := by decide +kernel
theorem dX11_partOfTrade_9 : decode cX11_partOfTrade 9 = .ok (.istore 4, 2) := by decide +kernel
theorem dX11_partOfTrade_11 : decode cX11_partOfTrade 11 = .ok (.iload 4, 2) := by decide +kernel
theorem dX11_partOfTrade_13 : decode cX11_partOfTrade 13 = .ok (.bipush 120, 2) := by decide +kernel
theorem dX11_partOfTrade_15 : decode cX11_partOfTrade 15 = .ok (.irem, 1) := by decide +kernel
theorem dX11_partOfTrade_16 : decode cX11_partOfTrade 16 = .ok (.istore 5, 2) := by decide +kernel
theorem dX11_partOfTrade_18 : decode cX11_partOfTrade 18 = .ok (.iload 4, 2) := by decide +kernel
theorem dX11_partOfTrade_20 : decode cX11_partOfTrade 20 = .ok (.bipush 120, 2) := by decide +kernel
theorem dX11_partOfTrade_22 : decode cX11_partOfTrade 22 = .ok (.idiv, 1) := by decide +kernel
theorem dX11_partOfTrade_23 : decode cX11_partOfTrade 23 = .ok (.istore 6, 2) := by decide +kernel
theorem dX11_partOfTrade_25 : decode cX11_partOfTrade 25 = .ok (.iload_n 2, 1) := by decide +kernel
theorem dX11_partOfTrade_26 : decode cX11_partOfTrade 26 = .ok (.tableswitch 52 0 2 #[26, 32, 38], 26) := by decide +kernel
theorem dX11_partOfTrade_52 : decode cX11_partOfTrade 52 = .ok (.iload 6, 2) := by decide +kernel
theorem dX11_partOfTrade_54 : decode cX11_partOfTrade 54 = .ok (.bipush 6, 2) := by decide +kernel
theorem dX11_partOfTrade_56 : decode cX11_partOfTrade 56 = .ok (.idiv, 1) := by decide +kernel
theorem dX11_partOfTrade_57 : decode cX11_partOfTrade 57 = .ok (.ireturn, 1) := by decide +kernel
theorem dX11_partOfTrade_58 : decode cX11_partOfTrade 58 = .ok (.iload 6, 2) := by decide +kernel
theorem dX11_partOfTrade_60 : decode cX11_partOfTrade 60 = .ok (.bipush 6, 2) := by decide +kernel
theorem dX11_partOfTrade_62 : decode cX11_partOfTrade 62 = .ok (.irem, 1) := by decide +kernel
theorem dX11_partOfTrade_63 : decode cX11_partOfTrade 63 = .ok (.ireturn, 1) := by decide +kernel
theorem dX11_partOfTrade_64 : decode cX11_partOfTrade 64 = .ok (.aload_n 0, 1) := by decide +kernel
theorem dX11_partOfTrade_65 : decode cX11_partOfTrade 65 = .ok (.getfield 16, 3) := by decide +kernel
theorem dX11_partOfTrade_68 : decode cX11_partOfTrade 68 = .ok (.getfield 140, 3) := by decide +kernel
theorem dX11_partOfTrade_71 : decode cX11_partOfTrade 71 = .ok (.getfield 424, 3) := by decide +kernel
theorem dX11_partOfTrade_74 : decode cX11_partOfTrade 74 = .ok (.iload 5, 2) := by decide +kernel
theorem dX11_partOfTrade_76 : decode cX11_partOfTrade 76 = .ok (.iaload, 1) := by decide +kernel
theorem dX11_partOfTrade_77 : decode cX11_partOfTrade 77 = .ok (.ireturn, 1) := by decide +kernel
theorem dX11_partOfTrade_78 : decode cX11_partOfTrade 78 = .ok (.iload_n 3, 1) := by decide +kernel
theorem dX11_partOfTrade_79 : decode cX11_partOfTrade 79 = .ok (.ireturn, 1) := by decide +kernel
theorem dX11_partOfTie_0 : decode cX11_partOfTie 0 = .ok (.iload_n 1, 1) := by decide +kernel
theorem dX11_partOfTie_1 : decode cX11_partOfTie 1 = .ok (.ifCond .ne 7, 3) := by decide +kernel
theorem dX11_partOfTie_4 : decode cX11_partOfTie 4 = .ok (.iload_n 0, 1) := by decide +kernel
theorem dX11_partOfTie_5 : decode cX11_partOfTie 5 = .ok (.iconst 4, 1) := by decide +kernel
theorem dX11_partOfTie_6 : decode cX11_partOfTie 6 = .ok (.idiv, 1) := by decide +kernel
theorem dX11_partOfTie_7 : decode cX11_partOfTie 7 = .ok (.ireturn, 1) := by decide +kernel
theorem dX11_partOfTie_8 : decode cX11_partOfTie 8 = .ok (.iload_n 1, 1) := by decide +kernel
theorem dX11_partOfTie_9 : decode cX11_partOfTie 9 = .ok (.iconst 2, 1) := by decide +kernel
theorem dX11_partOfTie_10 : decode cX11_partOfTie 10 = .ok (.if_icmp .ne 9, 3) := by decide +kernel
theorem dX11_partOfTie_13 : decode cX11_partOfTie 13 = .ok (.iload_n 0, 1) := by decide +kernel
theorem dX11_partOfTie_14 : decode cX11_partOfTie 14 = .ok (.iconst 4, 1) := by decide +kernel
theorem dX11_partOfTie_15 : decode cX11_partOfTie 15 = .ok (.irem, 1) := by decide +kernel
theorem dX11_partOfTie_16 : decode cX11_partOfTie 16 = .ok (.goto 4, 3) := by decide +kernel
theorem dX11_partOfTie_19 : decode cX11_partOfTie 19 = .ok (.iconst (-1), 1) := by decide +kernel
theorem dX11_partOfTie_20 : decode cX11_partOfTie 20 = .ok (.ireturn, 1) := by decide +kernel
theorem dX11_worthAfterWaiting_0 : decode cX11_worthAfterWaiting 0 = .ok (.aload_n 0, 1) := by decide +kernel
theorem dX11_worthAfterWaiting_1 : decode cX11_worthAfterWaiting 1 = .ok (.getfield 50, 3) := by decide +kernel
theorem dX11_worthAfterWaiting_4 : decode cX11_worthAfterWaiting 4 = .ok (.aload_n 0, 1) := by decide +kernel
theorem dX11_worthAfterWaiting_5 : decode cX11_worthAfterWaiting 5 = .ok (.getfield 46, 3) := by decide +kernel
theorem dX11_worthAfterWaiting_8 : decode cX11_worthAfterWaiting 8 = .ok (.invokevirtual 232, 3) := by decide +kernel
theorem dX11_worthAfterWaiting_11 : decode cX11_worthAfterWaiting 11 = .ok (.iconst 0, 1) := by decide +kernel
theorem dX11_worthAfterWaiting_12 : decode cX11_worthAfterWaiting 12 = .ok (.istore 4, 2) := by decide +kernel
theorem dX11_worthAfterWaiting_14 : decode cX11_worthAfterWaiting 14 = .ok (.iload 4, 2) := by decide +kernel
theorem dX11_worthAfterWaiting_16 : decode cX11_worthAfterWaiting 16 = .ok (.iload_n 2, 1) := by decide +kernel
theorem dX11_worthAfterWaiting_17 : decode cX11_worthAfterWaiting 17 = .ok (.if_icmp .ge 18, 3) := by decide +kernel
theorem dX11_worthAfterWaiting_20 : decode cX11_worthAfterWaiting 20 = .ok (.aload_n 0, 1) := by decide +kernel
theorem dX11_worthAfterWaiting_21 : decode cX11_worthAfterWaiting 21 = .ok (.getfield 50, 3) := by decide +kernel
theorem dX11_worthAfterWaiting_24 : decode cX11_worthAfterWaiting 24 = .ok (.iload_n 1, 1) := by decide +kernel
theorem dX11_worthAfterWaiting_25 : decode cX11_worthAfterWaiting 25 = .ok (.invokevirtual 327, 3) := by decide +kernel
theorem dX11_worthAfterWaiting_28 : decode cX11_worthAfterWaiting 28 = .ok (.pop, 1) := by decide +kernel
theorem dX11_worthAfterWaiting_29 : decode cX11_worthAfterWaiting 29 = .ok (.iinc 4 1, 3) := by decide +kernel
theorem dX11_worthAfterWaiting_32 : decode cX11_worthAfterWaiting 32 = .ok (.goto (-18), 3) := by decide +kernel
theorem dX11_worthAfterWaiting_35 : decode cX11_worthAfterWaiting 35 = .ok (.iconst 0, 1) := by decide +kernel
theorem dX11_worthAfterWaiting_36 : decode cX11_worthAfterWaiting 36 = .ok (.istore 4, 2) := by decide +kernel
theorem dX11_worthAfterWaiting_38 : decode cX11_worthAfterWaiting 38 = .ok (.iload 4, 2) := by decide +kernel
theorem dX11_worthAfterWaiting_40 : decode cX11_worthAfterWaiting 40 = .ok (.iload_n 3, 1) := by decide +kernel
theorem dX11_worthAfterWaiting_41 : decode cX11_worthAfterWaiting 41 = .ok (.if_icmp .ge 18, 3) := by decide +kernel
theorem dX11_worthAfterWaiting_44 : decode cX11_worthAfterWaiting 44 = .ok (.aload_n 0, 1) := by decide +kernel
theorem dX11_worthAfterWaiting_45 : decode cX11_worthAfterWaiting 45 = .ok (.getfield 50, 3) := by decide +kernel
theorem dX11_worthAfterWaiting_48 : decode cX11_worthAfterWaiting 48 = .ok (.iconst (-1), 1) := by decide +kernel
theorem dX11_worthAfterWaiting_49 : decode cX11_worthAfterWaiting 49 = .ok (.invokevirtual 327, 3) := by decide +kernel
theorem dX11_worthAfterWaiting_52 : decode cX11_worthAfterWaiting 52 = .ok (.pop, 1) := by decide +kernel
theorem dX11_worthAfterWaiting_53 : decode cX11_worthAfterWaiting 53 = .ok (.iinc 4 1, 3) := by decide +kernel
theorem dX11_worthAfterWaiting_56 : decode cX11_worthAfterWaiting 56 = .ok (.goto (-18), 3) := by decide +kernel
theorem dX11_worthAfterWaiting_59 : decode cX11_worthAfterWaiting 59 = .ok (.aload_n 0, 1) := by decide +kernel
theorem dX11_worthAfterWaiting_60 : decode cX11_worthAfterWaiting 60 = .ok (.getfield 50, 3) := by decide +kernel
theorem dX11_worthAfterWaiting_63 : decode cX11_worthAfterWaiting 63 = .ok (.iload_n 1, 1) := by decide +kernel
theorem dX11_worthAfterWaiting_64 : decode cX11_worthAfterWaiting 64 = .ok (.invokevirtual 196, 3) := by decide +kernel
theorem dX11_worthAfterWaiting_67 : decode cX11_worthAfterWaiting 67 = .ok (.ireturn, 1) := by decide +kernel
theorem dX11_goUnderLaw_0 : decode cX11_goUnderLaw 0 = .ok (.aload_n 0, 1) := by decide +kernel
theorem dX11_goUnderLaw_1 : decode cX11_goUnderLaw 1 = .ok (.getfield 56, 3) := by decide +kernel
theorem dX11_goUnderLaw_4 : decode cX11_goUnderLaw 4 = .ok (.iload_n 1, 1) := by decide +kernel
theorem dX11_goUnderLaw_5 : decode cX11_goUnderLaw 5 = .ok (.iconst 2, 1) := by decide +kernel
theorem dX11_goUnderLaw_6 : decode cX11_goUnderLaw 6 = .ok (.idiv, 1) := by decide +kernel
theorem dX11_goUnderLaw_7 : decode cX11_goUnderLaw 7 = .ok (.iconst 1, 1) := by decide +kernel
theorem dX11_goUnderLaw_8 : decode cX11_goUnderLaw 8 = .ok (.iadd, 1) := by decide +kernel
theorem dX11_goUnderLaw_9 : decode cX11_goUnderLaw 9 = .ok (.putfield 143, 3) := by decide +kernel
theorem dX11_goUnderLaw_12 : decode cX11_goUnderLaw 12 = .ok (.aload_n 0, 1) := by decide +kernel
theorem dX11_goUnderLaw_13 : decode cX11_goUnderLaw 13 = .ok (.getfield 56, 3) := by decide +kernel
theorem dX11_goUnderLaw_16 : decode cX11_goUnderLaw 16 = .ok (.iload_n 1, 1) := by decide +kernel
theorem dX11_goUnderLaw_17 : decode cX11_goUnderLaw 17 = .ok (.iconst 2, 1) := by decide +kernel
theorem dX11_goUnderLaw_18 : decode cX11_goUnderLaw 18 = .ok (.irem, 1) := by decide +kernel
theorem dX11_goUnderLaw_19 : decode cX11_goUnderLaw 19 = .ok (.iconst 1, 1) := by decide +kernel
theorem dX11_goUnderLaw_20 : decode cX11_goUnderLaw 20 = .ok (.if_icmp .ne 7, 3) := by decide +kernel
theorem dX11_goUnderLaw_23 : decode cX11_goUnderLaw 23 = .ok (.iconst 1, 1) := by decide +kernel
theorem dX11_goUnderLaw_24 : decode cX11_goUnderLaw 24 = .ok (.goto 4, 3) := by decide +kernel
theorem dX11_goUnderLaw_27 : decode cX11_goUnderLaw 27 = .ok (.iconst 0, 1) := by decide +kernel
theorem dX11_goUnderLaw_28 : decode cX11_goUnderLaw 28 = .ok (.putfield 149, 3) := by decide +kernel
theorem dX11_goUnderLaw_31 : decode cX11_goUnderLaw 31 = .ok (.aload_n 0, 1) := by decide +kernel
theorem dX11_goUnderLaw_32 : decode cX11_goUnderLaw 32 = .ok (.getfield 56, 3) := by decide +kernel
theorem dX11_goUnderLaw_35 : decode cX11_goUnderLaw 35 = .ok (.aload_n 0, 1) := by decide +kernel
theorem dX11_goUnderLaw_36 : decode cX11_goUnderLaw 36 = .ok (.getfield 16, 3) := by decide +kernel
theorem dX11_goUnderLaw_39 : decode cX11_goUnderLaw 39 = .ok (.getfield 140, 3) := by decide +kernel
theorem dX11_goUnderLaw_42 : decode cX11_goUnderLaw 42 = .ok (.getfield 146, 3) := by decide +kernel
theorem dX11_goUnderLaw_45 : decode cX11_goUnderLaw 45 = .ok (.putfield 146, 3) := by decide +kernel
theorem dX11_goUnderLaw_48 : decode cX11_goUnderLaw 48 = .ok (.aload_n 0, 1) := by decide +kernel
theorem dX11_goUnderLaw_49 : decode cX11_goUnderLaw 49 = .ok (.getfield 56, 3) := by decide +kernel
theorem dX11_goUnderLaw_52 : decode cX11_goUnderLaw 52 = .ok (.aload_n 0, 1) := by decide +kernel
theorem dX11_goUnderLaw_53 : decode cX11_goUnderLaw 53 = .ok (.getfield 16, 3) := by decide +kernel
theorem dX11_goUnderLaw_56 : decode cX11_goUnderLaw 56 = .ok (.getfield 137, 3) := by decide +kernel
theorem dX11_goUnderLaw_59 : decode cX11_goUnderLaw 59 = .ok (.invokevirtual 427, 3) := by decide +kernel
theorem dX11_goUnderLaw_62 : decode cX11_goUnderLaw 62 = .ok (.aload_n 0, 1) := by decide +kernel
theorem dX11_goUnderLaw_63 : decode cX11_goUnderLaw 63 = .ok (.getfield 50, 3) := by decide +kernel
theorem dX11_goUnderLaw_66 : decode cX11_goUnderLaw 66 = .ok (.aload_n 0, 1) := by decide +kernel
theorem dX11_goUnderLaw_67 : decode cX11_goUnderLaw 67 = .ok (.getfield 46, 3) := by decide +kernel
theorem dX11_goUnderLaw_70 : decode cX11_goUnderLaw 70 = .ok (.invokevirtual 232, 3) := by decide +kernel
theorem dX11_goUnderLaw_73 : decode cX11_goUnderLaw 73 = .ok (.aload_n 0, 1) := by decide +kernel
theorem dX11_goUnderLaw_74 : decode cX11_goUnderLaw 74 = .ok (.getfield 50, 3) := by decide +kernel
theorem dX11_goUnderLaw_77 : decode cX11_goUnderLaw 77 = .ok (.aload_n 0, 1) := by decide +kernel
theorem dX11_goUnderLaw_78 : decode cX11_goUnderLaw 78 = .ok (.getfield 56, 3) := by decide +kernel
theorem dX11_goUnderLaw_81 : decode cX11_goUnderLaw 81 = .ok (.putfield 430, 3) := by decide +kernel
theorem dX11_goUnderLaw_84 : decode cX11_goUnderLaw 84 = .ok (.aload_n 0, 1) := by decide +kernel
theorem dX11_goUnderLaw_85 : decode cX11_goUnderLaw 85 = .ok (.getfield 50, 3) := by decide +kernel
theorem dX11_goUnderLaw_88 : decode cX11_goUnderLaw 88 = .ok (.invokevirtual 332, 3) := by decide +kernel
theorem dX11_goUnderLaw_91 : decode cX11_goUnderLaw 91 = .ok (.pop, 1) := by decide +kernel
theorem dX11_goUnderLaw_92 : decode cX11_goUnderLaw 92 = .ok (.return_, 1) := by decide +kernel
theorem dX11_nextSeed_0 : decode cX11_nextSeed 0 = .ok (.iload_n 0, 1) := by decide +kernel
theorem dX11_nextSeed_1 : decode cX11_nextSeed 1 = .ok (.ldc_w 431, 3) := by decide +kernel
theorem dX11_nextSeed_4 : decode cX11_nextSeed 4 = .ok (.imul, 1) := by decide +kernel
theorem dX11_nextSeed_5 : decode cX11_nextSeed 5 = .ok (.sipush 12345, 3) := by decide +kernel
theorem dX11_nextSeed_8 : decode cX11_nextSeed 8 = .ok (.iadd, 1) := by decide +kernel
theorem dX11_nextSeed_9 : decode cX11_nextSeed 9 = .ok (.ireturn, 1) := by decide +kernel
theorem dX11_draw_0 : decode cX11_draw 0 = .ok (.iload_n 1, 1) := by decide +kernel
theorem dX11_draw_1 : decode cX11_draw 1 = .ok (.ifCond .le 16, 3) := by decide +kernel
theorem dX11_draw_4 : decode cX11_draw 4 = .ok (.iload_n 0, 1) := by decide +kernel
theorem dX11_draw_5 : decode cX11_draw 5 = .ok (.bipush 16, 2) := by decide +kernel
theorem dX11_draw_7 : decode cX11_draw 7 = .ok (.iushr, 1) := by decide +kernel
theorem dX11_draw_8 : decode cX11_draw 8 = .ok (.sipush 32767, 3) := by decide +kernel
theorem dX11_draw_11 : decode cX11_draw 11 = .ok (.iand, 1) := by decide +kernel
theorem dX11_draw_12 : decode cX11_draw 12 = .ok (.iload_n 1, 1) := by decide +kernel
theorem dX11_draw_13 : decode cX11_draw 13 = .ok (.irem, 1) := by decide +kernel
theorem dX11_draw_14 : decode cX11_draw 14 = .ok (.goto 4, 3) := by decide +kernel
theorem dX11_draw_17 : decode cX11_draw 17 = .ok (.iconst 0, 1) := by decide +kernel
theorem dX11_draw_18 : decode cX11_draw 18 = .ok (.ireturn, 1) := by decide +kernel
theorem dJ9_max_7cf53_0 : decode cJ9_max_7cf53 0 = .ok (.iload_n 0, 1) := by decide +kernel
theorem dJ9_max_7cf53_1 : decode cJ9_max_7cf53 1 = .ok (.iload_n 1, 1) := by decide +kernel
theorem dJ9_max_7cf53_2 : decode cJ9_max_7cf53 2 = .ok (.if_icmp .lt 7, 3) := by decide +kernel
theorem dJ9_max_7cf53_5 : decode cJ9_max_7cf53 5 = .ok (.iload_n 0, 1) := by decide +kernel
theorem dJ9_max_7cf53_6 : decode cJ9_max_7cf53 6 = .ok (.goto 4, 3) := by decide +kernel
theorem dJ9_max_7cf53_9 : decode cJ9_max_7cf53 9 = .ok (.iload_n 1, 1) := by decide +kernel
theorem dJ9_max_7cf53_10 : decode cJ9_max_7cf53 10 = .ok (.ireturn, 1) := by decide +kernel
theorem dJ9_min_7cf53_0 : decode cJ9_min_7cf53 0 = .ok (.iload_n 0, 1) := by decide +kernel
theorem dJ9_min_7cf53_1 : decode cJ9_min_7cf53 1 = .ok (.iload_n 1, 1) := by decide +kernel
theorem dJ9_min_7cf53_2 : decode cJ9_min_7cf53 2 = .ok (.if_icmp .gt 7, 3) := by decide +kernel
theorem dJ9_min_7cf53_5 : decode cJ9_min_7cf53 5 = .ok (.iload_n 0, 1) := by decide +kernel
theorem dJ9_min_7cf53_6 : decode cJ9_min_7cf53 6 = .ok (.goto 4, 3) := by decide +kernel
theorem dJ9_min_7cf53_9 : decode cJ9_min_7cf53 9 = .ok (.iload_n 1, 1) := by decide +kernel
theorem dJ9_min_7cf53_10 : decode cJ9_min_7cf53 10 = .ok (.ireturn, 1) := by decide +kernel
theorem dJ0_length_8abf5_0 : decode cJ0_length_8abf5 0 = .ok (.aload_n 0, 1) := by decide +kernel
theorem dJ0_length_8abf5_1 : decode cJ0_length_8abf5 1 = .ok (.getfield 9, 3) := by decide +kernel
theorem dJ0_length_8abf5_4 : decode cJ0_length_8abf5 4 = .ok (.arraylength, 1) := by decide +kernel
theorem dJ0_length_8abf5_5 : decode cJ0_length_8abf5 5 = .ok (.aload_n 0, 1) := by decide +kernel
theorem dJ0_length_8abf5_6 : decode cJ0_length_8abf5 6 = .ok (.invokevirtual 335, 3) := by decide +kernel
theorem dJ0_length_8abf5_9 : decode cJ0_length_8abf5 9 = .ok (.ishr, 1) := by decide +kernel
theorem dJ0_length_8abf5_10 : decode cJ0_length_8abf5 10 = .ok (.ireturn, 1) := by decide +kernel
theorem dJ0_charAt_5068e_0 : decode cJ0_charAt_5068e 0 = .ok (.aload_n 0, 1) := by decide +kernel
theorem dJ0_charAt_5068e_1 : decode cJ0_charAt_5068e 1 = .ok (.invokevirtual 492, 3) := by decide +kernel
theorem dJ0_charAt_5068e_4 : decode cJ0_charAt_5068e 4 = .ok (.ifCond .eq 12, 3) := by decide +kernel
theorem dJ0_charAt_5068e_7 : decode cJ0_charAt_5068e 7 = .ok (.aload_n 0, 1) := by decide +kernel
theorem dJ0_charAt_5068e_8 : decode cJ0_charAt_5068e 8 = .ok (.getfield 9, 3) := by decide +kernel
theorem dJ0_charAt_5068e_11 : decode cJ0_charAt_5068e 11 = .ok (.iload_n 1, 1) := by decide +kernel
theorem dJ0_charAt_5068e_12 : decode cJ0_charAt_5068e 12 = .ok (.invokestatic 495, 3) := by decide +kernel
theorem dJ0_charAt_5068e_15 : decode cJ0_charAt_5068e 15 = .ok (.ireturn, 1) := by decide +kernel
theorem dJ0_charAt_5068e_16 : decode cJ0_charAt_5068e 16 = .ok (.aload_n 0, 1) := by decide +kernel
theorem dJ0_charAt_5068e_17 : decode cJ0_charAt_5068e 17 = .ok (.getfield 9, 3) := by decide +kernel
theorem dJ0_charAt_5068e_20 : decode cJ0_charAt_5068e 20 = .ok (.iload_n 1, 1) := by decide +kernel
theorem dJ0_charAt_5068e_21 : decode cJ0_charAt_5068e 21 = .ok (.invokestatic 498, 3) := by decide +kernel
theorem dJ0_charAt_5068e_24 : decode cJ0_charAt_5068e 24 = .ok (.ireturn, 1) := by decide +kernel
theorem dJ0_coder_7d493_0 : decode cJ0_coder_7d493 0 = .ok (.getstatic 38, 3) := by decide +kernel
theorem dJ0_coder_7d493_3 : decode cJ0_coder_7d493 3 = .ok (.ifCond .eq 10, 3) := by decide +kernel
theorem dJ0_coder_7d493_6 : decode cJ0_coder_7d493 6 = .ok (.aload_n 0, 1) := by decide +kernel
theorem dJ0_coder_7d493_7 : decode cJ0_coder_7d493 7 = .ok (.getfield 15, 3) := by decide +kernel
theorem dJ0_coder_7d493_10 : decode cJ0_coder_7d493 10 = .ok (.goto 4, 3) := by decide +kernel
theorem dJ0_coder_7d493_13 : decode cJ0_coder_7d493 13 = .ok (.iconst 1, 1) := by decide +kernel
theorem dJ0_coder_7d493_14 : decode cJ0_coder_7d493 14 = .ok (.ireturn, 1) := by decide +kernel
theorem dJ0_isLatin1_aae02_0 : decode cJ0_isLatin1_aae02 0 = .ok (.getstatic 38, 3) := by decide +kernel
theorem dJ0_isLatin1_aae02_3 : decode cJ0_isLatin1_aae02 3 = .ok (.ifCond .eq 14, 3) := by decide +kernel
theorem dJ0_isLatin1_aae02_6 : decode cJ0_isLatin1_aae02 6 = .ok (.aload_n 0, 1) := by decide +kernel
theorem dJ0_isLatin1_aae02_7 : decode cJ0_isLatin1_aae02 7 = .ok (.getfield 15, 3) := by decide +kernel
theorem dJ0_isLatin1_aae02_10 : decode cJ0_isLatin1_aae02 10 = .ok (.ifCond .ne 7, 3) := by decide +kernel
theorem dJ0_isLatin1_aae02_13 : decode cJ0_isLatin1_aae02 13 = .ok (.iconst 1, 1) := by decide +kernel
theorem dJ0_isLatin1_aae02_14 : decode cJ0_isLatin1_aae02 14 = .ok (.goto 4, 3) := by decide +kernel
theorem dJ0_isLatin1_aae02_17 : decode cJ0_isLatin1_aae02 17 = .ok (.iconst 0, 1) := by decide +kernel
theorem dJ0_isLatin1_aae02_18 : decode cJ0_isLatin1_aae02 18 = .ok (.ireturn, 1) := by decide +kernel
theorem dJ0_checkIndex_df160_0 : decode cJ0_checkIndex_df160 0 = .ok (.iload_n 0, 1) := by decide +kernel
theorem dJ0_checkIndex_df160_1 : decode cJ0_checkIndex_df160 1 = .ok (.iload_n 1, 1) := by decide +kernel
theorem dJ0_checkIndex_df160_2 : decode cJ0_checkIndex_df160 2 = .ok (.getstatic 1053, 3) := by decide +kernel
theorem dJ0_checkIndex_df160_5 : decode cJ0_checkIndex_df160 5 = .ok (.invokestatic 1059, 3) := by decide +kernel
theorem dJ0_checkIndex_df160_8 : decode cJ0_checkIndex_df160 8 = .ok (.pop, 1) := by decide +kernel
theorem dJ0_checkIndex_df160_9 : decode cJ0_checkIndex_df160 9 = .ok (.return_, 1) := by decide +kernel
theorem dJ1_charAt_3b067_0 : decode cJ1_charAt_3b067 0 = .ok (.iload_n 1, 1) := by decide +kernel
theorem dJ1_charAt_3b067_1 : decode cJ1_charAt_3b067 1 = .ok (.aload_n 0, 1) := by decide +kernel
theorem dJ1_charAt_3b067_2 : decode cJ1_charAt_3b067 2 = .ok (.arraylength, 1) := by decide +kernel
theorem dJ1_charAt_3b067_3 : decode cJ1_charAt_3b067 3 = .ok (.invokestatic 9, 3) := by decide +kernel
theorem dJ1_charAt_3b067_6 : decode cJ1_charAt_3b067 6 = .ok (.aload_n 0, 1) := by decide +kernel
theorem dJ1_charAt_3b067_7 : decode cJ1_charAt_3b067 7 = .ok (.iload_n 1, 1) := by decide +kernel
theorem dJ1_charAt_3b067_8 : decode cJ1_charAt_3b067 8 = .ok (.baload, 1) := by decide +kernel
theorem dJ1_charAt_3b067_9 : decode cJ1_charAt_3b067 9 = .ok (.sipush 255, 3) := by decide +kernel
theorem dJ1_charAt_3b067_12 : decode cJ1_charAt_3b067 12 = .ok (.iand, 1) := by decide +kernel
theorem dJ1_charAt_3b067_13 : decode cJ1_charAt_3b067 13 = .ok (.i2c, 1) := by decide +kernel
theorem dJ1_charAt_3b067_14 : decode cJ1_charAt_3b067 14 = .ok (.ireturn, 1) := by decide +kernel
theorem dJ2_getChar_3b067_0 : decode cJ2_getChar_3b067 0 = .ok (.getstatic 44, 3) := by decide +kernel
theorem dJ2_getChar_3b067_3 : decode cJ2_getChar_3b067 3 = .ok (.ifCond .ne 25, 3) := by decide +kernel
theorem dJ2_getChar_3b067_6 : decode cJ2_getChar_3b067 6 = .ok (.iload_n 1, 1) := by decide +kernel
theorem dJ2_getChar_3b067_7 : decode cJ2_getChar_3b067 7 = .ok (.ifCond .lt 11, 3) := by decide +kernel
theorem dJ2_getChar_3b067_10 : decode cJ2_getChar_3b067 10 = .ok (.iload_n 1, 1) := by decide +kernel
theorem dJ2_getChar_3b067_11 : decode cJ2_getChar_3b067 11 = .ok (.aload_n 0, 1) := by decide +kernel
theorem dJ2_getChar_3b067_12 : decode cJ2_getChar_3b067 12 = .ok (.invokestatic 48, 3) := by decide +kernel
theorem dJ2_getChar_3b067_15 : decode cJ2_getChar_3b067 15 = .ok (.if_icmp .lt 13, 3) := by decide +kernel
theorem dJ2_getChar_3b067_18 : decode cJ2_getChar_3b067 18 = .ok (.new 52, 3) := by decide +kernel
theorem dJ2_getChar_3b067_21 : decode cJ2_getChar_3b067 21 = .ok (.dup, 1) := by decide +kernel
theorem dJ2_getChar_3b067_22 : decode cJ2_getChar_3b067 22 = .ok (.ldc 54, 2) := by decide +kernel
theorem dJ2_getChar_3b067_24 : decode cJ2_getChar_3b067 24 = .ok (.invokespecial 56, 3) := by decide +kernel
theorem dJ2_getChar_3b067_27 : decode cJ2_getChar_3b067 27 = .ok (.athrow, 1) := by decide +kernel
theorem dJ2_getChar_3b067_28 : decode cJ2_getChar_3b067 28 = .ok (.iload_n 1, 1) := by decide +kernel
theorem dJ2_getChar_3b067_29 : decode cJ2_getChar_3b067 29 = .ok (.iconst 1, 1) := by decide +kernel
theorem dJ2_getChar_3b067_30 : decode cJ2_getChar_3b067 30 = .ok (.ishl, 1) := by decide +kernel
theorem dJ2_getChar_3b067_31 : decode cJ2_getChar_3b067 31 = .ok (.istore_n 1, 1) := by decide +kernel
theorem dJ2_getChar_3b067_32 : decode cJ2_getChar_3b067 32 = .ok (.aload_n 0, 1) := by decide +kernel
theorem dJ2_getChar_3b067_33 : decode cJ2_getChar_3b067 33 = .ok (.iload_n 1, 1) := by decide +kernel
theorem dJ2_getChar_3b067_34 : decode cJ2_getChar_3b067 34 = .ok (.iinc 1 1, 3) := by decide +kernel
theorem dJ2_getChar_3b067_37 : decode cJ2_getChar_3b067 37 = .ok (.baload, 1) := by decide +kernel
theorem dJ2_getChar_3b067_38 : decode cJ2_getChar_3b067 38 = .ok (.sipush 255, 3) := by decide +kernel
theorem dJ2_getChar_3b067_41 : decode cJ2_getChar_3b067 41 = .ok (.iand, 1) := by decide +kernel
theorem dJ2_getChar_3b067_42 : decode cJ2_getChar_3b067 42 = .ok (.getstatic 59, 3) := by decide +kernel
theorem dJ2_getChar_3b067_45 : decode cJ2_getChar_3b067 45 = .ok (.ishl, 1) := by decide +kernel
theorem dJ2_getChar_3b067_46 : decode cJ2_getChar_3b067 46 = .ok (.aload_n 0, 1) := by decide +kernel
theorem dJ2_getChar_3b067_47 : decode cJ2_getChar_3b067 47 = .ok (.iload_n 1, 1) := by decide +kernel
theorem dJ2_getChar_3b067_48 : decode cJ2_getChar_3b067 48 = .ok (.baload, 1) := by decide +kernel
theorem dJ2_getChar_3b067_49 : decode cJ2_getChar_3b067 49 = .ok (.sipush 255, 3) := by decide +kernel
theorem dJ2_getChar_3b067_52 : decode cJ2_getChar_3b067 52 = .ok (.iand, 1) := by decide +kernel
theorem dJ2_getChar_3b067_53 : decode cJ2_getChar_3b067 53 = .ok (.getstatic 63, 3) := by decide +kernel
theorem dJ2_getChar_3b067_56 : decode cJ2_getChar_3b067 56 = .ok (.ishl, 1) := by decide +kernel
theorem dJ2_getChar_3b067_57 : decode cJ2_getChar_3b067 57 = .ok (.ior, 1) := by decide +kernel
theorem dJ2_getChar_3b067_58 : decode cJ2_getChar_3b067 58 = .ok (.i2c, 1) := by decide +kernel
theorem dJ2_getChar_3b067_59 : decode cJ2_getChar_3b067 59 = .ok (.ireturn, 1) := by decide +kernel
theorem dJ2_length_9d52b_0 : decode cJ2_length_9d52b 0 = .ok (.aload_n 0, 1) := by decide +kernel
theorem dJ2_length_9d52b_1 : decode cJ2_length_9d52b 1 = .ok (.arraylength, 1) := by decide +kernel
theorem dJ2_length_9d52b_2 : decode cJ2_length_9d52b 2 = .ok (.iconst 1, 1) := by decide +kernel
theorem dJ2_length_9d52b_3 : decode cJ2_length_9d52b 3 = .ok (.ishr, 1) := by decide +kernel
theorem dJ2_length_9d52b_4 : decode cJ2_length_9d52b 4 = .ok (.ireturn, 1) := by decide +kernel
theorem dJ2_charAt_3b067_0 : decode cJ2_charAt_3b067 0 = .ok (.iload_n 1, 1) := by decide +kernel
theorem dJ2_charAt_3b067_1 : decode cJ2_charAt_3b067 1 = .ok (.aload_n 0, 1) := by decide +kernel
theorem dJ2_charAt_3b067_2 : decode cJ2_charAt_3b067 2 = .ok (.invokestatic 67, 3) := by decide +kernel
theorem dJ2_charAt_3b067_5 : decode cJ2_charAt_3b067 5 = .ok (.aload_n 0, 1) := by decide +kernel
theorem dJ2_charAt_3b067_6 : decode cJ2_charAt_3b067 6 = .ok (.iload_n 1, 1) := by decide +kernel
theorem dJ2_charAt_3b067_7 : decode cJ2_charAt_3b067 7 = .ok (.invokestatic 71, 3) := by decide +kernel
theorem dJ2_charAt_3b067_10 : decode cJ2_charAt_3b067 10 = .ok (.ireturn, 1) := by decide +kernel
theorem dJ2_checkIndex_2214a_0 : decode cJ2_checkIndex_2214a 0 = .ok (.iload_n 0, 1) := by decide +kernel
theorem dJ2_checkIndex_2214a_1 : decode cJ2_checkIndex_2214a 1 = .ok (.aload_n 1, 1) := by decide +kernel
theorem dJ2_checkIndex_2214a_2 : decode cJ2_checkIndex_2214a 2 = .ok (.invokestatic 48, 3) := by decide +kernel
theorem dJ2_checkIndex_2214a_5 : decode cJ2_checkIndex_2214a 5 = .ok (.invokestatic 414, 3) := by decide +kernel
theorem dJ2_checkIndex_2214a_8 : decode cJ2_checkIndex_2214a 8 = .ok (.return_, 1) := by decide +kernel
theorem dJ3_checkIndex_8e157_0 : decode cJ3_checkIndex_8e157 0 = .ok (.iload_n 0, 1) := by decide +kernel
theorem dJ3_checkIndex_8e157_1 : decode cJ3_checkIndex_8e157 1 = .ok (.ifCond .lt 8, 3) := by decide +kernel
theorem dJ3_checkIndex_8e157_4 : decode cJ3_checkIndex_8e157 4 = .ok (.iload_n 0, 1) := by decide +kernel
theorem dJ3_checkIndex_8e157_5 : decode cJ3_checkIndex_8e157 5 = .ok (.iload_n 1, 1) := by decide +kernel
theorem dJ3_checkIndex_8e157_6 : decode cJ3_checkIndex_8e157 6 = .ok (.if_icmp .lt 10, 3) := by decide +kernel
theorem dJ3_checkIndex_8e157_9 : decode cJ3_checkIndex_8e157 9 = .ok (.aload_n 2, 1) := by decide +kernel
theorem dJ3_checkIndex_8e157_10 : decode cJ3_checkIndex_8e157 10 = .ok (.iload_n 0, 1) := by decide +kernel
theorem dJ3_checkIndex_8e157_11 : decode cJ3_checkIndex_8e157 11 = .ok (.iload_n 1, 1) := by decide +kernel
theorem dJ3_checkIndex_8e157_12 : decode cJ3_checkIndex_8e157 12 = .ok (.invokestatic 95, 3) := by decide +kernel
theorem dJ3_checkIndex_8e157_15 : decode cJ3_checkIndex_8e157 15 = .ok (.athrow, 1) := by decide +kernel
theorem dJ3_checkIndex_8e157_16 : decode cJ3_checkIndex_8e157 16 = .ok (.iload_n 0, 1) := by decide +kernel
theorem dJ3_checkIndex_8e157_17 : decode cJ3_checkIndex_8e157 17 = .ok (.ireturn, 1) := by decide +kernel
