/-! decode rows -/
theorem dX5_init_142 : decode cX5_init 142 = .ok (.aload_n 0, 1) := by decide +kernel
theorem dX5_init_143 : decode cX5_init 143 = .ok (.bipush 7, 2) := by decide +kernel
theorem dX5_init_145 : decode cX5_init 145 = .ok (.newarray .boolean, 2) := by decide +kernel
theorem dX5_init_147 : decode cX5_init 147 = .ok (.putfield 62, 3) := by decide +kernel
theorem dX5_init_150 : decode cX5_init 150 = .ok (.aload_n 0, 1) := by decide +kernel
theorem dX5_init_151 : decode cX5_init 151 = .ok (.iconst 4, 1) := by decide +kernel
theorem dX5_init_152 : decode cX5_init 152 = .ok (.newarray .int, 2) := by decide +kernel
theorem dX5_init_154 : decode cX5_init 154 = .ok (.putfield 65, 3) := by decide +kernel
theorem dX5_init_157 : decode cX5_init 157 = .ok (.aload_n 0, 1) := by decide +kernel
theorem dX5_init_158 : decode cX5_init 158 = .ok (.iconst 4, 1) := by decide +kernel
theorem dX5_init_159 : decode cX5_init 159 = .ok (.newarray .int, 2) := by decide +kernel
theorem dX5_init_161 : decode cX5_init 161 = .ok (.putfield 68, 3) := by decide +kernel
theorem dX5_init_164 : decode cX5_init 164 = .ok (.aload_n 0, 1) := by decide +kernel
theorem dX5_init_165 : decode cX5_init 165 = .ok (.sipush 1441, 3) := by decide +kernel
theorem dX5_init_168 : decode cX5_init 168 = .ok (.newarray .boolean, 2) := by decide +kernel
theorem dX5_init_170 : decode cX5_init 170 = .ok (.putfield 71, 3) := by decide +kernel
theorem dX5_init_173 : decode cX5_init 173 = .ok (.aload_n 0, 1) := by decide +kernel
theorem dX5_init_174 : decode cX5_init 174 = .ok (.sipush 168, 3) := by decide +kernel
theorem dX5_init_177 : decode cX5_init 177 = .ok (.newarray .int, 2) := by decide +kernel
theorem dX5_init_179 : decode cX5_init 179 = .ok (.putfield 74, 3) := by decide +kernel
theorem dX5_init_182 : decode cX5_init 182 = .ok (.return_, 1) := by decide +kernel
theorem dX5_thrown_0 : decode cX5_thrown 0 = .ok (.aload_n 0, 1) := by decide +kernel
theorem dX5_thrown_1 : decode cX5_thrown 1 = .ok (.getfield 77, 3) := by decide +kernel
theorem dX5_thrown_4 : decode cX5_thrown 4 = .ok (.ireturn, 1) := by decide +kernel
theorem dX5_holds_0 : decode cX5_holds 0 = .ok (.aload_n 0, 1) := by decide +kernel
theorem dX5_holds_1 : decode cX5_holds 1 = .ok (.iload_n 1, 1) := by decide +kernel
theorem dX5_holds_2 : decode cX5_holds 2 = .ok (.putfield 77, 3) := by decide +kernel
theorem dX5_holds_5 : decode cX5_holds 5 = .ok (.iload_n 1, 1) := by decide +kernel
theorem dX5_holds_6 : decode cX5_holds 6 = .ok (.ifCond .ne 7, 3) := by decide +kernel
theorem dX5_holds_9 : decode cX5_holds 9 = .ok (.iconst 1, 1) := by decide +kernel
theorem dX5_holds_10 : decode cX5_holds 10 = .ok (.goto 4, 3) := by decide +kernel
theorem dX5_holds_13 : decode cX5_holds 13 = .ok (.iconst 0, 1) := by decide +kernel
theorem dX5_holds_14 : decode cX5_holds 14 = .ok (.ireturn, 1) := by decide +kernel
theorem dX5_isIn_0 : decode cX5_isIn 0 = .ok (.iload_n 0, 1) := by decide +kernel
theorem dX5_isIn_1 : decode cX5_isIn 1 = .ok (.iload_n 1, 1) := by decide +kernel
theorem dX5_isIn_2 : decode cX5_isIn 2 = .ok (.if_icmp .lt 12, 3) := by decide +kernel
theorem dX5_isIn_5 : decode cX5_isIn 5 = .ok (.iload_n 0, 1) := by decide +kernel
theorem dX5_isIn_6 : decode cX5_isIn 6 = .ok (.iload_n 2, 1) := by decide +kernel
theorem dX5_isIn_7 : decode cX5_isIn 7 = .ok (.if_icmp .gt 7, 3) := by decide +kernel
theorem dX5_isIn_10 : decode cX5_isIn 10 = .ok (.iconst 1, 1) := by decide +kernel
theorem dX5_isIn_11 : decode cX5_isIn 11 = .ok (.goto 4, 3) := by decide +kernel
theorem dX5_isIn_14 : decode cX5_isIn 14 = .ok (.iconst 0, 1) := by decide +kernel
theorem dX5_isIn_15 : decode cX5_isIn 15 = .ok (.ireturn, 1) := by decide +kernel
theorem dX5_isFlight_0 : decode cX5_isFlight 0 = .ok (.iload_n 1, 1) := by decide +kernel
theorem dX5_isFlight_1 : decode cX5_isFlight 1 = .ok (.iconst 0, 1) := by decide +kernel
theorem dX5_isFlight_2 : decode cX5_isFlight 2 = .ok (.aload_n 0, 1) := by decide +kernel
theorem dX5_isFlight_3 : decode cX5_isFlight 3 = .ok (.getfield 81, 3) := by decide +kernel
theorem dX5_isFlight_6 : decode cX5_isFlight 6 = .ok (.iconst 1, 1) := by decide +kernel
theorem dX5_isFlight_7 : decode cX5_isFlight 7 = .ok (.isub, 1) := by decide +kernel
theorem dX5_isFlight_8 : decode cX5_isFlight 8 = .ok (.invokestatic 84, 3) := by decide +kernel
theorem dX5_isFlight_11 : decode cX5_isFlight 11 = .ok (.ireturn, 1) := by decide +kernel
theorem dX5_isRegulation_0 : decode cX5_isRegulation 0 = .ok (.iload_n 1, 1) := by decide +kernel
theorem dX5_isRegulation_1 : decode cX5_isRegulation 1 = .ok (.iconst 0, 1) := by decide +kernel
theorem dX5_isRegulation_2 : decode cX5_isRegulation 2 = .ok (.aload_n 0, 1) := by decide +kernel
theorem dX5_isRegulation_3 : decode cX5_isRegulation 3 = .ok (.getfield 88, 3) := by decide +kernel
theorem dX5_isRegulation_6 : decode cX5_isRegulation 6 = .ok (.iconst 1, 1) := by decide +kernel
theorem dX5_isRegulation_7 : decode cX5_isRegulation 7 = .ok (.isub, 1) := by decide +kernel
theorem dX5_isRegulation_8 : decode cX5_isRegulation 8 = .ok (.invokestatic 84, 3) := by decide +kernel
theorem dX5_isRegulation_11 : decode cX5_isRegulation 11 = .ok (.ireturn, 1) := by decide +kernel
theorem dX5_isSector_0 : decode cX5_isSector 0 = .ok (.iload_n 0, 1) := by decide +kernel
theorem dX5_isSector_1 : decode cX5_isSector 1 = .ok (.iconst 0, 1) := by decide +kernel
theorem dX5_isSector_2 : decode cX5_isSector 2 = .ok (.iconst 5, 1) := by decide +kernel
theorem dX5_isSector_3 : decode cX5_isSector 3 = .ok (.invokestatic 84, 3) := by decide +kernel
theorem dX5_isSector_6 : decode cX5_isSector 6 = .ok (.ireturn, 1) := by decide +kernel
theorem dX5_flight_0 : decode cX5_flight 0 = .ok (.aload_n 0, 1) := by decide +kernel
theorem dX5_flight_1 : decode cX5_flight 1 = .ok (.iload_n 1, 1) := by decide +kernel
theorem dX5_flight_2 : decode cX5_flight 2 = .ok (.iconst 0, 1) := by decide +kernel
theorem dX5_flight_3 : decode cX5_flight 3 = .ok (.iconst 3, 1) := by decide +kernel
theorem dX5_flight_4 : decode cX5_flight 4 = .ok (.invokestatic 84, 3) := by decide +kernel
theorem dX5_flight_7 : decode cX5_flight 7 = .ok (.ifCond .ne 7, 3) := by decide +kernel
theorem dX5_flight_10 : decode cX5_flight 10 = .ok (.iconst 1, 1) := by decide +kernel
theorem dX5_flight_11 : decode cX5_flight 11 = .ok (.goto 32, 3) := by decide +kernel
theorem dX5_flight_14 : decode cX5_flight 14 = .ok (.iload_n 2, 1) := by decide +kernel
theorem dX5_flight_15 : decode cX5_flight 15 = .ok (.iconst 0, 1) := by decide +kernel
theorem dX5_flight_16 : decode cX5_flight 16 = .ok (.sipush 1439, 3) := by decide +kernel
theorem dX5_flight_19 : decode cX5_flight 19 = .ok (.invokestatic 84, 3) := by decide +kernel
theorem dX5_flight_22 : decode cX5_flight 22 = .ok (.ifCond .ne 7, 3) := by decide +kernel
theorem dX5_flight_25 : decode cX5_flight 25 = .ok (.iconst 2, 1) := by decide +kernel
theorem dX5_flight_26 : decode cX5_flight 26 = .ok (.goto 17, 3) := by decide +kernel
theorem dX5_flight_29 : decode cX5_flight 29 = .ok (.aload_n 0, 1) := by decide +kernel
theorem dX5_flight_30 : decode cX5_flight 30 = .ok (.getfield 81, 3) := by decide +kernel
theorem dX5_flight_33 : decode cX5_flight 33 = .ok (.bipush 24, 2) := by decide +kernel
theorem dX5_flight_35 : decode cX5_flight 35 = .ok (.if_icmp .ne 7, 3) := by decide +kernel
theorem dX5_flight_38 : decode cX5_flight 38 = .ok (.iconst 3, 1) := by decide +kernel
theorem dX5_flight_39 : decode cX5_flight 39 = .ok (.goto 4, 3) := by decide +kernel
theorem dX5_flight_42 : decode cX5_flight 42 = .ok (.iconst 0, 1) := by decide +kernel
theorem dX5_flight_43 : decode cX5_flight 43 = .ok (.invokevirtual 91, 3) := by decide +kernel
theorem dX5_flight_46 : decode cX5_flight 46 = .ok (.ifCond .ne 5, 3) := by decide +kernel
theorem dX5_flight_49 : decode cX5_flight 49 = .ok (.iconst 0, 1) := by decide +kernel
theorem dX5_flight_50 : decode cX5_flight 50 = .ok (.ireturn, 1) := by decide +kernel
theorem dX5_flight_51 : decode cX5_flight 51 = .ok (.aload_n 0, 1) := by decide +kernel
theorem dX5_flight_52 : decode cX5_flight 52 = .ok (.getfield 7, 3) := by decide +kernel
theorem dX5_flight_55 : decode cX5_flight 55 = .ok (.aload_n 0, 1) := by decide +kernel
theorem dX5_flight_56 : decode cX5_flight 56 = .ok (.getfield 81, 3) := by decide +kernel
theorem dX5_flight_59 : decode cX5_flight 59 = .ok (.iload_n 1, 1) := by decide +kernel
theorem dX5_flight_60 : decode cX5_flight 60 = .ok (.iastore, 1) := by decide +kernel
theorem dX5_flight_61 : decode cX5_flight 61 = .ok (.aload_n 0, 1) := by decide +kernel
theorem dX5_flight_62 : decode cX5_flight 62 = .ok (.getfield 13, 3) := by decide +kernel
theorem dX5_flight_65 : decode cX5_flight 65 = .ok (.aload_n 0, 1) := by decide +kernel
theorem dX5_flight_66 : decode cX5_flight 66 = .ok (.getfield 81, 3) := by decide +kernel
theorem dX5_flight_69 : decode cX5_flight 69 = .ok (.iload_n 2, 1) := by decide +kernel
theorem dX5_flight_70 : decode cX5_flight 70 = .ok (.iastore, 1) := by decide +kernel
theorem dX5_flight_71 : decode cX5_flight 71 = .ok (.aload_n 0, 1) := by decide +kernel
theorem dX5_flight_72 : decode cX5_flight 72 = .ok (.getfield 22, 3) := by decide +kernel
theorem dX5_flight_75 : decode cX5_flight 75 = .ok (.aload_n 0, 1) := by decide +kernel
theorem dX5_flight_76 : decode cX5_flight 76 = .ok (.getfield 81, 3) := by decide +kernel
theorem dX5_flight_79 : decode cX5_flight 79 = .ok (.iconst (-1), 1) := by decide +kernel
theorem dX5_flight_80 : decode cX5_flight 80 = .ok (.iastore, 1) := by decide +kernel
theorem dX5_flight_81 : decode cX5_flight 81 = .ok (.aload_n 0, 1) := by decide +kernel
theorem dX5_flight_82 : decode cX5_flight 82 = .ok (.getfield 25, 3) := by decide +kernel
theorem dX5_flight_85 : decode cX5_flight 85 = .ok (.aload_n 0, 1) := by decide +kernel
theorem dX5_flight_86 : decode cX5_flight 86 = .ok (.getfield 81, 3) := by decide +kernel
theorem dX5_flight_89 : decode cX5_flight 89 = .ok (.iconst (-1), 1) := by decide +kernel
theorem dX5_flight_90 : decode cX5_flight 90 = .ok (.iastore, 1) := by decide +kernel
theorem dX5_flight_91 : decode cX5_flight 91 = .ok (.aload_n 0, 1) := by decide +kernel
theorem dX5_flight_92 : decode cX5_flight 92 = .ok (.getfield 31, 3) := by decide +kernel
theorem dX5_flight_95 : decode cX5_flight 95 = .ok (.aload_n 0, 1) := by decide +kernel
theorem dX5_flight_96 : decode cX5_flight 96 = .ok (.getfield 81, 3) := by decide +kernel
theorem dX5_flight_99 : decode cX5_flight 99 = .ok (.iconst (-1), 1) := by decide +kernel
theorem dX5_flight_100 : decode cX5_flight 100 = .ok (.iastore, 1) := by decide +kernel
theorem dX5_flight_101 : decode cX5_flight 101 = .ok (.iconst 0, 1) := by decide +kernel
theorem dX5_flight_102 : decode cX5_flight 102 = .ok (.istore_n 3, 1) := by decide +kernel
theorem dX5_flight_103 : decode cX5_flight 103 = .ok (.iload_n 3, 1) := by decide +kernel
theorem dX5_flight_104 : decode cX5_flight 104 = .ok (.bipush 6, 2) := by decide +kernel
theorem dX5_flight_106 : decode cX5_flight 106 = .ok (.if_icmp .ge 24, 3) := by decide +kernel
theorem dX5_flight_109 : decode cX5_flight 109 = .ok (.aload_n 0, 1) := by decide +kernel
theorem dX5_flight_110 : decode cX5_flight 110 = .ok (.getfield 41, 3) := by decide +kernel
theorem dX5_flight_113 : decode cX5_flight 113 = .ok (.bipush 6, 2) := by decide +kernel
theorem dX5_flight_115 : decode cX5_flight 115 = .ok (.aload_n 0, 1) := by decide +kernel
theorem dX5_flight_116 : decode cX5_flight 116 = .ok (.getfield 81, 3) := by decide +kernel
theorem dX5_flight_119 : decode cX5_flight 119 = .ok (.imul, 1) := by decide +kernel
theorem dX5_flight_120 : decode cX5_flight 120 = .ok (.iload_n 3, 1) := by decide +kernel
theorem dX5_flight_121 : decode cX5_flight 121 = .ok (.iadd, 1) := by decide +kernel
theorem dX5_flight_122 : decode cX5_flight 122 = .ok (.iconst (-1), 1) := by decide +kernel
theorem dX5_flight_123 : decode cX5_flight 123 = .ok (.iastore, 1) := by decide +kernel
theorem dX5_flight_124 : decode cX5_flight 124 = .ok (.iinc 3 1, 3) := by decide +kernel
theorem dX5_flight_127 : decode cX5_flight 127 = .ok (.goto (-24), 3) := by decide +kernel
theorem dX5_flight_130 : decode cX5_flight 130 = .ok (.aload_n 0, 1) := by decide +kernel
theorem dX5_flight_131 : decode cX5_flight 131 = .ok (.dup, 1) := by decide +kernel
theorem dX5_flight_132 : decode cX5_flight 132 = .ok (.getfield 81, 3) := by decide +kernel
theorem dX5_flight_135 : decode cX5_flight 135 = .ok (.iconst 1, 1) := by decide +kernel
theorem dX5_flight_136 : decode cX5_flight 136 = .ok (.iadd, 1) := by decide +kernel
theorem dX5_flight_137 : decode cX5_flight 137 = .ok (.putfield 81, 3) := by decide +kernel
theorem dX5_flight_140 : decode cX5_flight 140 = .ok (.aload_n 0, 1) := by decide +kernel
theorem dX5_flight_141 : decode cX5_flight 141 = .ok (.getfield 81, 3) := by decide +kernel
theorem dX5_flight_144 : decode cX5_flight 144 = .ok (.iconst 1, 1) := by decide +kernel
theorem dX5_flight_145 : decode cX5_flight 145 = .ok (.isub, 1) := by decide +kernel
theorem dX5_flight_146 : decode cX5_flight 146 = .ok (.ireturn, 1) := by decide +kernel
theorem dX5_entry_0 : decode cX5_entry 0 = .ok (.aload_n 0, 1) := by decide +kernel
theorem dX5_entry_1 : decode cX5_entry 1 = .ok (.iload_n 1, 1) := by decide +kernel
theorem dX5_entry_2 : decode cX5_entry 2 = .ok (.invokevirtual 95, 3) := by decide +kernel
theorem dX5_entry_5 : decode cX5_entry 5 = .ok (.ifCond .eq 14, 3) := by decide +kernel
theorem dX5_entry_8 : decode cX5_entry 8 = .ok (.iload_n 2, 1) := by decide +kernel
theorem dX5_entry_9 : decode cX5_entry 9 = .ok (.invokestatic 98, 3) := by decide +kernel
theorem dX5_entry_12 : decode cX5_entry 12 = .ok (.ifCond .eq 7, 3) := by decide +kernel
theorem dX5_entry_15 : decode cX5_entry 15 = .ok (.iconst 1, 1) := by decide +kernel
theorem dX5_entry_16 : decode cX5_entry 16 = .ok (.goto 4, 3) := by decide +kernel
theorem dX5_entry_19 : decode cX5_entry 19 = .ok (.iconst 0, 1) := by decide +kernel
theorem dX5_entry_20 : decode cX5_entry 20 = .ok (.istore 5, 2) := by decide +kernel
theorem dX5_entry_22 : decode cX5_entry 22 = .ok (.iload_n 3, 1) := by decide +kernel
theorem dX5_entry_23 : decode cX5_entry 23 = .ok (.iconst 0, 1) := by decide +kernel
theorem dX5_entry_24 : decode cX5_entry 24 = .ok (.sipush 600, 3) := by decide +kernel
theorem dX5_entry_27 : decode cX5_entry 27 = .ok (.invokestatic 84, 3) := by decide +kernel
theorem dX5_entry_30 : decode cX5_entry 30 = .ok (.ifCond .eq 18, 3) := by decide +kernel
theorem dX5_entry_33 : decode cX5_entry 33 = .ok (.iload 4, 2) := by decide +kernel
theorem dX5_entry_35 : decode cX5_entry 35 = .ok (.iconst 1, 1) := by decide +kernel
theorem dX5_entry_36 : decode cX5_entry 36 = .ok (.bipush 120, 2) := by decide +kernel
theorem dX5_entry_38 : decode cX5_entry 38 = .ok (.invokestatic 84, 3) := by decide +kernel
theorem dX5_entry_41 : decode cX5_entry 41 = .ok (.ifCond .eq 7, 3) := by decide +kernel
theorem dX5_entry_44 : decode cX5_entry 44 = .ok (.iconst 1, 1) := by decide +kernel
theorem dX5_entry_45 : decode cX5_entry 45 = .ok (.goto 4, 3) := by decide +kernel
theorem dX5_entry_48 : decode cX5_entry 48 = .ok (.iconst 0, 1) := by decide +kernel
theorem dX5_entry_49 : decode cX5_entry 49 = .ok (.istore 6, 2) := by decide +kernel
theorem dX5_entry_51 : decode cX5_entry 51 = .ok (.iload 5, 2) := by decide +kernel
theorem dX5_entry_53 : decode cX5_entry 53 = .ok (.ifCond .eq 61, 3) := by decide +kernel
theorem dX5_entry_56 : decode cX5_entry 56 = .ok (.aload_n 0, 1) := by decide +kernel
theorem dX5_entry_57 : decode cX5_entry 57 = .ok (.getfield 16, 3) := by decide +kernel
theorem dX5_entry_60 : decode cX5_entry 60 = .ok (.iload_n 1, 1) := by decide +kernel
theorem dX5_entry_61 : decode cX5_entry 61 = .ok (.iaload, 1) := by decide +kernel
theorem dX5_entry_62 : decode cX5_entry 62 = .ok (.ifCond .ne 52, 3) := by decide +kernel
theorem dX5_entry_65 : decode cX5_entry 65 = .ok (.aload_n 0, 1) := by decide +kernel
theorem dX5_entry_66 : decode cX5_entry 66 = .ok (.getfield 22, 3) := by decide +kernel
theorem dX5_entry_69 : decode cX5_entry 69 = .ok (.iload_n 1, 1) := by decide +kernel
theorem dX5_entry_70 : decode cX5_entry 70 = .ok (.iaload, 1) := by decide +kernel
theorem dX5_entry_71 : decode cX5_entry 71 = .ok (.iconst (-1), 1) := by decide +kernel
theorem dX5_entry_72 : decode cX5_entry 72 = .ok (.if_icmp .ne 42, 3) := by decide +kernel
theorem dX5_entry_75 : decode cX5_entry 75 = .ok (.aload_n 0, 1) := by decide +kernel
theorem dX5_entry_76 : decode cX5_entry 76 = .ok (.getfield 28, 3) := by decide +kernel
theorem dX5_entry_79 : decode cX5_entry 79 = .ok (.iload_n 1, 1) := by decide +kernel
theorem dX5_entry_80 : decode cX5_entry 80 = .ok (.iaload, 1) := by decide +kernel
theorem dX5_entry_81 : decode cX5_entry 81 = .ok (.iconst 5, 1) := by decide +kernel
theorem dX5_entry_82 : decode cX5_entry 82 = .ok (.if_icmp .ge 32, 3) := by decide +kernel
theorem dX5_entry_85 : decode cX5_entry 85 = .ok (.aload_n 0, 1) := by decide +kernel
theorem dX5_entry_86 : decode cX5_entry 86 = .ok (.getfield 41, 3) := by decide +kernel
theorem dX5_entry_89 : decode cX5_entry 89 = .ok (.bipush 6, 2) := by decide +kernel
theorem dX5_entry_91 : decode cX5_entry 91 = .ok (.iload_n 1, 1) := by decide +kernel
theorem dX5_entry_92 : decode cX5_entry 92 = .ok (.imul, 1) := by decide +kernel
theorem dX5_entry_93 : decode cX5_entry 93 = .ok (.iload_n 2, 1) := by decide +kernel
theorem dX5_entry_94 : decode cX5_entry 94 = .ok (.iadd, 1) := by decide +kernel
theorem dX5_entry_95 : decode cX5_entry 95 = .ok (.iaload, 1) := by decide +kernel
theorem dX5_entry_96 : decode cX5_entry 96 = .ok (.iconst (-1), 1) := by decide +kernel
theorem dX5_entry_97 : decode cX5_entry 97 = .ok (.if_icmp .ne 17, 3) := by decide +kernel
theorem dX5_entry_100 : decode cX5_entry 100 = .ok (.iload_n 3, 1) := by decide +kernel
theorem dX5_entry_101 : decode cX5_entry 101 = .ok (.aload_n 0, 1) := by decide +kernel
theorem dX5_entry_102 : decode cX5_entry 102 = .ok (.getfield 31, 3) := by decide +kernel
theorem dX5_entry_105 : decode cX5_entry 105 = .ok (.iload_n 1, 1) := by decide +kernel
theorem dX5_entry_106 : decode cX5_entry 106 = .ok (.iaload, 1) := by decide +kernel
theorem dX5_entry_107 : decode cX5_entry 107 = .ok (.if_icmp .le 7, 3) := by decide +kernel
theorem dX5_entry_110 : decode cX5_entry 110 = .ok (.iconst 1, 1) := by decide +kernel
theorem dX5_entry_111 : decode cX5_entry 111 = .ok (.goto 4, 3) := by decide +kernel
theorem dX5_entry_114 : decode cX5_entry 114 = .ok (.iconst 0, 1) := by decide +kernel
theorem dX5_entry_115 : decode cX5_entry 115 = .ok (.istore 7, 2) := by decide +kernel
theorem dX5_entry_117 : decode cX5_entry 117 = .ok (.aload_n 0, 1) := by decide +kernel
theorem dX5_entry_118 : decode cX5_entry 118 = .ok (.iload 5, 2) := by decide +kernel
theorem dX5_entry_120 : decode cX5_entry 120 = .ok (.ifCond .ne 7, 3) := by decide +kernel
theorem dX5_entry_123 : decode cX5_entry 123 = .ok (.iconst 1, 1) := by decide +kernel
theorem dX5_entry_124 : decode cX5_entry 124 = .ok (.goto 22, 3) := by decide +kernel
theorem dX5_entry_127 : decode cX5_entry 127 = .ok (.iload 6, 2) := by decide +kernel
theorem dX5_entry_129 : decode cX5_entry 129 = .ok (.ifCond .ne 7, 3) := by decide +kernel
theorem dX5_entry_132 : decode cX5_entry 132 = .ok (.iconst 2, 1) := by decide +kernel
theorem dX5_entry_133 : decode cX5_entry 133 = .ok (.goto 13, 3) := by decide +kernel
theorem dX5_entry_136 : decode cX5_entry 136 = .ok (.iload 7, 2) := by decide +kernel
theorem dX5_entry_138 : decode cX5_entry 138 = .ok (.ifCond .eq 7, 3) := by decide +kernel
theorem dX5_entry_141 : decode cX5_entry 141 = .ok (.iconst 0, 1) := by decide +kernel
theorem dX5_entry_142 : decode cX5_entry 142 = .ok (.goto 4, 3) := by decide +kernel
theorem dX5_entry_145 : decode cX5_entry 145 = .ok (.iconst 3, 1) := by decide +kernel
theorem dX5_entry_146 : decode cX5_entry 146 = .ok (.invokevirtual 91, 3) := by decide +kernel
theorem dX5_entry_149 : decode cX5_entry 149 = .ok (.ifCond .ne 5, 3) := by decide +kernel
theorem dX5_entry_152 : decode cX5_entry 152 = .ok (.iconst 0, 1) := by decide +kernel
theorem dX5_entry_153 : decode cX5_entry 153 = .ok (.ireturn, 1) := by decide +kernel
theorem dX5_entry_154 : decode cX5_entry 154 = .ok (.aload_n 0, 1) := by decide +kernel
theorem dX5_entry_155 : decode cX5_entry 155 = .ok (.getfield 41, 3) := by decide +kernel
theorem dX5_entry_158 : decode cX5_entry 158 = .ok (.bipush 6, 2) := by decide +kernel
theorem dX5_entry_160 : decode cX5_entry 160 = .ok (.iload_n 1, 1) := by decide +kernel
theorem dX5_entry_161 : decode cX5_entry 161 = .ok (.imul, 1) := by decide +kernel
theorem dX5_entry_162 : decode cX5_entry 162 = .ok (.iload_n 2, 1) := by decide +kernel
theorem dX5_entry_163 : decode cX5_entry 163 = .ok (.iadd, 1) := by decide +kernel
theorem dX5_entry_164 : decode cX5_entry 164 = .ok (.iload_n 3, 1) := by decide +kernel
theorem dX5_entry_165 : decode cX5_entry 165 = .ok (.iastore, 1) := by decide +kernel
theorem dX5_entry_166 : decode cX5_entry 166 = .ok (.aload_n 0, 1) := by decide +kernel
theorem dX5_entry_167 : decode cX5_entry 167 = .ok (.getfield 44, 3) := by decide +kernel
theorem dX5_entry_170 : decode cX5_entry 170 = .ok (.bipush 6, 2) := by decide +kernel
theorem dX5_entry_172 : decode cX5_entry 172 = .ok (.iload_n 1, 1) := by decide +kernel
theorem dX5_entry_173 : decode cX5_entry 173 = .ok (.imul, 1) := by decide +kernel
theorem dX5_entry_174 : decode cX5_entry 174 = .ok (.iload_n 2, 1) := by decide +kernel
theorem dX5_entry_175 : decode cX5_entry 175 = .ok (.iadd, 1) := by decide +kernel
theorem dX5_entry_176 : decode cX5_entry 176 = .ok (.iload 4, 2) := by decide +kernel
theorem dX5_entry_178 : decode cX5_entry 178 = .ok (.iastore, 1) := by decide +kernel
theorem dX5_entry_179 : decode cX5_entry 179 = .ok (.aload_n 0, 1) := by decide +kernel
theorem dX5_entry_180 : decode cX5_entry 180 = .ok (.getfield 31, 3) := by decide +kernel
theorem dX5_entry_183 : decode cX5_entry 183 = .ok (.iload_n 1, 1) := by decide +kernel
theorem dX5_entry_184 : decode cX5_entry 184 = .ok (.iload_n 3, 1) := by decide +kernel
theorem dX5_entry_185 : decode cX5_entry 185 = .ok (.iastore, 1) := by decide +kernel
theorem dX5_entry_186 : decode cX5_entry 186 = .ok (.aload_n 0, 1) := by decide +kernel
theorem dX5_entry_187 : decode cX5_entry 187 = .ok (.getfield 28, 3) := by decide +kernel
theorem dX5_entry_190 : decode cX5_entry 190 = .ok (.iload_n 1, 1) := by decide +kernel
theorem dX5_entry_191 : decode cX5_entry 191 = .ok (.dup2, 1) := by decide +kernel
theorem dX5_entry_192 : decode cX5_entry 192 = .ok (.iaload, 1) := by decide +kernel
theorem dX5_entry_193 : decode cX5_entry 193 = .ok (.iconst 1, 1) := by decide +kernel
theorem dX5_entry_194 : decode cX5_entry 194 = .ok (.iadd, 1) := by decide +kernel
theorem dX5_entry_195 : decode cX5_entry 195 = .ok (.iastore, 1) := by decide +kernel
theorem dX5_entry_196 : decode cX5_entry 196 = .ok (.aload_n 0, 1) := by decide +kernel
theorem dX5_entry_197 : decode cX5_entry 197 = .ok (.getfield 28, 3) := by decide +kernel
theorem dX5_entry_200 : decode cX5_entry 200 = .ok (.iload_n 1, 1) := by decide +kernel
theorem dX5_entry_201 : decode cX5_entry 201 = .ok (.iaload, 1) := by decide +kernel
theorem dX5_entry_202 : decode cX5_entry 202 = .ok (.ireturn, 1) := by decide +kernel
theorem dX5_exempt_0 : decode cX5_exempt 0 = .ok (.aload_n 0, 1) := by decide +kernel
theorem dX5_exempt_1 : decode cX5_exempt 1 = .ok (.iload_n 1, 1) := by decide +kernel
theorem dX5_exempt_2 : decode cX5_exempt 2 = .ok (.invokevirtual 95, 3) := by decide +kernel
theorem dX5_exempt_5 : decode cX5_exempt 5 = .ok (.istore_n 3, 1) := by decide +kernel
theorem dX5_exempt_6 : decode cX5_exempt 6 = .ok (.aload_n 0, 1) := by decide +kernel
theorem dX5_exempt_7 : decode cX5_exempt 7 = .ok (.iload_n 3, 1) := by decide +kernel
theorem dX5_exempt_8 : decode cX5_exempt 8 = .ok (.ifCond .ne 7, 3) := by decide +kernel
theorem dX5_exempt_11 : decode cX5_exempt 11 = .ok (.iconst 1, 1) := by decide +kernel
theorem dX5_exempt_12 : decode cX5_exempt 12 = .ok (.goto 17, 3) := by decide +kernel
theorem dX5_exempt_15 : decode cX5_exempt 15 = .ok (.aload_n 0, 1) := by decide +kernel
theorem dX5_exempt_16 : decode cX5_exempt 16 = .ok (.getfield 16, 3) := by decide +kernel
theorem dX5_exempt_19 : decode cX5_exempt 19 = .ok (.iload_n 1, 1) := by decide +kernel
theorem dX5_exempt_20 : decode cX5_exempt 20 = .ok (.iaload, 1) := by decide +kernel
theorem dX5_exempt_21 : decode cX5_exempt 21 = .ok (.ifCond .ne 7, 3) := by decide +kernel
theorem dX5_exempt_24 : decode cX5_exempt 24 = .ok (.iconst 0, 1) := by decide +kernel
theorem dX5_exempt_25 : decode cX5_exempt 25 = .ok (.goto 4, 3) := by decide +kernel
theorem dX5_exempt_28 : decode cX5_exempt 28 = .ok (.iconst 2, 1) := by decide +kernel
theorem dX5_exempt_29 : decode cX5_exempt 29 = .ok (.invokevirtual 91, 3) := by decide +kernel
theorem dX5_exempt_32 : decode cX5_exempt 32 = .ok (.ifCond .ne 5, 3) := by decide +kernel
theorem dX5_exempt_35 : decode cX5_exempt 35 = .ok (.iconst 0, 1) := by decide +kernel
theorem dX5_exempt_36 : decode cX5_exempt 36 = .ok (.ireturn, 1) := by decide +kernel
theorem dX5_exempt_37 : decode cX5_exempt 37 = .ok (.aload_n 0, 1) := by decide +kernel
theorem dX5_exempt_38 : decode cX5_exempt 38 = .ok (.getfield 37, 3) := by decide +kernel
theorem dX5_exempt_41 : decode cX5_exempt 41 = .ok (.iload_n 1, 1) := by decide +kernel
theorem dX5_exempt_42 : decode cX5_exempt 42 = .ok (.baload, 1) := by decide +kernel
theorem dX5_exempt_43 : decode cX5_exempt 43 = .ok (.istore 4, 2) := by decide +kernel
theorem dX5_exempt_45 : decode cX5_exempt 45 = .ok (.aload_n 0, 1) := by decide +kernel
theorem dX5_exempt_46 : decode cX5_exempt 46 = .ok (.getfield 37, 3) := by decide +kernel
theorem dX5_exempt_49 : decode cX5_exempt 49 = .ok (.iload_n 1, 1) := by decide +kernel
theorem dX5_exempt_50 : decode cX5_exempt 50 = .ok (.iload_n 2, 1) := by decide +kernel
theorem dX5_exempt_51 : decode cX5_exempt 51 = .ok (.bastore, 1) := by decide +kernel
theorem dX5_exempt_52 : decode cX5_exempt 52 = .ok (.aload_n 0, 1) := by decide +kernel
theorem dX5_exempt_53 : decode cX5_exempt 53 = .ok (.getfield 22, 3) := by decide +kernel
theorem dX5_exempt_56 : decode cX5_exempt 56 = .ok (.iload_n 1, 1) := by decide +kernel
theorem dX5_exempt_57 : decode cX5_exempt 57 = .ok (.iload_n 2, 1) := by decide +kernel
theorem dX5_exempt_58 : decode cX5_exempt 58 = .ok (.ifCond .eq 7, 3) := by decide +kernel
theorem dX5_exempt_61 : decode cX5_exempt 61 = .ok (.iconst (-1), 1) := by decide +kernel
theorem dX5_exempt_62 : decode cX5_exempt 62 = .ok (.goto 9, 3) := by decide +kernel
theorem dX5_exempt_65 : decode cX5_exempt 65 = .ok (.aload_n 0, 1) := by decide +kernel
theorem dX5_exempt_66 : decode cX5_exempt 66 = .ok (.getfield 22, 3) := by decide +kernel
theorem dX5_exempt_69 : decode cX5_exempt 69 = .ok (.iload_n 1, 1) := by decide +kernel
theorem dX5_exempt_70 : decode cX5_exempt 70 = .ok (.iaload, 1) := by decide +kernel
theorem dX5_exempt_71 : decode cX5_exempt 71 = .ok (.iastore, 1) := by decide +kernel
theorem dX5_exempt_72 : decode cX5_exempt 72 = .ok (.aload_n 0, 1) := by decide +kernel
theorem dX5_exempt_73 : decode cX5_exempt 73 = .ok (.getfield 25, 3) := by decide +kernel
theorem dX5_exempt_76 : decode cX5_exempt 76 = .ok (.iload_n 1, 1) := by decide +kernel
theorem dX5_exempt_77 : decode cX5_exempt 77 = .ok (.iload_n 2, 1) := by decide +kernel
theorem dX5_exempt_78 : decode cX5_exempt 78 = .ok (.ifCond .eq 7, 3) := by decide +kernel
theorem dX5_exempt_81 : decode cX5_exempt 81 = .ok (.iconst (-1), 1) := by decide +kernel
theorem dX5_exempt_82 : decode cX5_exempt 82 = .ok (.goto 9, 3) := by decide +kernel
theorem dX5_exempt_85 : decode cX5_exempt 85 = .ok (.aload_n 0, 1) := by decide +kernel
theorem dX5_exempt_86 : decode cX5_exempt 86 = .ok (.getfield 25, 3) := by decide +kernel
theorem dX5_exempt_89 : decode cX5_exempt 89 = .ok (.iload_n 1, 1) := by decide +kernel
theorem dX5_exempt_90 : decode cX5_exempt 90 = .ok (.iaload, 1) := by decide +kernel
theorem dX5_exempt_91 : decode cX5_exempt 91 = .ok (.iastore, 1) := by decide +kernel
theorem dX5_exempt_92 : decode cX5_exempt 92 = .ok (.iload 4, 2) := by decide +kernel
theorem dX5_exempt_94 : decode cX5_exempt 94 = .ok (.ireturn, 1) := by decide +kernel
theorem dX5_departure_0 : decode cX5_departure 0 = .ok (.aload_n 0, 1) := by decide +kernel
theorem dX5_departure_1 : decode cX5_departure 1 = .ok (.getfield 16, 3) := by decide +kernel
theorem dX5_departure_4 : decode cX5_departure 4 = .ok (.iload_n 1, 1) := by decide +kernel
theorem dX5_departure_5 : decode cX5_departure 5 = .ok (.iaload, 1) := by decide +kernel
theorem dX5_departure_6 : decode cX5_departure 6 = .ok (.iconst 1, 1) := by decide +kernel
theorem dX5_departure_7 : decode cX5_departure 7 = .ok (.if_icmp .ne 12, 3) := by decide +kernel
theorem dX5_departure_10 : decode cX5_departure 10 = .ok (.aload_n 0, 1) := by decide +kernel
theorem dX5_departure_11 : decode cX5_departure 11 = .ok (.getfield 19, 3) := by decide +kernel
theorem dX5_departure_14 : decode cX5_departure 14 = .ok (.iload_n 1, 1) := by decide +kernel
theorem dX5_departure_15 : decode cX5_departure 15 = .ok (.iaload, 1) := by decide +kernel
theorem dX5_departure_16 : decode cX5_departure 16 = .ok (.goto 28, 3) := by decide +kernel
theorem dX5_departure_19 : decode cX5_departure 19 = .ok (.aload_n 0, 1) := by decide +kernel
theorem dX5_departure_20 : decode cX5_departure 20 = .ok (.getfield 22, 3) := by decide +kernel
theorem dX5_departure_23 : decode cX5_departure 23 = .ok (.iload_n 1, 1) := by decide +kernel
theorem dX5_departure_24 : decode cX5_departure 24 = .ok (.iaload, 1) := by decide +kernel
theorem dX5_departure_25 : decode cX5_departure 25 = .ok (.iconst (-1), 1) := by decide +kernel
theorem dX5_departure_26 : decode cX5_departure 26 = .ok (.if_icmp .ne 12, 3) := by decide +kernel
theorem dX5_departure_29 : decode cX5_departure 29 = .ok (.aload_n 0, 1) := by decide +kernel
theorem dX5_departure_30 : decode cX5_departure 30 = .ok (.getfield 13, 3) := by decide +kernel
theorem dX5_departure_33 : decode cX5_departure 33 = .ok (.iload_n 1, 1) := by decide +kernel
theorem dX5_departure_34 : decode cX5_departure 34 = .ok (.iaload, 1) := by decide +kernel
theorem dX5_departure_35 : decode cX5_departure 35 = .ok (.goto 9, 3) := by decide +kernel
theorem dX5_departure_38 : decode cX5_departure 38 = .ok (.aload_n 0, 1) := by decide +kernel
theorem dX5_departure_39 : decode cX5_departure 39 = .ok (.getfield 22, 3) := by decide +kernel
theorem dX5_departure_42 : decode cX5_departure 42 = .ok (.iload_n 1, 1) := by decide +kernel
theorem dX5_departure_43 : decode cX5_departure 43 = .ok (.iaload, 1) := by decide +kernel
theorem dX5_departure_44 : decode cX5_departure 44 = .ok (.ireturn, 1) := by decide +kernel
theorem dX5_flightIs_0 : decode cX5_flightIs 0 = .ok (.aload_n 0, 1) := by decide +kernel
theorem dX5_flightIs_1 : decode cX5_flightIs 1 = .ok (.aload_n 0, 1) := by decide +kernel
theorem dX5_flightIs_2 : decode cX5_flightIs 2 = .ok (.iload_n 1, 1) := by decide +kernel
theorem dX5_flightIs_3 : decode cX5_flightIs 3 = .ok (.invokevirtual 95, 3) := by decide +kernel
theorem dX5_flightIs_6 : decode cX5_flightIs 6 = .ok (.ifCond .ne 7, 3) := by decide +kernel
theorem dX5_flightIs_9 : decode cX5_flightIs 9 = .ok (.iconst 1, 1) := by decide +kernel
theorem dX5_flightIs_10 : decode cX5_flightIs 10 = .ok (.goto 18, 3) := by decide +kernel
theorem dX5_flightIs_13 : decode cX5_flightIs 13 = .ok (.iload_n 2, 1) := by decide +kernel
theorem dX5_flightIs_14 : decode cX5_flightIs 14 = .ok (.iconst 0, 1) := by decide +kernel
theorem dX5_flightIs_15 : decode cX5_flightIs 15 = .ok (.bipush 7, 2) := by decide +kernel
theorem dX5_flightIs_17 : decode cX5_flightIs 17 = .ok (.invokestatic 84, 3) := by decide +kernel
theorem dX5_flightIs_20 : decode cX5_flightIs 20 = .ok (.ifCond .eq 7, 3) := by decide +kernel
theorem dX5_flightIs_23 : decode cX5_flightIs 23 = .ok (.iconst 0, 1) := by decide +kernel
theorem dX5_flightIs_24 : decode cX5_flightIs 24 = .ok (.goto 4, 3) := by decide +kernel
theorem dX5_flightIs_27 : decode cX5_flightIs 27 = .ok (.iconst 2, 1) := by decide +kernel
theorem dX5_flightIs_28 : decode cX5_flightIs 28 = .ok (.invokevirtual 91, 3) := by decide +kernel
theorem dX5_flightIs_31 : decode cX5_flightIs 31 = .ok (.ifCond .ne 5, 3) := by decide +kernel
theorem dX5_flightIs_34 : decode cX5_flightIs 34 = .ok (.iconst 0, 1) := by decide +kernel
theorem dX5_flightIs_35 : decode cX5_flightIs 35 = .ok (.ireturn, 1) := by decide +kernel
theorem dX5_flightIs_36 : decode cX5_flightIs 36 = .ok (.iload_n 2, 1) := by decide +kernel
theorem dX5_flightIs_37 : decode cX5_flightIs 37 = .ok (.iconst 4, 1) := by decide +kernel
theorem dX5_flightIs_38 : decode cX5_flightIs 38 = .ok (.if_icmp .ge 51, 3) := by decide +kernel
theorem dX5_flightIs_41 : decode cX5_flightIs 41 = .ok (.iload_n 2, 1) := by decide +kernel
theorem dX5_flightIs_42 : decode cX5_flightIs 42 = .ok (.ifCond .ne 12, 3) := by decide +kernel
theorem dX5_flightIs_45 : decode cX5_flightIs 45 = .ok (.aload_n 0, 1) := by decide +kernel
theorem dX5_flightIs_46 : decode cX5_flightIs 46 = .ok (.getfield 16, 3) := by decide +kernel
theorem dX5_flightIs_49 : decode cX5_flightIs 49 = .ok (.iload_n 1, 1) := by decide +kernel
theorem dX5_flightIs_50 : decode cX5_flightIs 50 = .ok (.iaload, 1) := by decide +kernel
theorem dX5_flightIs_51 : decode cX5_flightIs 51 = .ok (.goto 37, 3) := by decide +kernel
theorem dX5_flightIs_54 : decode cX5_flightIs 54 = .ok (.iload_n 2, 1) := by decide +kernel
theorem dX5_flightIs_55 : decode cX5_flightIs 55 = .ok (.iconst 1, 1) := by decide +kernel
theorem dX5_flightIs_56 : decode cX5_flightIs 56 = .ok (.if_icmp .ne 12, 3) := by decide +kernel
theorem dX5_flightIs_59 : decode cX5_flightIs 59 = .ok (.aload_n 0, 1) := by decide +kernel
theorem dX5_flightIs_60 : decode cX5_flightIs 60 = .ok (.getfield 13, 3) := by decide +kernel
theorem dX5_flightIs_63 : decode cX5_flightIs 63 = .ok (.iload_n 1, 1) := by decide +kernel
theorem dX5_flightIs_64 : decode cX5_flightIs 64 = .ok (.iaload, 1) := by decide +kernel
theorem dX5_flightIs_65 : decode cX5_flightIs 65 = .ok (.goto 23, 3) := by decide +kernel
theorem dX5_flightIs_68 : decode cX5_flightIs 68 = .ok (.iload_n 2, 1) := by decide +kernel
theorem dX5_flightIs_69 : decode cX5_flightIs 69 = .ok (.iconst 2, 1) := by decide +kernel
theorem dX5_flightIs_70 : decode cX5_flightIs 70 = .ok (.if_icmp .ne 12, 3) := by decide +kernel
theorem dX5_flightIs_73 : decode cX5_flightIs 73 = .ok (.aload_n 0, 1) := by decide +kernel
theorem dX5_flightIs_74 : decode cX5_flightIs 74 = .ok (.getfield 22, 3) := by decide +kernel
theorem dX5_flightIs_77 : decode cX5_flightIs 77 = .ok (.iload_n 1, 1) := by decide +kernel
theorem dX5_flightIs_78 : decode cX5_flightIs 78 = .ok (.iaload, 1) := by decide +kernel
theorem dX5_flightIs_79 : decode cX5_flightIs 79 = .ok (.goto 9, 3) := by decide +kernel
theorem dX5_flightIs_82 : decode cX5_flightIs 82 = .ok (.aload_n 0, 1) := by decide +kernel
theorem dX5_flightIs_83 : decode cX5_flightIs 83 = .ok (.getfield 25, 3) := by decide +kernel
theorem dX5_flightIs_86 : decode cX5_flightIs 86 = .ok (.iload_n 1, 1) := by decide +kernel
theorem dX5_flightIs_87 : decode cX5_flightIs 87 = .ok (.iaload, 1) := by decide +kernel
theorem dX5_flightIs_88 : decode cX5_flightIs 88 = .ok (.ireturn, 1) := by decide +kernel
theorem dX5_flightIs_89 : decode cX5_flightIs 89 = .ok (.iload_n 2, 1) := by decide +kernel
theorem dX5_flightIs_90 : decode cX5_flightIs 90 = .ok (.iconst 4, 1) := by decide +kernel
theorem dX5_flightIs_91 : decode cX5_flightIs 91 = .ok (.if_icmp .ne 11, 3) := by decide +kernel
theorem dX5_flightIs_94 : decode cX5_flightIs 94 = .ok (.aload_n 0, 1) := by decide +kernel
theorem dX5_flightIs_95 : decode cX5_flightIs 95 = .ok (.iload_n 1, 1) := by decide +kernel
theorem dX5_flightIs_96 : decode cX5_flightIs 96 = .ok (.invokevirtual 101, 3) := by decide +kernel
theorem dX5_flightIs_99 : decode cX5_flightIs 99 = .ok (.goto 46, 3) := by decide +kernel
theorem dX5_flightIs_102 : decode cX5_flightIs 102 = .ok (.iload_n 2, 1) := by decide +kernel
theorem dX5_flightIs_103 : decode cX5_flightIs 103 = .ok (.iconst 5, 1) := by decide +kernel
theorem dX5_flightIs_104 : decode cX5_flightIs 104 = .ok (.if_icmp .ne 12, 3) := by decide +kernel
theorem dX5_flightIs_107 : decode cX5_flightIs 107 = .ok (.aload_n 0, 1) := by decide +kernel
theorem dX5_flightIs_108 : decode cX5_flightIs 108 = .ok (.getfield 28, 3) := by decide +kernel
theorem dX5_flightIs_111 : decode cX5_flightIs 111 = .ok (.iload_n 1, 1) := by decide +kernel
theorem dX5_flightIs_112 : decode cX5_flightIs 112 = .ok (.iaload, 1) := by decide +kernel
theorem dX5_flightIs_113 : decode cX5_flightIs 113 = .ok (.goto 32, 3) := by decide +kernel
theorem dX5_flightIs_116 : decode cX5_flightIs 116 = .ok (.iload_n 2, 1) := by decide +kernel
theorem dX5_flightIs_117 : decode cX5_flightIs 117 = .ok (.bipush 6, 2) := by decide +kernel
theorem dX5_flightIs_119 : decode cX5_flightIs 119 = .ok (.if_icmp .ne 12, 3) := by decide +kernel
theorem dX5_flightIs_122 : decode cX5_flightIs 122 = .ok (.aload_n 0, 1) := by decide +kernel
theorem dX5_flightIs_123 : decode cX5_flightIs 123 = .ok (.getfield 34, 3) := by decide +kernel
theorem dX5_flightIs_126 : decode cX5_flightIs 126 = .ok (.iload_n 1, 1) := by decide +kernel
theorem dX5_flightIs_127 : decode cX5_flightIs 127 = .ok (.iaload, 1) := by decide +kernel
theorem dX5_flightIs_128 : decode cX5_flightIs 128 = .ok (.goto 17, 3) := by decide +kernel
theorem dX5_flightIs_131 : decode cX5_flightIs 131 = .ok (.aload_n 0, 1) := by decide +kernel
theorem dX5_flightIs_132 : decode cX5_flightIs 132 = .ok (.getfield 37, 3) := by decide +kernel
theorem dX5_flightIs_135 : decode cX5_flightIs 135 = .ok (.iload_n 1, 1) := by decide +kernel
theorem dX5_flightIs_136 : decode cX5_flightIs 136 = .ok (.baload, 1) := by decide +kernel
theorem dX5_flightIs_137 : decode cX5_flightIs 137 = .ok (.ifCond .eq 7, 3) := by decide +kernel
theorem dX5_flightIs_140 : decode cX5_flightIs 140 = .ok (.iconst 1, 1) := by decide +kernel
theorem dX5_flightIs_141 : decode cX5_flightIs 141 = .ok (.goto 4, 3) := by decide +kernel
theorem dX5_flightIs_144 : decode cX5_flightIs 144 = .ok (.iconst 0, 1) := by decide +kernel
theorem dX5_flightIs_145 : decode cX5_flightIs 145 = .ok (.ireturn, 1) := by decide +kernel
theorem dX5_enters_0 : decode cX5_enters 0 = .ok (.aload_n 0, 1) := by decide +kernel
theorem dX5_enters_1 : decode cX5_enters 1 = .ok (.getfield 41, 3) := by decide +kernel
theorem dX5_enters_4 : decode cX5_enters 4 = .ok (.bipush 6, 2) := by decide +kernel
theorem dX5_enters_6 : decode cX5_enters 6 = .ok (.iload_n 1, 1) := by decide +kernel
theorem dX5_enters_7 : decode cX5_enters 7 = .ok (.imul, 1) := by decide +kernel
theorem dX5_enters_8 : decode cX5_enters 8 = .ok (.iload_n 2, 1) := by decide +kernel
theorem dX5_enters_9 : decode cX5_enters 9 = .ok (.iadd, 1) := by decide +kernel
theorem dX5_enters_10 : decode cX5_enters 10 = .ok (.iaload, 1) := by decide +kernel
theorem dX5_enters_11 : decode cX5_enters 11 = .ok (.iconst (-1), 1) := by decide +kernel
theorem dX5_enters_12 : decode cX5_enters 12 = .ok (.if_icmp .eq 7, 3) := by decide +kernel
theorem dX5_enters_15 : decode cX5_enters 15 = .ok (.iconst 1, 1) := by decide +kernel
theorem dX5_enters_16 : decode cX5_enters 16 = .ok (.goto 4, 3) := by decide +kernel
theorem dX5_enters_19 : decode cX5_enters 19 = .ok (.iconst 0, 1) := by decide +kernel
theorem dX5_enters_20 : decode cX5_enters 20 = .ok (.ireturn, 1) := by decide +kernel
theorem dX5_overOf_0 : decode cX5_overOf 0 = .ok (.aload_n 0, 1) := by decide +kernel
theorem dX5_overOf_1 : decode cX5_overOf 1 = .ok (.iload_n 1, 1) := by decide +kernel
theorem dX5_overOf_2 : decode cX5_overOf 2 = .ok (.invokevirtual 101, 3) := by decide +kernel
theorem dX5_overOf_5 : decode cX5_overOf 5 = .ok (.aload_n 0, 1) := by decide +kernel
theorem dX5_overOf_6 : decode cX5_overOf 6 = .ok (.getfield 41, 3) := by decide +kernel
theorem dX5_overOf_9 : decode cX5_overOf 9 = .ok (.bipush 6, 2) := by decide +kernel
theorem dX5_overOf_11 : decode cX5_overOf 11 = .ok (.iload_n 1, 1) := by decide +kernel
theorem dX5_overOf_12 : decode cX5_overOf 12 = .ok (.imul, 1) := by decide +kernel
theorem dX5_overOf_13 : decode cX5_overOf 13 = .ok (.iload_n 2, 1) := by decide +kernel
theorem dX5_overOf_14 : decode cX5_overOf 14 = .ok (.iadd, 1) := by decide +kernel
theorem dX5_overOf_15 : decode cX5_overOf 15 = .ok (.iaload, 1) := by decide +kernel
theorem dX5_overOf_16 : decode cX5_overOf 16 = .ok (.iadd, 1) := by decide +kernel
theorem dX5_overOf_17 : decode cX5_overOf 17 = .ok (.ireturn, 1) := by decide +kernel
theorem dX5_plannedOver_0 : decode cX5_plannedOver 0 = .ok (.aload_n 0, 1) := by decide +kernel
theorem dX5_plannedOver_1 : decode cX5_plannedOver 1 = .ok (.getfield 13, 3) := by decide +kernel
theorem dX5_plannedOver_4 : decode cX5_plannedOver 4 = .ok (.iload_n 1, 1) := by decide +kernel
theorem dX5_plannedOver_5 : decode cX5_plannedOver 5 = .ok (.iaload, 1) := by decide +kernel
theorem dX5_plannedOver_6 : decode cX5_plannedOver 6 = .ok (.aload_n 0, 1) := by decide +kernel
theorem dX5_plannedOver_7 : decode cX5_plannedOver 7 = .ok (.getfield 41, 3) := by decide +kernel
theorem dX5_plannedOver_10 : decode cX5_plannedOver 10 = .ok (.bipush 6, 2) := by decide +kernel
theorem dX5_plannedOver_12 : decode cX5_plannedOver 12 = .ok (.iload_n 1, 1) := by decide +kernel
theorem dX5_plannedOver_13 : decode cX5_plannedOver 13 = .ok (.imul, 1) := by decide +kernel
theorem dX5_plannedOver_14 : decode cX5_plannedOver 14 = .ok (.iload_n 2, 1) := by decide +kernel
theorem dX5_plannedOver_15 : decode cX5_plannedOver 15 = .ok (.iadd, 1) := by decide +kernel
theorem dX5_plannedOver_16 : decode cX5_plannedOver 16 = .ok (.iaload, 1) := by decide +kernel
theorem dX5_plannedOver_17 : decode cX5_plannedOver 17 = .ok (.iadd, 1) := by decide +kernel
theorem dX5_plannedOver_18 : decode cX5_plannedOver 18 = .ok (.ireturn, 1) := by decide +kernel
theorem dX5_over_0 : decode cX5_over 0 = .ok (.aload_n 0, 1) := by decide +kernel
theorem dX5_over_1 : decode cX5_over 1 = .ok (.aload_n 0, 1) := by decide +kernel
theorem dX5_over_2 : decode cX5_over 2 = .ok (.iload_n 1, 1) := by decide +kernel
theorem dX5_over_3 : decode cX5_over 3 = .ok (.invokevirtual 95, 3) := by decide +kernel
theorem dX5_over_6 : decode cX5_over 6 = .ok (.ifCond .eq 14, 3) := by decide +kernel
theorem dX5_over_9 : decode cX5_over 9 = .ok (.iload_n 2, 1) := by decide +kernel
theorem dX5_over_10 : decode cX5_over 10 = .ok (.invokestatic 98, 3) := by decide +kernel
theorem dX5_over_13 : decode cX5_over 13 = .ok (.ifCond .eq 7, 3) := by decide +kernel
theorem dX5_over_16 : decode cX5_over 16 = .ok (.iconst 0, 1) := by decide +kernel
theorem dX5_over_17 : decode cX5_over 17 = .ok (.goto 4, 3) := by decide +kernel
theorem dX5_over_20 : decode cX5_over 20 = .ok (.iconst 1, 1) := by decide +kernel
theorem dX5_over_21 : decode cX5_over 21 = .ok (.invokevirtual 91, 3) := by decide +kernel
theorem dX5_over_24 : decode cX5_over 24 = .ok (.ifCond .ne 5, 3) := by decide +kernel
theorem dX5_over_27 : decode cX5_over 27 = .ok (.iconst 0, 1) := by decide +kernel
theorem dX5_over_28 : decode cX5_over 28 = .ok (.ireturn, 1) := by decide +kernel
theorem dX5_over_29 : decode cX5_over 29 = .ok (.aload_n 0, 1) := by decide +kernel
theorem dX5_over_30 : decode cX5_over 30 = .ok (.iload_n 1, 1) := by decide +kernel
theorem dX5_over_31 : decode cX5_over 31 = .ok (.iload_n 2, 1) := by decide +kernel
theorem dX5_over_32 : decode cX5_over 32 = .ok (.invokevirtual 105, 3) := by decide +kernel
theorem dX5_over_35 : decode cX5_over 35 = .ok (.ifCond .eq 12, 3) := by decide +kernel
theorem dX5_over_38 : decode cX5_over 38 = .ok (.aload_n 0, 1) := by decide +kernel
theorem dX5_over_39 : decode cX5_over 39 = .ok (.iload_n 1, 1) := by decide +kernel
theorem dX5_over_40 : decode cX5_over 40 = .ok (.iload_n 2, 1) := by decide +kernel
theorem dX5_over_41 : decode cX5_over 41 = .ok (.invokevirtual 109, 3) := by decide +kernel
theorem dX5_over_44 : decode cX5_over 44 = .ok (.goto 4, 3) := by decide +kernel
theorem dX5_over_47 : decode cX5_over 47 = .ok (.iconst (-1), 1) := by decide +kernel
theorem dX5_over_48 : decode cX5_over 48 = .ok (.ireturn, 1) := by decide +kernel
theorem dX5_loadOf_0 : decode cX5_loadOf 0 = .ok (.iconst 0, 1) := by decide +kernel
theorem dX5_loadOf_1 : decode cX5_loadOf 1 = .ok (.istore 4, 2) := by decide +kernel
theorem dX5_loadOf_3 : decode cX5_loadOf 3 = .ok (.iconst 0, 1) := by decide +kernel
theorem dX5_loadOf_4 : decode cX5_loadOf 4 = .ok (.istore 5, 2) := by decide +kernel
theorem dX5_loadOf_6 : decode cX5_loadOf 6 = .ok (.iload 5, 2) := by decide +kernel
theorem dX5_loadOf_8 : decode cX5_loadOf 8 = .ok (.aload_n 0, 1) := by decide +kernel
theorem dX5_loadOf_9 : decode cX5_loadOf 9 = .ok (.getfield 81, 3) := by decide +kernel
theorem dX5_loadOf_12 : decode cX5_loadOf 12 = .ok (.if_icmp .ge 59, 3) := by decide +kernel
theorem dX5_loadOf_15 : decode cX5_loadOf 15 = .ok (.iload 4, 2) := by decide +kernel
theorem dX5_loadOf_17 : decode cX5_loadOf 17 = .ok (.aload_n 0, 1) := by decide +kernel
theorem dX5_loadOf_18 : decode cX5_loadOf 18 = .ok (.getfield 16, 3) := by decide +kernel
theorem dX5_loadOf_21 : decode cX5_loadOf 21 = .ok (.iload 5, 2) := by decide +kernel
theorem dX5_loadOf_23 : decode cX5_loadOf 23 = .ok (.iaload, 1) := by decide +kernel
theorem dX5_loadOf_24 : decode cX5_loadOf 24 = .ok (.iconst 2, 1) := by decide +kernel
theorem dX5_loadOf_25 : decode cX5_loadOf 25 = .ok (.if_icmp .eq 36, 3) := by decide +kernel
theorem dX5_loadOf_28 : decode cX5_loadOf 28 = .ok (.aload_n 0, 1) := by decide +kernel
theorem dX5_loadOf_29 : decode cX5_loadOf 29 = .ok (.iload 5, 2) := by decide +kernel
theorem dX5_loadOf_31 : decode cX5_loadOf 31 = .ok (.iload_n 1, 1) := by decide +kernel
theorem dX5_loadOf_32 : decode cX5_loadOf 32 = .ok (.invokevirtual 105, 3) := by decide +kernel
theorem dX5_loadOf_35 : decode cX5_loadOf 35 = .ok (.ifCond .eq 26, 3) := by decide +kernel
theorem dX5_loadOf_38 : decode cX5_loadOf 38 = .ok (.aload_n 0, 1) := by decide +kernel
theorem dX5_loadOf_39 : decode cX5_loadOf 39 = .ok (.iload 5, 2) := by decide +kernel
theorem dX5_loadOf_41 : decode cX5_loadOf 41 = .ok (.iload_n 1, 1) := by decide +kernel
theorem dX5_loadOf_42 : decode cX5_loadOf 42 = .ok (.invokevirtual 109, 3) := by decide +kernel
theorem dX5_loadOf_45 : decode cX5_loadOf 45 = .ok (.iload_n 2, 1) := by decide +kernel
theorem dX5_loadOf_46 : decode cX5_loadOf 46 = .ok (.iload_n 2, 1) := by decide +kernel
theorem dX5_loadOf_47 : decode cX5_loadOf 47 = .ok (.iload_n 3, 1) := by decide +kernel
theorem dX5_loadOf_48 : decode cX5_loadOf 48 = .ok (.iadd, 1) := by decide +kernel
theorem dX5_loadOf_49 : decode cX5_loadOf 49 = .ok (.iconst 1, 1) := by decide +kernel
theorem dX5_loadOf_50 : decode cX5_loadOf 50 = .ok (.isub, 1) := by decide +kernel
theorem dX5_loadOf_51 : decode cX5_loadOf 51 = .ok (.invokestatic 84, 3) := by decide +kernel
theorem dX5_loadOf_54 : decode cX5_loadOf 54 = .ok (.ifCond .eq 7, 3) := by decide +kernel
theorem dX5_loadOf_57 : decode cX5_loadOf 57 = .ok (.iconst 1, 1) := by decide +kernel
theorem dX5_loadOf_58 : decode cX5_loadOf 58 = .ok (.goto 4, 3) := by decide +kernel
theorem dX5_loadOf_61 : decode cX5_loadOf 61 = .ok (.iconst 0, 1) := by decide +kernel
theorem dX5_loadOf_62 : decode cX5_loadOf 62 = .ok (.iadd, 1) := by decide +kernel
theorem dX5_loadOf_63 : decode cX5_loadOf 63 = .ok (.istore 4, 2) := by decide +kernel
theorem dX5_loadOf_65 : decode cX5_loadOf 65 = .ok (.iinc 5 1, 3) := by decide +kernel
theorem dX5_loadOf_68 : decode cX5_loadOf 68 = .ok (.goto (-62), 3) := by decide +kernel
theorem dX5_loadOf_71 : decode cX5_loadOf 71 = .ok (.iload 4, 2) := by decide +kernel
theorem dX5_loadOf_73 : decode cX5_loadOf 73 = .ok (.ireturn, 1) := by decide +kernel
theorem dX5_load_0 : decode cX5_load 0 = .ok (.aload_n 0, 1) := by decide +kernel
theorem dX5_load_1 : decode cX5_load 1 = .ok (.iload_n 1, 1) := by decide +kernel
theorem dX5_load_2 : decode cX5_load 2 = .ok (.invokestatic 98, 3) := by decide +kernel
theorem dX5_load_5 : decode cX5_load 5 = .ok (.ifCond .ne 7, 3) := by decide +kernel
theorem dX5_load_8 : decode cX5_load 8 = .ok (.iconst 1, 1) := by decide +kernel
theorem dX5_load_9 : decode cX5_load 9 = .ok (.goto 30, 3) := by decide +kernel
theorem dX5_load_12 : decode cX5_load 12 = .ok (.iload_n 2, 1) := by decide +kernel
theorem dX5_load_13 : decode cX5_load 13 = .ok (.iconst 0, 1) := by decide +kernel
theorem dX5_load_14 : decode cX5_load 14 = .ok (.sipush 2999, 3) := by decide +kernel
theorem dX5_load_17 : decode cX5_load 17 = .ok (.invokestatic 84, 3) := by decide +kernel
theorem dX5_load_20 : decode cX5_load 20 = .ok (.ifCond .eq 18, 3) := by decide +kernel
theorem dX5_load_23 : decode cX5_load 23 = .ok (.iload_n 3, 1) := by decide +kernel
theorem dX5_load_24 : decode cX5_load 24 = .ok (.iconst 1, 1) := by decide +kernel
theorem dX5_load_25 : decode cX5_load 25 = .ok (.sipush 240, 3) := by decide +kernel
theorem dX5_load_28 : decode cX5_load 28 = .ok (.invokestatic 84, 3) := by decide +kernel
theorem dX5_load_31 : decode cX5_load 31 = .ok (.ifCond .eq 7, 3) := by decide +kernel
theorem dX5_load_34 : decode cX5_load 34 = .ok (.iconst 0, 1) := by decide +kernel
theorem dX5_load_35 : decode cX5_load 35 = .ok (.goto 4, 3) := by decide +kernel
theorem dX5_load_38 : decode cX5_load 38 = .ok (.iconst 2, 1) := by decide +kernel
theorem dX5_load_39 : decode cX5_load 39 = .ok (.invokevirtual 91, 3) := by decide +kernel
theorem dX5_load_42 : decode cX5_load 42 = .ok (.ifCond .eq 13, 3) := by decide +kernel
theorem dX5_load_45 : decode cX5_load 45 = .ok (.aload_n 0, 1) := by decide +kernel
theorem dX5_load_46 : decode cX5_load 46 = .ok (.iload_n 1, 1) := by decide +kernel
theorem dX5_load_47 : decode cX5_load 47 = .ok (.iload_n 2, 1) := by decide +kernel
theorem dX5_load_48 : decode cX5_load 48 = .ok (.iload_n 3, 1) := by decide +kernel
theorem dX5_load_49 : decode cX5_load 49 = .ok (.invokevirtual 113, 3) := by decide +kernel
theorem dX5_load_52 : decode cX5_load 52 = .ok (.goto 4, 3) := by decide +kernel
theorem dX5_load_55 : decode cX5_load 55 = .ok (.iconst 0, 1) := by decide +kernel
theorem dX5_load_56 : decode cX5_load 56 = .ok (.ireturn, 1) := by decide +kernel
theorem dX5_inside_0 : decode cX5_inside 0 = .ok (.aload_n 0, 1) := by decide +kernel
theorem dX5_inside_1 : decode cX5_inside 1 = .ok (.iload_n 1, 1) := by decide +kernel
theorem dX5_inside_2 : decode cX5_inside 2 = .ok (.invokestatic 98, 3) := by decide +kernel
theorem dX5_inside_5 : decode cX5_inside 5 = .ok (.ifCond .ne 7, 3) := by decide +kernel
theorem dX5_inside_8 : decode cX5_inside 8 = .ok (.iconst 1, 1) := by decide +kernel
theorem dX5_inside_9 : decode cX5_inside 9 = .ok (.goto 19, 3) := by decide +kernel
theorem dX5_inside_12 : decode cX5_inside 12 = .ok (.iload_n 2, 1) := by decide +kernel
theorem dX5_inside_13 : decode cX5_inside 13 = .ok (.iconst 0, 1) := by decide +kernel
theorem dX5_inside_14 : decode cX5_inside 14 = .ok (.sipush 2999, 3) := by decide +kernel
theorem dX5_inside_17 : decode cX5_inside 17 = .ok (.invokestatic 84, 3) := by decide +kernel
theorem dX5_inside_20 : decode cX5_inside 20 = .ok (.ifCond .eq 7, 3) := by decide +kernel
theorem dX5_inside_23 : decode cX5_inside 23 = .ok (.iconst 0, 1) := by decide +kernel
theorem dX5_inside_24 : decode cX5_inside 24 = .ok (.goto 4, 3) := by decide +kernel
theorem dX5_inside_27 : decode cX5_inside 27 = .ok (.iconst 2, 1) := by decide +kernel
theorem dX5_inside_28 : decode cX5_inside 28 = .ok (.invokevirtual 91, 3) := by decide +kernel
theorem dX5_inside_31 : decode cX5_inside 31 = .ok (.ifCond .ne 5, 3) := by decide +kernel
theorem dX5_inside_34 : decode cX5_inside 34 = .ok (.iconst 0, 1) := by decide +kernel
theorem dX5_inside_35 : decode cX5_inside 35 = .ok (.ireturn, 1) := by decide +kernel
theorem dX5_inside_36 : decode cX5_inside 36 = .ok (.iconst 0, 1) := by decide +kernel
theorem dX5_inside_37 : decode cX5_inside 37 = .ok (.istore_n 3, 1) := by decide +kernel
theorem dX5_inside_38 : decode cX5_inside 38 = .ok (.iconst 0, 1) := by decide +kernel
theorem dX5_inside_39 : decode cX5_inside 39 = .ok (.istore 4, 2) := by decide +kernel
theorem dX5_inside_41 : decode cX5_inside 41 = .ok (.iload 4, 2) := by decide +kernel
theorem dX5_inside_43 : decode cX5_inside 43 = .ok (.aload_n 0, 1) := by decide +kernel
theorem dX5_inside_44 : decode cX5_inside 44 = .ok (.getfield 81, 3) := by decide +kernel
theorem dX5_inside_47 : decode cX5_inside 47 = .ok (.if_icmp .ge 85, 3) := by decide +kernel
theorem dX5_inside_50 : decode cX5_inside 50 = .ok (.aload_n 0, 1) := by decide +kernel
theorem dX5_inside_51 : decode cX5_inside 51 = .ok (.iload 4, 2) := by decide +kernel
theorem dX5_inside_53 : decode cX5_inside 53 = .ok (.iload_n 1, 1) := by decide +kernel
theorem dX5_inside_54 : decode cX5_inside 54 = .ok (.invokevirtual 105, 3) := by decide +kernel
theorem dX5_inside_57 : decode cX5_inside 57 = .ok (.ifCond .eq 15, 3) := by decide +kernel
theorem dX5_inside_60 : decode cX5_inside 60 = .ok (.iload_n 2, 1) := by decide +kernel
theorem dX5_inside_61 : decode cX5_inside 61 = .ok (.aload_n 0, 1) := by decide +kernel
theorem dX5_inside_62 : decode cX5_inside 62 = .ok (.iload 4, 2) := by decide +kernel
theorem dX5_inside_64 : decode cX5_inside 64 = .ok (.iload_n 1, 1) := by decide +kernel
theorem dX5_inside_65 : decode cX5_inside 65 = .ok (.invokevirtual 109, 3) := by decide +kernel
theorem dX5_inside_68 : decode cX5_inside 68 = .ok (.isub, 1) := by decide +kernel
theorem dX5_inside_69 : decode cX5_inside 69 = .ok (.goto 4, 3) := by decide +kernel
theorem dX5_inside_72 : decode cX5_inside 72 = .ok (.iconst (-1), 1) := by decide +kernel
theorem dX5_inside_73 : decode cX5_inside 73 = .ok (.istore 5, 2) := by decide +kernel
theorem dX5_inside_75 : decode cX5_inside 75 = .ok (.iload_n 3, 1) := by decide +kernel
theorem dX5_inside_76 : decode cX5_inside 76 = .ok (.aload_n 0, 1) := by decide +kernel
theorem dX5_inside_77 : decode cX5_inside 77 = .ok (.getfield 16, 3) := by decide +kernel
theorem dX5_inside_80 : decode cX5_inside 80 = .ok (.iload 4, 2) := by decide +kernel
theorem dX5_inside_82 : decode cX5_inside 82 = .ok (.iaload, 1) := by decide +kernel
theorem dX5_inside_83 : decode cX5_inside 83 = .ok (.iconst 2, 1) := by decide +kernel
theorem dX5_inside_84 : decode cX5_inside 84 = .ok (.if_icmp .eq 39, 3) := by decide +kernel
theorem dX5_inside_87 : decode cX5_inside 87 = .ok (.aload_n 0, 1) := by decide +kernel
theorem dX5_inside_88 : decode cX5_inside 88 = .ok (.iload 4, 2) := by decide +kernel
theorem dX5_inside_90 : decode cX5_inside 90 = .ok (.iload_n 1, 1) := by decide +kernel
theorem dX5_inside_91 : decode cX5_inside 91 = .ok (.invokevirtual 105, 3) := by decide +kernel
theorem dX5_inside_94 : decode cX5_inside 94 = .ok (.ifCond .eq 29, 3) := by decide +kernel
theorem dX5_inside_97 : decode cX5_inside 97 = .ok (.iload 5, 2) := by decide +kernel
theorem dX5_inside_99 : decode cX5_inside 99 = .ok (.ifCond .lt 24, 3) := by decide +kernel
theorem dX5_inside_102 : decode cX5_inside 102 = .ok (.iload 5, 2) := by decide +kernel
theorem dX5_inside_104 : decode cX5_inside 104 = .ok (.aload_n 0, 1) := by decide +kernel
theorem dX5_inside_105 : decode cX5_inside 105 = .ok (.getfield 44, 3) := by decide +kernel
theorem dX5_inside_108 : decode cX5_inside 108 = .ok (.bipush 6, 2) := by decide +kernel
theorem dX5_inside_110 : decode cX5_inside 110 = .ok (.iload 4, 2) := by decide +kernel
theorem dX5_inside_112 : decode cX5_inside 112 = .ok (.imul, 1) := by decide +kernel
theorem dX5_inside_113 : decode cX5_inside 113 = .ok (.iload_n 1, 1) := by decide +kernel
theorem dX5_inside_114 : decode cX5_inside 114 = .ok (.iadd, 1) := by decide +kernel
theorem dX5_inside_115 : decode cX5_inside 115 = .ok (.iaload, 1) := by decide +kernel
theorem dX5_inside_116 : decode cX5_inside 116 = .ok (.if_icmp .ge 7, 3) := by decide +kernel
theorem dX5_inside_119 : decode cX5_inside 119 = .ok (.iconst 1, 1) := by decide +kernel
theorem dX5_inside_120 : decode cX5_inside 120 = .ok (.goto 4, 3) := by decide +kernel
theorem dX5_inside_123 : decode cX5_inside 123 = .ok (.iconst 0, 1) := by decide +kernel
theorem dX5_inside_124 : decode cX5_inside 124 = .ok (.iadd, 1) := by decide +kernel
theorem dX5_inside_125 : decode cX5_inside 125 = .ok (.istore_n 3, 1) := by decide +kernel
theorem dX5_inside_126 : decode cX5_inside 126 = .ok (.iinc 4 1, 3) := by decide +kernel
theorem dX5_inside_129 : decode cX5_inside 129 = .ok (.goto (-88), 3) := by decide +kernel
theorem dX5_inside_132 : decode cX5_inside 132 = .ok (.iload_n 3, 1) := by decide +kernel
theorem dX5_inside_133 : decode cX5_inside 133 = .ok (.ireturn, 1) := by decide +kernel
theorem dX5_peak_0 : decode cX5_peak 0 = .ok (.aload_n 0, 1) := by decide +kernel
theorem dX5_peak_1 : decode cX5_peak 1 = .ok (.iload_n 1, 1) := by decide +kernel
theorem dX5_peak_2 : decode cX5_peak 2 = .ok (.invokestatic 98, 3) := by decide +kernel
theorem dX5_peak_5 : decode cX5_peak 5 = .ok (.ifCond .ne 7, 3) := by decide +kernel
theorem dX5_peak_8 : decode cX5_peak 8 = .ok (.iconst 1, 1) := by decide +kernel
theorem dX5_peak_9 : decode cX5_peak 9 = .ok (.goto 19, 3) := by decide +kernel
theorem dX5_peak_12 : decode cX5_peak 12 = .ok (.iload_n 2, 1) := by decide +kernel
theorem dX5_peak_13 : decode cX5_peak 13 = .ok (.iconst 1, 1) := by decide +kernel
theorem dX5_peak_14 : decode cX5_peak 14 = .ok (.sipush 240, 3) := by decide +kernel
theorem dX5_peak_17 : decode cX5_peak 17 = .ok (.invokestatic 84, 3) := by decide +kernel
theorem dX5_peak_20 : decode cX5_peak 20 = .ok (.ifCond .eq 7, 3) := by decide +kernel
theorem dX5_peak_23 : decode cX5_peak 23 = .ok (.iconst 0, 1) := by decide +kernel
theorem dX5_peak_24 : decode cX5_peak 24 = .ok (.goto 4, 3) := by decide +kernel
theorem dX5_peak_27 : decode cX5_peak 27 = .ok (.iconst 2, 1) := by decide +kernel
theorem dX5_peak_28 : decode cX5_peak 28 = .ok (.invokevirtual 91, 3) := by decide +kernel
theorem dX5_peak_31 : decode cX5_peak 31 = .ok (.ifCond .ne 5, 3) := by decide +kernel
theorem dX5_peak_34 : decode cX5_peak 34 = .ok (.iconst 0, 1) := by decide +kernel
theorem dX5_peak_35 : decode cX5_peak 35 = .ok (.ireturn, 1) := by decide +kernel
theorem dX5_peak_36 : decode cX5_peak 36 = .ok (.iconst 0, 1) := by decide +kernel
theorem dX5_peak_37 : decode cX5_peak 37 = .ok (.istore_n 3, 1) := by decide +kernel
theorem dX5_peak_38 : decode cX5_peak 38 = .ok (.iconst 0, 1) := by decide +kernel
theorem dX5_peak_39 : decode cX5_peak 39 = .ok (.istore 4, 2) := by decide +kernel
theorem dX5_peak_41 : decode cX5_peak 41 = .ok (.iload 4, 2) := by decide +kernel
theorem dX5_peak_43 : decode cX5_peak 43 = .ok (.aload_n 0, 1) := by decide +kernel
theorem dX5_peak_44 : decode cX5_peak 44 = .ok (.getfield 81, 3) := by decide +kernel
theorem dX5_peak_47 : decode cX5_peak 47 = .ok (.if_icmp .ge 62, 3) := by decide +kernel
theorem dX5_peak_50 : decode cX5_peak 50 = .ok (.aload_n 0, 1) := by decide +kernel
theorem dX5_peak_51 : decode cX5_peak 51 = .ok (.getfield 16, 3) := by decide +kernel
theorem dX5_peak_54 : decode cX5_peak 54 = .ok (.iload 4, 2) := by decide +kernel
theorem dX5_peak_56 : decode cX5_peak 56 = .ok (.iaload, 1) := by decide +kernel
theorem dX5_peak_57 : decode cX5_peak 57 = .ok (.iconst 2, 1) := by decide +kernel
theorem dX5_peak_58 : decode cX5_peak 58 = .ok (.if_icmp .eq 29, 3) := by decide +kernel
theorem dX5_peak_61 : decode cX5_peak 61 = .ok (.aload_n 0, 1) := by decide +kernel
theorem dX5_peak_62 : decode cX5_peak 62 = .ok (.iload 4, 2) := by decide +kernel
theorem dX5_peak_64 : decode cX5_peak 64 = .ok (.iload_n 1, 1) := by decide +kernel
theorem dX5_peak_65 : decode cX5_peak 65 = .ok (.invokevirtual 105, 3) := by decide +kernel
theorem dX5_peak_68 : decode cX5_peak 68 = .ok (.ifCond .eq 19, 3) := by decide +kernel
theorem dX5_peak_71 : decode cX5_peak 71 = .ok (.aload_n 0, 1) := by decide +kernel
theorem dX5_peak_72 : decode cX5_peak 72 = .ok (.iload_n 1, 1) := by decide +kernel
theorem dX5_peak_73 : decode cX5_peak 73 = .ok (.aload_n 0, 1) := by decide +kernel
theorem dX5_peak_74 : decode cX5_peak 74 = .ok (.iload 4, 2) := by decide +kernel
theorem dX5_peak_76 : decode cX5_peak 76 = .ok (.iload_n 1, 1) := by decide +kernel
theorem dX5_peak_77 : decode cX5_peak 77 = .ok (.invokevirtual 109, 3) := by decide +kernel
theorem dX5_peak_80 : decode cX5_peak 80 = .ok (.iload_n 2, 1) := by decide +kernel
theorem dX5_peak_81 : decode cX5_peak 81 = .ok (.invokevirtual 113, 3) := by decide +kernel
theorem dX5_peak_84 : decode cX5_peak 84 = .ok (.goto 4, 3) := by decide +kernel
theorem dX5_peak_87 : decode cX5_peak 87 = .ok (.iconst 0, 1) := by decide +kernel
theorem dX5_peak_88 : decode cX5_peak 88 = .ok (.istore 5, 2) := by decide +kernel
theorem dX5_peak_90 : decode cX5_peak 90 = .ok (.iload 5, 2) := by decide +kernel
theorem dX5_peak_92 : decode cX5_peak 92 = .ok (.iload_n 3, 1) := by decide +kernel
theorem dX5_peak_93 : decode cX5_peak 93 = .ok (.if_icmp .le 8, 3) := by decide +kernel
theorem dX5_peak_96 : decode cX5_peak 96 = .ok (.iload 5, 2) := by decide +kernel
theorem dX5_peak_98 : decode cX5_peak 98 = .ok (.goto 4, 3) := by decide +kernel
theorem dX5_peak_101 : decode cX5_peak 101 = .ok (.iload_n 3, 1) := by decide +kernel
theorem dX5_peak_102 : decode cX5_peak 102 = .ok (.istore_n 3, 1) := by decide +kernel
theorem dX5_peak_103 : decode cX5_peak 103 = .ok (.iinc 4 1, 3) := by decide +kernel
theorem dX5_peak_106 : decode cX5_peak 106 = .ok (.goto (-65), 3) := by decide +kernel
theorem dX5_peak_109 : decode cX5_peak 109 = .ok (.iload_n 3, 1) := by decide +kernel
theorem dX5_peak_110 : decode cX5_peak 110 = .ok (.ireturn, 1) := by decide +kernel
theorem dX5_peakAnew_0 : decode cX5_peakAnew 0 = .ok (.aload_n 0, 1) := by decide +kernel
theorem dX5_peakAnew_1 : decode cX5_peakAnew 1 = .ok (.iload_n 1, 1) := by decide +kernel
theorem dX5_peakAnew_2 : decode cX5_peakAnew 2 = .ok (.iload_n 2, 1) := by decide +kernel
theorem dX5_peakAnew_3 : decode cX5_peakAnew 3 = .ok (.invokevirtual 117, 3) := by decide +kernel
theorem dX5_peakAnew_6 : decode cX5_peakAnew 6 = .ok (.ireturn, 1) := by decide +kernel
theorem dX5_isPart_0 : decode cX5_isPart 0 = .ok (.iload_n 0, 1) := by decide +kernel
theorem dX5_isPart_1 : decode cX5_isPart 1 = .ok (.iconst 0, 1) := by decide +kernel
theorem dX5_isPart_2 : decode cX5_isPart 2 = .ok (.sipush 1439, 3) := by decide +kernel
theorem dX5_isPart_5 : decode cX5_isPart 5 = .ok (.invokestatic 84, 3) := by decide +kernel
theorem dX5_isPart_8 : decode cX5_isPart 8 = .ok (.ifCond .eq 30, 3) := by decide +kernel
theorem dX5_isPart_11 : decode cX5_isPart 11 = .ok (.iload_n 1, 1) := by decide +kernel
theorem dX5_isPart_12 : decode cX5_isPart 12 = .ok (.iload_n 0, 1) := by decide +kernel
theorem dX5_isPart_13 : decode cX5_isPart 13 = .ok (.iconst 1, 1) := by decide +kernel
theorem dX5_isPart_14 : decode cX5_isPart 14 = .ok (.iadd, 1) := by decide +kernel
theorem dX5_isPart_15 : decode cX5_isPart 15 = .ok (.sipush 1440, 3) := by decide +kernel
theorem dX5_isPart_18 : decode cX5_isPart 18 = .ok (.invokestatic 84, 3) := by decide +kernel
theorem dX5_isPart_21 : decode cX5_isPart 21 = .ok (.ifCond .eq 17, 3) := by decide +kernel
theorem dX5_isPart_24 : decode cX5_isPart 24 = .ok (.iload_n 2, 1) := by decide +kernel
theorem dX5_isPart_25 : decode cX5_isPart 25 = .ok (.iconst 0, 1) := by decide +kernel
theorem dX5_isPart_26 : decode cX5_isPart 26 = .ok (.bipush 60, 2) := by decide +kernel
theorem dX5_isPart_28 : decode cX5_isPart 28 = .ok (.invokestatic 84, 3) := by decide +kernel
theorem dX5_isPart_31 : decode cX5_isPart 31 = .ok (.ifCond .eq 7, 3) := by decide +kernel
theorem dX5_isPart_34 : decode cX5_isPart 34 = .ok (.iconst 1, 1) := by decide +kernel
theorem dX5_isPart_35 : decode cX5_isPart 35 = .ok (.goto 4, 3) := by decide +kernel
theorem dX5_isPart_38 : decode cX5_isPart 38 = .ok (.iconst 0, 1) := by decide +kernel
theorem dX5_isPart_39 : decode cX5_isPart 39 = .ok (.ireturn, 1) := by decide +kernel
theorem dX5_lays_0 : decode cX5_lays 0 = .ok (.aload_n 0, 1) := by decide +kernel
theorem dX5_lays_1 : decode cX5_lays 1 = .ok (.getfield 47, 3) := by decide +kernel
theorem dX5_lays_4 : decode cX5_lays 4 = .ok (.iload_n 1, 1) := by decide +kernel
theorem dX5_lays_5 : decode cX5_lays 5 = .ok (.iload_n 2, 1) := by decide +kernel
theorem dX5_lays_6 : decode cX5_lays 6 = .ok (.iastore, 1) := by decide +kernel
theorem dX5_lays_7 : decode cX5_lays 7 = .ok (.aload_n 0, 1) := by decide +kernel
theorem dX5_lays_8 : decode cX5_lays 8 = .ok (.getfield 50, 3) := by decide +kernel
theorem dX5_lays_11 : decode cX5_lays 11 = .ok (.iload_n 1, 1) := by decide +kernel
theorem dX5_lays_12 : decode cX5_lays 12 = .ok (.iload_n 3, 1) := by decide +kernel
theorem dX5_lays_13 : decode cX5_lays 13 = .ok (.iastore, 1) := by decide +kernel
theorem dX5_lays_14 : decode cX5_lays 14 = .ok (.aload_n 0, 1) := by decide +kernel
theorem dX5_lays_15 : decode cX5_lays 15 = .ok (.getfield 53, 3) := by decide +kernel
theorem dX5_lays_18 : decode cX5_lays 18 = .ok (.iload_n 1, 1) := by decide +kernel
theorem dX5_lays_19 : decode cX5_lays 19 = .ok (.iload 4, 2) := by decide +kernel
theorem dX5_lays_21 : decode cX5_lays 21 = .ok (.iastore, 1) := by decide +kernel
theorem dX5_lays_22 : decode cX5_lays 22 = .ok (.aload_n 0, 1) := by decide +kernel
theorem dX5_lays_23 : decode cX5_lays 23 = .ok (.getfield 56, 3) := by decide +kernel
theorem dX5_lays_26 : decode cX5_lays 26 = .ok (.iload_n 1, 1) := by decide +kernel
theorem dX5_lays_27 : decode cX5_lays 27 = .ok (.iload 5, 2) := by decide +kernel
theorem dX5_lays_29 : decode cX5_lays 29 = .ok (.iastore, 1) := by decide +kernel
theorem dX5_lays_30 : decode cX5_lays 30 = .ok (.return_, 1) := by decide +kernel
theorem dX5_regulation_0 : decode cX5_regulation 0 = .ok (.aload_n 0, 1) := by decide +kernel
theorem dX5_regulation_1 : decode cX5_regulation 1 = .ok (.iload_n 1, 1) := by decide +kernel
theorem dX5_regulation_2 : decode cX5_regulation 2 = .ok (.invokestatic 98, 3) := by decide +kernel
theorem dX5_regulation_5 : decode cX5_regulation 5 = .ok (.ifCond .ne 7, 3) := by decide +kernel
theorem dX5_regulation_8 : decode cX5_regulation 8 = .ok (.iconst 1, 1) := by decide +kernel
theorem dX5_regulation_9 : decode cX5_regulation 9 = .ok (.goto 31, 3) := by decide +kernel
theorem dX5_regulation_12 : decode cX5_regulation 12 = .ok (.iload_n 2, 1) := by decide +kernel
theorem dX5_regulation_13 : decode cX5_regulation 13 = .ok (.iload_n 3, 1) := by decide +kernel
theorem dX5_regulation_14 : decode cX5_regulation 14 = .ok (.iload 4, 2) := by decide +kernel
theorem dX5_regulation_16 : decode cX5_regulation 16 = .ok (.invokestatic 120, 3) := by decide +kernel
theorem dX5_regulation_19 : decode cX5_regulation 19 = .ok (.ifCond .ne 7, 3) := by decide +kernel
theorem dX5_regulation_22 : decode cX5_regulation 22 = .ok (.iconst 2, 1) := by decide +kernel
theorem dX5_regulation_23 : decode cX5_regulation 23 = .ok (.goto 17, 3) := by decide +kernel
theorem dX5_regulation_26 : decode cX5_regulation 26 = .ok (.aload_n 0, 1) := by decide +kernel
theorem dX5_regulation_27 : decode cX5_regulation 27 = .ok (.getfield 88, 3) := by decide +kernel
theorem dX5_regulation_30 : decode cX5_regulation 30 = .ok (.bipush 6, 2) := by decide +kernel
theorem dX5_regulation_32 : decode cX5_regulation 32 = .ok (.if_icmp .ne 7, 3) := by decide +kernel
theorem dX5_regulation_35 : decode cX5_regulation 35 = .ok (.iconst 3, 1) := by decide +kernel
theorem dX5_regulation_36 : decode cX5_regulation 36 = .ok (.goto 4, 3) := by decide +kernel
theorem dX5_regulation_39 : decode cX5_regulation 39 = .ok (.iconst 0, 1) := by decide +kernel
theorem dX5_regulation_40 : decode cX5_regulation 40 = .ok (.invokevirtual 91, 3) := by decide +kernel
theorem dX5_regulation_43 : decode cX5_regulation 43 = .ok (.ifCond .ne 5, 3) := by decide +kernel
theorem dX5_regulation_46 : decode cX5_regulation 46 = .ok (.iconst 0, 1) := by decide +kernel
theorem dX5_regulation_47 : decode cX5_regulation 47 = .ok (.ireturn, 1) := by decide +kernel
theorem dX5_regulation_48 : decode cX5_regulation 48 = .ok (.aload_n 0, 1) := by decide +kernel
theorem dX5_regulation_49 : decode cX5_regulation 49 = .ok (.aload_n 0, 1) := by decide +kernel
theorem dX5_regulation_50 : decode cX5_regulation 50 = .ok (.getfield 88, 3) := by decide +kernel
theorem dX5_regulation_53 : decode cX5_regulation 53 = .ok (.iload_n 1, 1) := by decide +kernel
theorem dX5_regulation_54 : decode cX5_regulation 54 = .ok (.iload_n 2, 1) := by decide +kernel
theorem dX5_regulation_55 : decode cX5_regulation 55 = .ok (.iload_n 3, 1) := by decide +kernel
theorem dX5_regulation_56 : decode cX5_regulation 56 = .ok (.iload 4, 2) := by decide +kernel
theorem dX5_regulation_58 : decode cX5_regulation 58 = .ok (.invokevirtual 123, 3) := by decide +kernel
theorem dX5_regulation_61 : decode cX5_regulation 61 = .ok (.aload_n 0, 1) := by decide +kernel
theorem dX5_regulation_62 : decode cX5_regulation 62 = .ok (.dup, 1) := by decide +kernel
theorem dX5_regulation_63 : decode cX5_regulation 63 = .ok (.getfield 88, 3) := by decide +kernel
theorem dX5_regulation_66 : decode cX5_regulation 66 = .ok (.iconst 1, 1) := by decide +kernel
theorem dX5_regulation_67 : decode cX5_regulation 67 = .ok (.iadd, 1) := by decide +kernel
theorem dX5_regulation_68 : decode cX5_regulation 68 = .ok (.putfield 88, 3) := by decide +kernel
theorem dX5_regulation_71 : decode cX5_regulation 71 = .ok (.aload_n 0, 1) := by decide +kernel
theorem dX5_regulation_72 : decode cX5_regulation 72 = .ok (.getfield 88, 3) := by decide +kernel
theorem dX5_regulation_75 : decode cX5_regulation 75 = .ok (.iconst 1, 1) := by decide +kernel
theorem dX5_regulation_76 : decode cX5_regulation 76 = .ok (.isub, 1) := by decide +kernel
theorem dX5_regulation_77 : decode cX5_regulation 77 = .ok (.ireturn, 1) := by decide +kernel
theorem dX5_rate_0 : decode cX5_rate 0 = .ok (.aload_n 0, 1) := by decide +kernel
theorem dX5_rate_1 : decode cX5_rate 1 = .ok (.iload_n 1, 1) := by decide +kernel
theorem dX5_rate_2 : decode cX5_rate 2 = .ok (.invokevirtual 127, 3) := by decide +kernel
theorem dX5_rate_5 : decode cX5_rate 5 = .ok (.istore_n 3, 1) := by decide +kernel
theorem dX5_rate_6 : decode cX5_rate 6 = .ok (.aload_n 0, 1) := by decide +kernel
theorem dX5_rate_7 : decode cX5_rate 7 = .ok (.iload_n 3, 1) := by decide +kernel
theorem dX5_rate_8 : decode cX5_rate 8 = .ok (.ifCond .ne 7, 3) := by decide +kernel
theorem dX5_rate_11 : decode cX5_rate 11 = .ok (.iconst 1, 1) := by decide +kernel
theorem dX5_rate_12 : decode cX5_rate 12 = .ok (.goto 31, 3) := by decide +kernel
theorem dX5_rate_15 : decode cX5_rate 15 = .ok (.iload_n 2, 1) := by decide +kernel
theorem dX5_rate_16 : decode cX5_rate 16 = .ok (.iconst 0, 1) := by decide +kernel
theorem dX5_rate_17 : decode cX5_rate 17 = .ok (.bipush 60, 2) := by decide +kernel
theorem dX5_rate_19 : decode cX5_rate 19 = .ok (.invokestatic 84, 3) := by decide +kernel
theorem dX5_rate_22 : decode cX5_rate 22 = .ok (.ifCond .ne 7, 3) := by decide +kernel
theorem dX5_rate_25 : decode cX5_rate 25 = .ok (.iconst 2, 1) := by decide +kernel
theorem dX5_rate_26 : decode cX5_rate 26 = .ok (.goto 17, 3) := by decide +kernel
theorem dX5_rate_29 : decode cX5_rate 29 = .ok (.aload_n 0, 1) := by decide +kernel
theorem dX5_rate_30 : decode cX5_rate 30 = .ok (.getfield 62, 3) := by decide +kernel
theorem dX5_rate_33 : decode cX5_rate 33 = .ok (.iload_n 1, 1) := by decide +kernel
theorem dX5_rate_34 : decode cX5_rate 34 = .ok (.baload, 1) := by decide +kernel
theorem dX5_rate_35 : decode cX5_rate 35 = .ok (.ifCond .eq 7, 3) := by decide +kernel
theorem dX5_rate_38 : decode cX5_rate 38 = .ok (.iconst 3, 1) := by decide +kernel
theorem dX5_rate_39 : decode cX5_rate 39 = .ok (.goto 4, 3) := by decide +kernel
theorem dX5_rate_42 : decode cX5_rate 42 = .ok (.iconst 0, 1) := by decide +kernel
theorem dX5_rate_43 : decode cX5_rate 43 = .ok (.invokevirtual 91, 3) := by decide +kernel
theorem dX5_rate_46 : decode cX5_rate 46 = .ok (.ifCond .ne 5, 3) := by decide +kernel
theorem dX5_rate_49 : decode cX5_rate 49 = .ok (.iconst 0, 1) := by decide +kernel
theorem dX5_rate_50 : decode cX5_rate 50 = .ok (.ireturn, 1) := by decide +kernel
theorem dX5_rate_51 : decode cX5_rate 51 = .ok (.aload_n 0, 1) := by decide +kernel
theorem dX5_rate_52 : decode cX5_rate 52 = .ok (.getfield 56, 3) := by decide +kernel
theorem dX5_rate_55 : decode cX5_rate 55 = .ok (.iload_n 1, 1) := by decide +kernel
theorem dX5_rate_56 : decode cX5_rate 56 = .ok (.iaload, 1) := by decide +kernel
theorem dX5_rate_57 : decode cX5_rate 57 = .ok (.istore 4, 2) := by decide +kernel
theorem dX5_rate_59 : decode cX5_rate 59 = .ok (.aload_n 0, 1) := by decide +kernel
theorem dX5_rate_60 : decode cX5_rate 60 = .ok (.getfield 56, 3) := by decide +kernel
theorem dX5_rate_63 : decode cX5_rate 63 = .ok (.iload_n 1, 1) := by decide +kernel
theorem dX5_rate_64 : decode cX5_rate 64 = .ok (.iload_n 2, 1) := by decide +kernel
theorem dX5_rate_65 : decode cX5_rate 65 = .ok (.iastore, 1) := by decide +kernel
theorem dX5_rate_66 : decode cX5_rate 66 = .ok (.iload 4, 2) := by decide +kernel
theorem dX5_rate_68 : decode cX5_rate 68 = .ok (.ireturn, 1) := by decide +kernel
theorem dX5_end_0 : decode cX5_end 0 = .ok (.aload_n 0, 1) := by decide +kernel
theorem dX5_end_1 : decode cX5_end 1 = .ok (.iload_n 1, 1) := by decide +kernel
theorem dX5_end_2 : decode cX5_end 2 = .ok (.invokevirtual 127, 3) := by decide +kernel
theorem dX5_end_5 : decode cX5_end 5 = .ok (.istore_n 2, 1) := by decide +kernel
theorem dX5_end_6 : decode cX5_end 6 = .ok (.aload_n 0, 1) := by decide +kernel
theorem dX5_end_7 : decode cX5_end 7 = .ok (.iload_n 2, 1) := by decide +kernel
theorem dX5_end_8 : decode cX5_end 8 = .ok (.ifCond .ne 7, 3) := by decide +kernel
theorem dX5_end_11 : decode cX5_end 11 = .ok (.iconst 1, 1) := by decide +kernel
theorem dX5_end_12 : decode cX5_end 12 = .ok (.goto 17, 3) := by decide +kernel
theorem dX5_end_15 : decode cX5_end 15 = .ok (.aload_n 0, 1) := by decide +kernel
theorem dX5_end_16 : decode cX5_end 16 = .ok (.getfield 62, 3) := by decide +kernel
theorem dX5_end_19 : decode cX5_end 19 = .ok (.iload_n 1, 1) := by decide +kernel
theorem dX5_end_20 : decode cX5_end 20 = .ok (.baload, 1) := by decide +kernel
theorem dX5_end_21 : decode cX5_end 21 = .ok (.ifCond .eq 7, 3) := by decide +kernel
theorem dX5_end_24 : decode cX5_end 24 = .ok (.iconst 2, 1) := by decide +kernel
theorem dX5_end_25 : decode cX5_end 25 = .ok (.goto 4, 3) := by decide +kernel
theorem dX5_end_28 : decode cX5_end 28 = .ok (.iconst 0, 1) := by decide +kernel
theorem dX5_end_29 : decode cX5_end 29 = .ok (.invokevirtual 91, 3) := by decide +kernel
theorem dX5_end_32 : decode cX5_end 32 = .ok (.ifCond .eq 10, 3) := by decide +kernel
theorem dX5_end_35 : decode cX5_end 35 = .ok (.aload_n 0, 1) := by decide +kernel
theorem dX5_end_36 : decode cX5_end 36 = .ok (.getfield 62, 3) := by decide +kernel
theorem dX5_end_39 : decode cX5_end 39 = .ok (.iload_n 1, 1) := by decide +kernel
theorem dX5_end_40 : decode cX5_end 40 = .ok (.iconst 1, 1) := by decide +kernel
theorem dX5_end_41 : decode cX5_end 41 = .ok (.bastore, 1) := by decide +kernel
theorem dX5_end_42 : decode cX5_end 42 = .ok (.return_, 1) := by decide +kernel
theorem dX5_begin_0 : decode cX5_begin 0 = .ok (.aload_n 0, 1) := by decide +kernel
theorem dX5_begin_1 : decode cX5_begin 1 = .ok (.getfield 50, 3) := by decide +kernel
theorem dX5_begin_4 : decode cX5_begin 4 = .ok (.iload_n 1, 1) := by decide +kernel
theorem dX5_begin_5 : decode cX5_begin 5 = .ok (.iaload, 1) := by decide +kernel
theorem dX5_begin_6 : decode cX5_begin 6 = .ok (.bipush 60, 2) := by decide +kernel
theorem dX5_begin_8 : decode cX5_begin 8 = .ok (.iload_n 2, 1) := by decide +kernel
theorem dX5_begin_9 : decode cX5_begin 9 = .ok (.imul, 1) := by decide +kernel
theorem dX5_begin_10 : decode cX5_begin 10 = .ok (.aload_n 0, 1) := by decide +kernel
theorem dX5_begin_11 : decode cX5_begin 11 = .ok (.getfield 56, 3) := by decide +kernel
theorem dX5_begin_14 : decode cX5_begin 14 = .ok (.iload_n 1, 1) := by decide +kernel
theorem dX5_begin_15 : decode cX5_begin 15 = .ok (.iaload, 1) := by decide +kernel
theorem dX5_begin_16 : decode cX5_begin 16 = .ok (.idiv, 1) := by decide +kernel
theorem dX5_begin_17 : decode cX5_begin 17 = .ok (.iadd, 1) := by decide +kernel
theorem dX5_begin_18 : decode cX5_begin 18 = .ok (.ireturn, 1) := by decide +kernel
theorem dX5_ending_0 : decode cX5_ending 0 = .ok (.iload_n 2, 1) := by decide +kernel
theorem dX5_ending_1 : decode cX5_ending 1 = .ok (.iconst 1, 1) := by decide +kernel
theorem dX5_ending_2 : decode cX5_ending 2 = .ok (.iadd, 1) := by decide +kernel
theorem dX5_ending_3 : decode cX5_ending 3 = .ok (.aload_n 0, 1) := by decide +kernel
theorem dX5_ending_4 : decode cX5_ending 4 = .ok (.getfield 130, 3) := by decide +kernel
theorem dX5_ending_7 : decode cX5_ending 7 = .ok (.if_icmp .ge 14, 3) := by decide +kernel
theorem dX5_ending_10 : decode cX5_ending 10 = .ok (.aload_n 0, 1) := by decide +kernel
theorem dX5_ending_11 : decode cX5_ending 11 = .ok (.iload_n 1, 1) := by decide +kernel
theorem dX5_ending_12 : decode cX5_ending 12 = .ok (.iload_n 2, 1) := by decide +kernel
theorem dX5_ending_13 : decode cX5_ending 13 = .ok (.iconst 1, 1) := by decide +kernel
theorem dX5_ending_14 : decode cX5_ending 14 = .ok (.iadd, 1) := by decide +kernel
theorem dX5_ending_15 : decode cX5_ending 15 = .ok (.invokevirtual 133, 3) := by decide +kernel
theorem dX5_ending_18 : decode cX5_ending 18 = .ok (.goto 9, 3) := by decide +kernel
theorem dX5_ending_21 : decode cX5_ending 21 = .ok (.aload_n 0, 1) := by decide +kernel
theorem dX5_ending_22 : decode cX5_ending 22 = .ok (.getfield 53, 3) := by decide +kernel
theorem dX5_ending_25 : decode cX5_ending 25 = .ok (.iload_n 1, 1) := by decide +kernel
theorem dX5_ending_26 : decode cX5_ending 26 = .ok (.iaload, 1) := by decide +kernel
theorem dX5_ending_27 : decode cX5_ending 27 = .ok (.ireturn, 1) := by decide +kernel
theorem dX5_timeOf_0 : decode cX5_timeOf 0 = .ok (.aload_n 0, 1) := by decide +kernel
theorem dX5_timeOf_1 : decode cX5_timeOf 1 = .ok (.getfield 47, 3) := by decide +kernel
theorem dX5_timeOf_4 : decode cX5_timeOf 4 = .ok (.iload_n 1, 1) := by decide +kernel
theorem dX5_timeOf_5 : decode cX5_timeOf 5 = .ok (.iaload, 1) := by decide +kernel
theorem dX5_timeOf_6 : decode cX5_timeOf 6 = .ok (.istore 4, 2) := by decide +kernel
theorem dX5_timeOf_8 : decode cX5_timeOf 8 = .ok (.aload_n 0, 1) := by decide +kernel
theorem dX5_timeOf_9 : decode cX5_timeOf 9 = .ok (.iload_n 2, 1) := by decide +kernel
theorem dX5_timeOf_10 : decode cX5_timeOf 10 = .ok (.iload 4, 2) := by decide +kernel
theorem dX5_timeOf_12 : decode cX5_timeOf 12 = .ok (.invokevirtual 105, 3) := by decide +kernel
theorem dX5_timeOf_15 : decode cX5_timeOf 15 = .ok (.ifCond .ne 5, 3) := by decide +kernel
theorem dX5_timeOf_18 : decode cX5_timeOf 18 = .ok (.iconst (-1), 1) := by decide +kernel
theorem dX5_timeOf_19 : decode cX5_timeOf 19 = .ok (.ireturn, 1) := by decide +kernel
theorem dX5_timeOf_20 : decode cX5_timeOf 20 = .ok (.iload_n 3, 1) := by decide +kernel
theorem dX5_timeOf_21 : decode cX5_timeOf 21 = .ok (.ifCond .eq 39, 3) := by decide +kernel
theorem dX5_timeOf_24 : decode cX5_timeOf 24 = .ok (.aload_n 0, 1) := by decide +kernel
theorem dX5_timeOf_25 : decode cX5_timeOf 25 = .ok (.getfield 16, 3) := by decide +kernel
theorem dX5_timeOf_28 : decode cX5_timeOf 28 = .ok (.iload_n 2, 1) := by decide +kernel
theorem dX5_timeOf_29 : decode cX5_timeOf 29 = .ok (.iaload, 1) := by decide +kernel
theorem dX5_timeOf_30 : decode cX5_timeOf 30 = .ok (.iconst 1, 1) := by decide +kernel
theorem dX5_timeOf_31 : decode cX5_timeOf 31 = .ok (.if_icmp .eq 21, 3) := by decide +kernel
theorem dX5_timeOf_34 : decode cX5_timeOf 34 = .ok (.aload_n 0, 1) := by decide +kernel
theorem dX5_timeOf_35 : decode cX5_timeOf 35 = .ok (.getfield 16, 3) := by decide +kernel
theorem dX5_timeOf_38 : decode cX5_timeOf 38 = .ok (.iload_n 2, 1) := by decide +kernel
theorem dX5_timeOf_39 : decode cX5_timeOf 39 = .ok (.iaload, 1) := by decide +kernel
theorem dX5_timeOf_40 : decode cX5_timeOf 40 = .ok (.ifCond .ne 16, 3) := by decide +kernel
theorem dX5_timeOf_43 : decode cX5_timeOf 43 = .ok (.aload_n 0, 1) := by decide +kernel
theorem dX5_timeOf_44 : decode cX5_timeOf 44 = .ok (.getfield 37, 3) := by decide +kernel
theorem dX5_timeOf_47 : decode cX5_timeOf 47 = .ok (.iload_n 2, 1) := by decide +kernel
theorem dX5_timeOf_48 : decode cX5_timeOf 48 = .ok (.baload, 1) := by decide +kernel
theorem dX5_timeOf_49 : decode cX5_timeOf 49 = .ok (.ifCond .eq 7, 3) := by decide +kernel
theorem dX5_timeOf_52 : decode cX5_timeOf 52 = .ok (.iconst 1, 1) := by decide +kernel
theorem dX5_timeOf_53 : decode cX5_timeOf 53 = .ok (.goto 30, 3) := by decide +kernel
theorem dX5_timeOf_56 : decode cX5_timeOf 56 = .ok (.iconst 0, 1) := by decide +kernel
theorem dX5_timeOf_57 : decode cX5_timeOf 57 = .ok (.goto 26, 3) := by decide +kernel
theorem dX5_timeOf_60 : decode cX5_timeOf 60 = .ok (.aload_n 0, 1) := by decide +kernel
theorem dX5_timeOf_61 : decode cX5_timeOf 61 = .ok (.getfield 16, 3) := by decide +kernel
theorem dX5_timeOf_64 : decode cX5_timeOf 64 = .ok (.iload_n 2, 1) := by decide +kernel
theorem dX5_timeOf_65 : decode cX5_timeOf 65 = .ok (.iaload, 1) := by decide +kernel
theorem dX5_timeOf_66 : decode cX5_timeOf 66 = .ok (.ifCond .ne 16, 3) := by decide +kernel
theorem dX5_timeOf_69 : decode cX5_timeOf 69 = .ok (.aload_n 0, 1) := by decide +kernel
theorem dX5_timeOf_70 : decode cX5_timeOf 70 = .ok (.getfield 37, 3) := by decide +kernel
theorem dX5_timeOf_73 : decode cX5_timeOf 73 = .ok (.iload_n 2, 1) := by decide +kernel
theorem dX5_timeOf_74 : decode cX5_timeOf 74 = .ok (.baload, 1) := by decide +kernel
theorem dX5_timeOf_75 : decode cX5_timeOf 75 = .ok (.ifCond .ne 7, 3) := by decide +kernel
theorem dX5_timeOf_78 : decode cX5_timeOf 78 = .ok (.iconst 1, 1) := by decide +kernel
theorem dX5_timeOf_79 : decode cX5_timeOf 79 = .ok (.goto 4, 3) := by decide +kernel
theorem dX5_timeOf_82 : decode cX5_timeOf 82 = .ok (.iconst 0, 1) := by decide +kernel
theorem dX5_timeOf_83 : decode cX5_timeOf 83 = .ok (.istore 5, 2) := by decide +kernel
theorem dX5_timeOf_85 : decode cX5_timeOf 85 = .ok (.aload_n 0, 1) := by decide +kernel
theorem dX5_timeOf_86 : decode cX5_timeOf 86 = .ok (.getfield 16, 3) := by decide +kernel
theorem dX5_timeOf_89 : decode cX5_timeOf 89 = .ok (.iload_n 2, 1) := by decide +kernel
theorem dX5_timeOf_90 : decode cX5_timeOf 90 = .ok (.iaload, 1) := by decide +kernel
theorem dX5_timeOf_91 : decode cX5_timeOf 91 = .ok (.iconst 1, 1) := by decide +kernel
theorem dX5_timeOf_92 : decode cX5_timeOf 92 = .ok (.if_icmp .ne 13, 3) := by decide +kernel
theorem dX5_timeOf_95 : decode cX5_timeOf 95 = .ok (.aload_n 0, 1) := by decide +kernel
theorem dX5_timeOf_96 : decode cX5_timeOf 96 = .ok (.iload_n 2, 1) := by decide +kernel
theorem dX5_timeOf_97 : decode cX5_timeOf 97 = .ok (.iload 4, 2) := by decide +kernel
theorem dX5_timeOf_99 : decode cX5_timeOf 99 = .ok (.invokevirtual 109, 3) := by decide +kernel
theorem dX5_timeOf_102 : decode cX5_timeOf 102 = .ok (.goto 10, 3) := by decide +kernel
theorem dX5_timeOf_105 : decode cX5_timeOf 105 = .ok (.aload_n 0, 1) := by decide +kernel
theorem dX5_timeOf_106 : decode cX5_timeOf 106 = .ok (.iload_n 2, 1) := by decide +kernel
theorem dX5_timeOf_107 : decode cX5_timeOf 107 = .ok (.iload 4, 2) := by decide +kernel
theorem dX5_timeOf_109 : decode cX5_timeOf 109 = .ok (.invokevirtual 136, 3) := by decide +kernel
theorem dX5_timeOf_112 : decode cX5_timeOf 112 = .ok (.istore 6, 2) := by decide +kernel
theorem dX5_timeOf_114 : decode cX5_timeOf 114 = .ok (.iload 5, 2) := by decide +kernel
theorem dX5_timeOf_116 : decode cX5_timeOf 116 = .ok (.ifCond .eq 30, 3) := by decide +kernel
theorem dX5_timeOf_119 : decode cX5_timeOf 119 = .ok (.iload 6, 2) := by decide +kernel
theorem dX5_timeOf_121 : decode cX5_timeOf 121 = .ok (.aload_n 0, 1) := by decide +kernel
theorem dX5_timeOf_122 : decode cX5_timeOf 122 = .ok (.getfield 50, 3) := by decide +kernel
theorem dX5_timeOf_125 : decode cX5_timeOf 125 = .ok (.iload_n 1, 1) := by decide +kernel
theorem dX5_timeOf_126 : decode cX5_timeOf 126 = .ok (.iaload, 1) := by decide +kernel
theorem dX5_timeOf_127 : decode cX5_timeOf 127 = .ok (.if_icmp .lt 19, 3) := by decide +kernel
theorem dX5_timeOf_130 : decode cX5_timeOf 130 = .ok (.iload 6, 2) := by decide +kernel
theorem dX5_timeOf_132 : decode cX5_timeOf 132 = .ok (.aload_n 0, 1) := by decide +kernel
theorem dX5_timeOf_133 : decode cX5_timeOf 133 = .ok (.getfield 53, 3) := by decide +kernel
theorem dX5_timeOf_136 : decode cX5_timeOf 136 = .ok (.iload_n 1, 1) := by decide +kernel
theorem dX5_timeOf_137 : decode cX5_timeOf 137 = .ok (.iaload, 1) := by decide +kernel
theorem dX5_timeOf_138 : decode cX5_timeOf 138 = .ok (.if_icmp .ge 8, 3) := by decide +kernel
theorem dX5_timeOf_141 : decode cX5_timeOf 141 = .ok (.iload 6, 2) := by decide +kernel
theorem dX5_timeOf_143 : decode cX5_timeOf 143 = .ok (.goto 4, 3) := by decide +kernel
theorem dX5_timeOf_146 : decode cX5_timeOf 146 = .ok (.iconst (-1), 1) := by decide +kernel
theorem dX5_timeOf_147 : decode cX5_timeOf 147 = .ok (.ireturn, 1) := by decide +kernel
theorem dX5_nextOf_0 : decode cX5_nextOf 0 = .ok (.iconst (-1), 1) := by decide +kernel
theorem dX5_nextOf_1 : decode cX5_nextOf 1 = .ok (.istore 4, 2) := by decide +kernel
theorem dX5_nextOf_3 : decode cX5_nextOf 3 = .ok (.iconst 0, 1) := by decide +kernel
theorem dX5_nextOf_4 : decode cX5_nextOf 4 = .ok (.istore 5, 2) := by decide +kernel
theorem dX5_nextOf_6 : decode cX5_nextOf 6 = .ok (.iload 5, 2) := by decide +kernel
theorem dX5_nextOf_8 : decode cX5_nextOf 8 = .ok (.aload_n 0, 1) := by decide +kernel
theorem dX5_nextOf_9 : decode cX5_nextOf 9 = .ok (.getfield 81, 3) := by decide +kernel
theorem dX5_nextOf_12 : decode cX5_nextOf 12 = .ok (.if_icmp .ge 77, 3) := by decide +kernel
theorem dX5_nextOf_15 : decode cX5_nextOf 15 = .ok (.aload_n 0, 1) := by decide +kernel
theorem dX5_nextOf_16 : decode cX5_nextOf 16 = .ok (.iload_n 1, 1) := by decide +kernel
theorem dX5_nextOf_17 : decode cX5_nextOf 17 = .ok (.iload 5, 2) := by decide +kernel
theorem dX5_nextOf_19 : decode cX5_nextOf 19 = .ok (.iload_n 3, 1) := by decide +kernel
theorem dX5_nextOf_20 : decode cX5_nextOf 20 = .ok (.invokevirtual 139, 3) := by decide +kernel
theorem dX5_nextOf_23 : decode cX5_nextOf 23 = .ok (.istore 6, 2) := by decide +kernel
theorem dX5_nextOf_25 : decode cX5_nextOf 25 = .ok (.iload 6, 2) := by decide +kernel
theorem dX5_nextOf_27 : decode cX5_nextOf 27 = .ok (.iconst (-1), 1) := by decide +kernel
theorem dX5_nextOf_28 : decode cX5_nextOf 28 = .ok (.if_icmp .eq 19, 3) := by decide +kernel
theorem dX5_nextOf_31 : decode cX5_nextOf 31 = .ok (.bipush 24, 2) := by decide +kernel
theorem dX5_nextOf_33 : decode cX5_nextOf 33 = .ok (.iload 6, 2) := by decide +kernel
theorem dX5_nextOf_35 : decode cX5_nextOf 35 = .ok (.imul, 1) := by decide +kernel
theorem dX5_nextOf_36 : decode cX5_nextOf 36 = .ok (.iload 5, 2) := by decide +kernel
theorem dX5_nextOf_38 : decode cX5_nextOf 38 = .ok (.iadd, 1) := by decide +kernel
theorem dX5_nextOf_39 : decode cX5_nextOf 39 = .ok (.iload_n 2, 1) := by decide +kernel
theorem dX5_nextOf_40 : decode cX5_nextOf 40 = .ok (.if_icmp .le 7, 3) := by decide +kernel
theorem dX5_nextOf_43 : decode cX5_nextOf 43 = .ok (.iconst 1, 1) := by decide +kernel
theorem dX5_nextOf_44 : decode cX5_nextOf 44 = .ok (.goto 4, 3) := by decide +kernel
theorem dX5_nextOf_47 : decode cX5_nextOf 47 = .ok (.iconst 0, 1) := by decide +kernel
theorem dX5_nextOf_48 : decode cX5_nextOf 48 = .ok (.istore 7, 2) := by decide +kernel
theorem dX5_nextOf_50 : decode cX5_nextOf 50 = .ok (.iload 7, 2) := by decide +kernel
theorem dX5_nextOf_52 : decode cX5_nextOf 52 = .ok (.ifCond .eq 27, 3) := by decide +kernel
theorem dX5_nextOf_55 : decode cX5_nextOf 55 = .ok (.iload 4, 2) := by decide +kernel
theorem dX5_nextOf_57 : decode cX5_nextOf 57 = .ok (.iconst (-1), 1) := by decide +kernel
theorem dX5_nextOf_58 : decode cX5_nextOf 58 = .ok (.if_icmp .eq 16, 3) := by decide +kernel
theorem dX5_nextOf_61 : decode cX5_nextOf 61 = .ok (.iload 6, 2) := by decide +kernel
theorem dX5_nextOf_63 : decode cX5_nextOf 63 = .ok (.aload_n 0, 1) := by decide +kernel
theorem dX5_nextOf_64 : decode cX5_nextOf 64 = .ok (.iload_n 1, 1) := by decide +kernel
theorem dX5_nextOf_65 : decode cX5_nextOf 65 = .ok (.iload 4, 2) := by decide +kernel
theorem dX5_nextOf_67 : decode cX5_nextOf 67 = .ok (.iload_n 3, 1) := by decide +kernel
theorem dX5_nextOf_68 : decode cX5_nextOf 68 = .ok (.invokevirtual 139, 3) := by decide +kernel
theorem dX5_nextOf_71 : decode cX5_nextOf 71 = .ok (.if_icmp .ge 8, 3) := by decide +kernel
theorem dX5_nextOf_74 : decode cX5_nextOf 74 = .ok (.iload 5, 2) := by decide +kernel
theorem dX5_nextOf_76 : decode cX5_nextOf 76 = .ok (.goto 5, 3) := by decide +kernel
theorem dX5_nextOf_79 : decode cX5_nextOf 79 = .ok (.iload 4, 2) := by decide +kernel
theorem dX5_nextOf_81 : decode cX5_nextOf 81 = .ok (.istore 4, 2) := by decide +kernel
theorem dX5_nextOf_83 : decode cX5_nextOf 83 = .ok (.iinc 5 1, 3) := by decide +kernel
theorem dX5_nextOf_86 : decode cX5_nextOf 86 = .ok (.goto (-80), 3) := by decide +kernel
theorem dX5_nextOf_89 : decode cX5_nextOf 89 = .ok (.iload 4, 2) := by decide +kernel
theorem dX5_nextOf_91 : decode cX5_nextOf 91 = .ok (.ireturn, 1) := by decide +kernel
theorem dX5_takes_0 : decode cX5_takes 0 = .ok (.iconst 0, 1) := by decide +kernel
theorem dX5_takes_1 : decode cX5_takes 1 = .ok (.istore_n 3, 1) := by decide +kernel
theorem dX5_takes_2 : decode cX5_takes 2 = .ok (.iload_n 3, 1) := by decide +kernel
theorem dX5_takes_3 : decode cX5_takes 3 = .ok (.aload_n 0, 1) := by decide +kernel
theorem dX5_takes_4 : decode cX5_takes 4 = .ok (.getfield 130, 3) := by decide +kernel
theorem dX5_takes_7 : decode cX5_takes 7 = .ok (.if_icmp .ge 47, 3) := by decide +kernel
theorem dX5_takes_10 : decode cX5_takes 10 = .ok (.aload_n 0, 1) := by decide +kernel
theorem dX5_takes_11 : decode cX5_takes 11 = .ok (.getfield 71, 3) := by decide +kernel
theorem dX5_takes_14 : decode cX5_takes 14 = .ok (.iload_n 3, 1) := by decide +kernel
theorem dX5_takes_15 : decode cX5_takes 15 = .ok (.baload, 1) := by decide +kernel
theorem dX5_takes_16 : decode cX5_takes 16 = .ok (.ifCond .ne 32, 3) := by decide +kernel
theorem dX5_takes_19 : decode cX5_takes 19 = .ok (.aload_n 0, 1) := by decide +kernel
theorem dX5_takes_20 : decode cX5_takes 20 = .ok (.iload_n 1, 1) := by decide +kernel
theorem dX5_takes_21 : decode cX5_takes 21 = .ok (.iload_n 3, 1) := by decide +kernel
theorem dX5_takes_22 : decode cX5_takes 22 = .ok (.invokevirtual 143, 3) := by decide +kernel
theorem dX5_takes_25 : decode cX5_takes 25 = .ok (.iload_n 2, 1) := by decide +kernel
theorem dX5_takes_26 : decode cX5_takes 26 = .ok (.if_icmp .le 22, 3) := by decide +kernel
theorem dX5_takes_29 : decode cX5_takes 29 = .ok (.aload_n 0, 1) := by decide +kernel
theorem dX5_takes_30 : decode cX5_takes 30 = .ok (.getfield 71, 3) := by decide +kernel
theorem dX5_takes_33 : decode cX5_takes 33 = .ok (.iload_n 3, 1) := by decide +kernel
theorem dX5_takes_34 : decode cX5_takes 34 = .ok (.iconst 1, 1) := by decide +kernel
theorem dX5_takes_35 : decode cX5_takes 35 = .ok (.bastore, 1) := by decide +kernel
theorem dX5_takes_36 : decode cX5_takes 36 = .ok (.aload_n 0, 1) := by decide +kernel
theorem dX5_takes_37 : decode cX5_takes 37 = .ok (.dup, 1) := by decide +kernel
theorem dX5_takes_38 : decode cX5_takes 38 = .ok (.getfield 146, 3) := by decide +kernel
theorem dX5_takes_41 : decode cX5_takes 41 = .ok (.iconst 1, 1) := by decide +kernel
theorem dX5_takes_42 : decode cX5_takes 42 = .ok (.isub, 1) := by decide +kernel
theorem dX5_takes_43 : decode cX5_takes 43 = .ok (.putfield 146, 3) := by decide +kernel
theorem dX5_takes_46 : decode cX5_takes 46 = .ok (.iload_n 3, 1) := by decide +kernel
theorem dX5_takes_47 : decode cX5_takes 47 = .ok (.ireturn, 1) := by decide +kernel
theorem dX5_takes_48 : decode cX5_takes 48 = .ok (.iinc 3 1, 3) := by decide +kernel
theorem dX5_takes_51 : decode cX5_takes 51 = .ok (.goto (-49), 3) := by decide +kernel
theorem dX5_takes_54 : decode cX5_takes 54 = .ok (.iconst (-1), 1) := by decide +kernel
theorem dX5_takes_55 : decode cX5_takes 55 = .ok (.ireturn, 1) := by decide +kernel
theorem dX5_dealt_0 : decode cX5_dealt 0 = .ok (.aload_n 0, 1) := by decide +kernel
theorem dX5_dealt_1 : decode cX5_dealt 1 = .ok (.iconst 0, 1) := by decide +kernel
theorem dX5_dealt_2 : decode cX5_dealt 2 = .ok (.putfield 130, 3) := by decide +kernel
theorem dX5_dealt_5 : decode cX5_dealt 5 = .ok (.aload_n 0, 1) := by decide +kernel
theorem dX5_dealt_6 : decode cX5_dealt 6 = .ok (.getfield 56, 3) := by decide +kernel
theorem dX5_dealt_9 : decode cX5_dealt 9 = .ok (.iload_n 1, 1) := by decide +kernel
theorem dX5_dealt_10 : decode cX5_dealt 10 = .ok (.iaload, 1) := by decide +kernel
theorem dX5_dealt_11 : decode cX5_dealt 11 = .ok (.ifCond .le 44, 3) := by decide +kernel
theorem dX5_dealt_14 : decode cX5_dealt 14 = .ok (.aload_n 0, 1) := by decide +kernel
theorem dX5_dealt_15 : decode cX5_dealt 15 = .ok (.iload_n 1, 1) := by decide +kernel
theorem dX5_dealt_16 : decode cX5_dealt 16 = .ok (.aload_n 0, 1) := by decide +kernel
theorem dX5_dealt_17 : decode cX5_dealt 17 = .ok (.getfield 130, 3) := by decide +kernel
theorem dX5_dealt_20 : decode cX5_dealt 20 = .ok (.invokevirtual 133, 3) := by decide +kernel
theorem dX5_dealt_23 : decode cX5_dealt 23 = .ok (.aload_n 0, 1) := by decide +kernel
theorem dX5_dealt_24 : decode cX5_dealt 24 = .ok (.getfield 53, 3) := by decide +kernel
theorem dX5_dealt_27 : decode cX5_dealt 27 = .ok (.iload_n 1, 1) := by decide +kernel
theorem dX5_dealt_28 : decode cX5_dealt 28 = .ok (.iaload, 1) := by decide +kernel
theorem dX5_dealt_29 : decode cX5_dealt 29 = .ok (.if_icmp .ge 26, 3) := by decide +kernel
theorem dX5_dealt_32 : decode cX5_dealt 32 = .ok (.aload_n 0, 1) := by decide +kernel
theorem dX5_dealt_33 : decode cX5_dealt 33 = .ok (.getfield 71, 3) := by decide +kernel
theorem dX5_dealt_36 : decode cX5_dealt 36 = .ok (.aload_n 0, 1) := by decide +kernel
theorem dX5_dealt_37 : decode cX5_dealt 37 = .ok (.getfield 130, 3) := by decide +kernel
theorem dX5_dealt_40 : decode cX5_dealt 40 = .ok (.iconst 0, 1) := by decide +kernel
theorem dX5_dealt_41 : decode cX5_dealt 41 = .ok (.bastore, 1) := by decide +kernel
theorem dX5_dealt_42 : decode cX5_dealt 42 = .ok (.aload_n 0, 1) := by decide +kernel
theorem dX5_dealt_43 : decode cX5_dealt 43 = .ok (.dup, 1) := by decide +kernel
theorem dX5_dealt_44 : decode cX5_dealt 44 = .ok (.getfield 130, 3) := by decide +kernel
theorem dX5_dealt_47 : decode cX5_dealt 47 = .ok (.iconst 1, 1) := by decide +kernel
theorem dX5_dealt_48 : decode cX5_dealt 48 = .ok (.iadd, 1) := by decide +kernel
theorem dX5_dealt_49 : decode cX5_dealt 49 = .ok (.putfield 130, 3) := by decide +kernel
theorem dX5_dealt_52 : decode cX5_dealt 52 = .ok (.goto (-47), 3) := by decide +kernel
theorem dX5_dealt_55 : decode cX5_dealt 55 = .ok (.aload_n 0, 1) := by decide +kernel
theorem dX5_dealt_56 : decode cX5_dealt 56 = .ok (.aload_n 0, 1) := by decide +kernel
theorem dX5_dealt_57 : decode cX5_dealt 57 = .ok (.getfield 130, 3) := by decide +kernel
theorem dX5_dealt_60 : decode cX5_dealt 60 = .ok (.putfield 146, 3) := by decide +kernel
theorem dX5_dealt_63 : decode cX5_dealt 63 = .ok (.aload_n 0, 1) := by decide +kernel
theorem dX5_dealt_64 : decode cX5_dealt 64 = .ok (.iconst 0, 1) := by decide +kernel
theorem dX5_dealt_65 : decode cX5_dealt 65 = .ok (.putfield 149, 3) := by decide +kernel
theorem dX5_dealt_68 : decode cX5_dealt 68 = .ok (.aload_n 0, 1) := by decide +kernel
theorem dX5_dealt_69 : decode cX5_dealt 69 = .ok (.iconst 0, 1) := by decide +kernel
theorem dX5_dealt_70 : decode cX5_dealt 70 = .ok (.putfield 152, 3) := by decide +kernel
theorem dX5_dealt_73 : decode cX5_dealt 73 = .ok (.aload_n 0, 1) := by decide +kernel
theorem dX5_dealt_74 : decode cX5_dealt 74 = .ok (.iconst 0, 1) := by decide +kernel
theorem dX5_dealt_75 : decode cX5_dealt 75 = .ok (.putfield 155, 3) := by decide +kernel
theorem dX5_dealt_78 : decode cX5_dealt 78 = .ok (.iconst 0, 1) := by decide +kernel
theorem dX5_dealt_79 : decode cX5_dealt 79 = .ok (.istore_n 2, 1) := by decide +kernel
theorem dX5_dealt_80 : decode cX5_dealt 80 = .ok (.iload_n 2, 1) := by decide +kernel
theorem dX5_dealt_81 : decode cX5_dealt 81 = .ok (.bipush 24, 2) := by decide +kernel
theorem dX5_dealt_83 : decode cX5_dealt 83 = .ok (.if_icmp .ge 21, 3) := by decide +kernel
theorem dX5_dealt_86 : decode cX5_dealt 86 = .ok (.aload_n 0, 1) := by decide +kernel
theorem dX5_dealt_87 : decode cX5_dealt 87 = .ok (.getfield 74, 3) := by decide +kernel
theorem dX5_dealt_90 : decode cX5_dealt 90 = .ok (.bipush 24, 2) := by decide +kernel
theorem dX5_dealt_92 : decode cX5_dealt 92 = .ok (.iload_n 1, 1) := by decide +kernel
theorem dX5_dealt_93 : decode cX5_dealt 93 = .ok (.imul, 1) := by decide +kernel
theorem dX5_dealt_94 : decode cX5_dealt 94 = .ok (.iload_n 2, 1) := by decide +kernel
theorem dX5_dealt_95 : decode cX5_dealt 95 = .ok (.iadd, 1) := by decide +kernel
theorem dX5_dealt_96 : decode cX5_dealt 96 = .ok (.iconst (-1), 1) := by decide +kernel
theorem dX5_dealt_97 : decode cX5_dealt 97 = .ok (.iastore, 1) := by decide +kernel
theorem dX5_dealt_98 : decode cX5_dealt 98 = .ok (.iinc 2 1, 3) := by decide +kernel
theorem dX5_dealt_101 : decode cX5_dealt 101 = .ok (.goto (-21), 3) := by decide +kernel
theorem dX5_dealt_104 : decode cX5_dealt 104 = .ok (.aload_n 0, 1) := by decide +kernel
theorem dX5_dealt_105 : decode cX5_dealt 105 = .ok (.iload_n 1, 1) := by decide +kernel
theorem dX5_dealt_106 : decode cX5_dealt 106 = .ok (.iconst (-1), 1) := by decide +kernel
theorem dX5_dealt_107 : decode cX5_dealt 107 = .ok (.iconst 1, 1) := by decide +kernel
theorem dX5_dealt_108 : decode cX5_dealt 108 = .ok (.invokevirtual 158, 3) := by decide +kernel
theorem dX5_dealt_111 : decode cX5_dealt 111 = .ok (.istore_n 2, 1) := by decide +kernel
theorem dX5_dealt_112 : decode cX5_dealt 112 = .ok (.iload_n 2, 1) := by decide +kernel
theorem dX5_dealt_113 : decode cX5_dealt 113 = .ok (.iconst (-1), 1) := by decide +kernel
theorem dX5_dealt_114 : decode cX5_dealt 114 = .ok (.if_icmp .eq 44, 3) := by decide +kernel
theorem dX5_dealt_117 : decode cX5_dealt 117 = .ok (.aload_n 0, 1) := by decide +kernel
theorem dX5_dealt_118 : decode cX5_dealt 118 = .ok (.iload_n 1, 1) := by decide +kernel
theorem dX5_dealt_119 : decode cX5_dealt 119 = .ok (.iload_n 2, 1) := by decide +kernel
theorem dX5_dealt_120 : decode cX5_dealt 120 = .ok (.iconst 1, 1) := by decide +kernel
theorem dX5_dealt_121 : decode cX5_dealt 121 = .ok (.invokevirtual 139, 3) := by decide +kernel
theorem dX5_dealt_124 : decode cX5_dealt 124 = .ok (.istore_n 3, 1) := by decide +kernel
theorem dX5_dealt_125 : decode cX5_dealt 125 = .ok (.aload_n 0, 1) := by decide +kernel
theorem dX5_dealt_126 : decode cX5_dealt 126 = .ok (.dup, 1) := by decide +kernel
theorem dX5_dealt_127 : decode cX5_dealt 127 = .ok (.getfield 149, 3) := by decide +kernel
theorem dX5_dealt_130 : decode cX5_dealt 130 = .ok (.iconst 1, 1) := by decide +kernel
theorem dX5_dealt_131 : decode cX5_dealt 131 = .ok (.iadd, 1) := by decide +kernel
theorem dX5_dealt_132 : decode cX5_dealt 132 = .ok (.putfield 149, 3) := by decide +kernel
theorem dX5_dealt_135 : decode cX5_dealt 135 = .ok (.aload_n 0, 1) := by decide +kernel
theorem dX5_dealt_136 : decode cX5_dealt 136 = .ok (.iload_n 1, 1) := by decide +kernel
theorem dX5_dealt_137 : decode cX5_dealt 137 = .ok (.iload_n 3, 1) := by decide +kernel
theorem dX5_dealt_138 : decode cX5_dealt 138 = .ok (.invokevirtual 161, 3) := by decide +kernel
theorem dX5_dealt_141 : decode cX5_dealt 141 = .ok (.pop, 1) := by decide +kernel
theorem dX5_dealt_142 : decode cX5_dealt 142 = .ok (.aload_n 0, 1) := by decide +kernel
theorem dX5_dealt_143 : decode cX5_dealt 143 = .ok (.iload_n 1, 1) := by decide +kernel
theorem dX5_dealt_144 : decode cX5_dealt 144 = .ok (.bipush 24, 2) := by decide +kernel
theorem dX5_dealt_146 : decode cX5_dealt 146 = .ok (.iload_n 3, 1) := by decide +kernel
theorem dX5_dealt_147 : decode cX5_dealt 147 = .ok (.imul, 1) := by decide +kernel
theorem dX5_dealt_148 : decode cX5_dealt 148 = .ok (.iload_n 2, 1) := by decide +kernel
theorem dX5_dealt_149 : decode cX5_dealt 149 = .ok (.iadd, 1) := by decide +kernel
theorem dX5_dealt_150 : decode cX5_dealt 150 = .ok (.iconst 1, 1) := by decide +kernel
theorem dX5_dealt_151 : decode cX5_dealt 151 = .ok (.invokevirtual 158, 3) := by decide +kernel
theorem dX5_dealt_154 : decode cX5_dealt 154 = .ok (.istore_n 2, 1) := by decide +kernel
theorem dX5_dealt_155 : decode cX5_dealt 155 = .ok (.goto (-43), 3) := by decide +kernel
theorem dX5_dealt_158 : decode cX5_dealt 158 = .ok (.aload_n 0, 1) := by decide +kernel
theorem dX5_dealt_159 : decode cX5_dealt 159 = .ok (.iload_n 1, 1) := by decide +kernel
theorem dX5_dealt_160 : decode cX5_dealt 160 = .ok (.iconst (-1), 1) := by decide +kernel
theorem dX5_dealt_161 : decode cX5_dealt 161 = .ok (.iconst 0, 1) := by decide +kernel
theorem dX5_dealt_162 : decode cX5_dealt 162 = .ok (.invokevirtual 158, 3) := by decide +kernel
theorem dX5_dealt_165 : decode cX5_dealt 165 = .ok (.istore_n 2, 1) := by decide +kernel
theorem dX5_dealt_166 : decode cX5_dealt 166 = .ok (.iload_n 2, 1) := by decide +kernel
theorem dX5_dealt_167 : decode cX5_dealt 167 = .ok (.iconst (-1), 1) := by decide +kernel
theorem dX5_dealt_168 : decode cX5_dealt 168 = .ok (.if_icmp .eq 119, 3) := by decide +kernel
theorem dX5_dealt_171 : decode cX5_dealt 171 = .ok (.aload_n 0, 1) := by decide +kernel
theorem dX5_dealt_172 : decode cX5_dealt 172 = .ok (.iload_n 1, 1) := by decide +kernel
theorem dX5_dealt_173 : decode cX5_dealt 173 = .ok (.iload_n 2, 1) := by decide +kernel
theorem dX5_dealt_174 : decode cX5_dealt 174 = .ok (.iconst 0, 1) := by decide +kernel
theorem dX5_dealt_175 : decode cX5_dealt 175 = .ok (.invokevirtual 139, 3) := by decide +kernel
theorem dX5_dealt_178 : decode cX5_dealt 178 = .ok (.istore_n 3, 1) := by decide +kernel
theorem dX5_dealt_179 : decode cX5_dealt 179 = .ok (.aload_n 0, 1) := by decide +kernel
theorem dX5_dealt_180 : decode cX5_dealt 180 = .ok (.iload_n 1, 1) := by decide +kernel
theorem dX5_dealt_181 : decode cX5_dealt 181 = .ok (.iload_n 3, 1) := by decide +kernel
theorem dX5_dealt_182 : decode cX5_dealt 182 = .ok (.invokevirtual 161, 3) := by decide +kernel
theorem dX5_dealt_185 : decode cX5_dealt 185 = .ok (.istore 4, 2) := by decide +kernel
theorem dX5_dealt_187 : decode cX5_dealt 187 = .ok (.iload 4, 2) := by decide +kernel
theorem dX5_dealt_189 : decode cX5_dealt 189 = .ok (.iconst (-1), 1) := by decide +kernel
theorem dX5_dealt_190 : decode cX5_dealt 190 = .ok (.if_icmp .ne 12, 3) := by decide +kernel
theorem dX5_dealt_193 : decode cX5_dealt 193 = .ok (.aload_n 0, 1) := by decide +kernel
theorem dX5_dealt_194 : decode cX5_dealt 194 = .ok (.getfield 53, 3) := by decide +kernel
theorem dX5_dealt_197 : decode cX5_dealt 197 = .ok (.iload_n 1, 1) := by decide +kernel
theorem dX5_dealt_198 : decode cX5_dealt 198 = .ok (.iaload, 1) := by decide +kernel
theorem dX5_dealt_199 : decode cX5_dealt 199 = .ok (.goto 25, 3) := by decide +kernel
theorem dX5_dealt_202 : decode cX5_dealt 202 = .ok (.aload_n 0, 1) := by decide +kernel
theorem dX5_dealt_203 : decode cX5_dealt 203 = .ok (.iload_n 1, 1) := by decide +kernel
theorem dX5_dealt_204 : decode cX5_dealt 204 = .ok (.iload 4, 2) := by decide +kernel
theorem dX5_dealt_206 : decode cX5_dealt 206 = .ok (.invokevirtual 133, 3) := by decide +kernel
theorem dX5_dealt_209 : decode cX5_dealt 209 = .ok (.iload_n 3, 1) := by decide +kernel
theorem dX5_dealt_210 : decode cX5_dealt 210 = .ok (.if_icmp .le 13, 3) := by decide +kernel
theorem dX5_dealt_213 : decode cX5_dealt 213 = .ok (.aload_n 0, 1) := by decide +kernel
theorem dX5_dealt_214 : decode cX5_dealt 214 = .ok (.iload_n 1, 1) := by decide +kernel
theorem dX5_dealt_215 : decode cX5_dealt 215 = .ok (.iload 4, 2) := by decide +kernel
theorem dX5_dealt_217 : decode cX5_dealt 217 = .ok (.invokevirtual 133, 3) := by decide +kernel
theorem dX5_dealt_220 : decode cX5_dealt 220 = .ok (.goto 4, 3) := by decide +kernel
theorem dX5_dealt_223 : decode cX5_dealt 223 = .ok (.iload_n 3, 1) := by decide +kernel
theorem dX5_dealt_224 : decode cX5_dealt 224 = .ok (.istore 5, 2) := by decide +kernel
theorem dX5_dealt_226 : decode cX5_dealt 226 = .ok (.aload_n 0, 1) := by decide +kernel
theorem dX5_dealt_227 : decode cX5_dealt 227 = .ok (.dup, 1) := by decide +kernel
theorem dX5_dealt_228 : decode cX5_dealt 228 = .ok (.getfield 152, 3) := by decide +kernel
theorem dX5_dealt_231 : decode cX5_dealt 231 = .ok (.iconst 1, 1) := by decide +kernel
theorem dX5_dealt_232 : decode cX5_dealt 232 = .ok (.iadd, 1) := by decide +kernel
theorem dX5_dealt_233 : decode cX5_dealt 233 = .ok (.putfield 152, 3) := by decide +kernel
theorem dX5_dealt_236 : decode cX5_dealt 236 = .ok (.aload_n 0, 1) := by decide +kernel
theorem dX5_dealt_237 : decode cX5_dealt 237 = .ok (.dup, 1) := by decide +kernel
theorem dX5_dealt_238 : decode cX5_dealt 238 = .ok (.getfield 155, 3) := by decide +kernel
theorem dX5_dealt_241 : decode cX5_dealt 241 = .ok (.iload 4, 2) := by decide +kernel
theorem dX5_dealt_243 : decode cX5_dealt 243 = .ok (.iconst (-1), 1) := by decide +kernel
theorem dX5_dealt_244 : decode cX5_dealt 244 = .ok (.if_icmp .ne 7, 3) := by decide +kernel
theorem dX5_dealt_247 : decode cX5_dealt 247 = .ok (.iconst 1, 1) := by decide +kernel
theorem dX5_dealt_248 : decode cX5_dealt 248 = .ok (.goto 4, 3) := by decide +kernel
theorem dX5_dealt_251 : decode cX5_dealt 251 = .ok (.iconst 0, 1) := by decide +kernel
theorem dX5_dealt_252 : decode cX5_dealt 252 = .ok (.iadd, 1) := by decide +kernel
theorem dX5_dealt_253 : decode cX5_dealt 253 = .ok (.putfield 155, 3) := by decide +kernel
theorem dX5_dealt_256 : decode cX5_dealt 256 = .ok (.aload_n 0, 1) := by decide +kernel
theorem dX5_dealt_257 : decode cX5_dealt 257 = .ok (.getfield 74, 3) := by decide +kernel
theorem dX5_dealt_260 : decode cX5_dealt 260 = .ok (.bipush 24, 2) := by decide +kernel
theorem dX5_dealt_262 : decode cX5_dealt 262 = .ok (.iload_n 1, 1) := by decide +kernel
theorem dX5_dealt_263 : decode cX5_dealt 263 = .ok (.imul, 1) := by decide +kernel
theorem dX5_dealt_264 : decode cX5_dealt 264 = .ok (.iload_n 2, 1) := by decide +kernel
theorem dX5_dealt_265 : decode cX5_dealt 265 = .ok (.iadd, 1) := by decide +kernel
theorem dX5_dealt_266 : decode cX5_dealt 266 = .ok (.iload 5, 2) := by decide +kernel
theorem dX5_dealt_268 : decode cX5_dealt 268 = .ok (.iload_n 3, 1) := by decide +kernel
theorem dX5_dealt_269 : decode cX5_dealt 269 = .ok (.isub, 1) := by decide +kernel
theorem dX5_dealt_270 : decode cX5_dealt 270 = .ok (.iastore, 1) := by decide +kernel
theorem dX5_dealt_271 : decode cX5_dealt 271 = .ok (.aload_n 0, 1) := by decide +kernel
theorem dX5_dealt_272 : decode cX5_dealt 272 = .ok (.iload_n 1, 1) := by decide +kernel
theorem dX5_dealt_273 : decode cX5_dealt 273 = .ok (.bipush 24, 2) := by decide +kernel
theorem dX5_dealt_275 : decode cX5_dealt 275 = .ok (.iload_n 3, 1) := by decide +kernel
theorem dX5_dealt_276 : decode cX5_dealt 276 = .ok (.imul, 1) := by decide +kernel
theorem dX5_dealt_277 : decode cX5_dealt 277 = .ok (.iload_n 2, 1) := by decide +kernel
theorem dX5_dealt_278 : decode cX5_dealt 278 = .ok (.iadd, 1) := by decide +kernel
theorem dX5_dealt_279 : decode cX5_dealt 279 = .ok (.iconst 0, 1) := by decide +kernel
theorem dX5_dealt_280 : decode cX5_dealt 280 = .ok (.invokevirtual 158, 3) := by decide +kernel
theorem dX5_dealt_283 : decode cX5_dealt 283 = .ok (.istore_n 2, 1) := by decide +kernel
theorem dX5_dealt_284 : decode cX5_dealt 284 = .ok (.goto (-118), 3) := by decide +kernel
theorem dX5_dealt_287 : decode cX5_dealt 287 = .ok (.return_, 1) := by decide +kernel
theorem dX5_regulationIs_0 : decode cX5_regulationIs 0 = .ok (.aload_n 0, 1) := by decide +kernel
theorem dX5_regulationIs_1 : decode cX5_regulationIs 1 = .ok (.aload_n 0, 1) := by decide +kernel
theorem dX5_regulationIs_2 : decode cX5_regulationIs 2 = .ok (.iload_n 1, 1) := by decide +kernel
theorem dX5_regulationIs_3 : decode cX5_regulationIs 3 = .ok (.invokevirtual 127, 3) := by decide +kernel
theorem dX5_regulationIs_6 : decode cX5_regulationIs 6 = .ok (.ifCond .ne 7, 3) := by decide +kernel
theorem dX5_regulationIs_9 : decode cX5_regulationIs 9 = .ok (.iconst 1, 1) := by decide +kernel
theorem dX5_regulationIs_10 : decode cX5_regulationIs 10 = .ok (.goto 18, 3) := by decide +kernel
theorem dX5_regulationIs_13 : decode cX5_regulationIs 13 = .ok (.iload_n 2, 1) := by decide +kernel
theorem dX5_regulationIs_14 : decode cX5_regulationIs 14 = .ok (.iconst 0, 1) := by decide +kernel
theorem dX5_regulationIs_15 : decode cX5_regulationIs 15 = .ok (.bipush 6, 2) := by decide +kernel
theorem dX5_regulationIs_17 : decode cX5_regulationIs 17 = .ok (.invokestatic 84, 3) := by decide +kernel
theorem dX5_regulationIs_20 : decode cX5_regulationIs 20 = .ok (.ifCond .eq 7, 3) := by decide +kernel
theorem dX5_regulationIs_23 : decode cX5_regulationIs 23 = .ok (.iconst 0, 1) := by decide +kernel
theorem dX5_regulationIs_24 : decode cX5_regulationIs 24 = .ok (.goto 4, 3) := by decide +kernel
theorem dX5_regulationIs_27 : decode cX5_regulationIs 27 = .ok (.iconst 2, 1) := by decide +kernel
theorem dX5_regulationIs_28 : decode cX5_regulationIs 28 = .ok (.invokevirtual 91, 3) := by decide +kernel
theorem dX5_regulationIs_31 : decode cX5_regulationIs 31 = .ok (.ifCond .ne 5, 3) := by decide +kernel
theorem dX5_regulationIs_34 : decode cX5_regulationIs 34 = .ok (.iconst 0, 1) := by decide +kernel
theorem dX5_regulationIs_35 : decode cX5_regulationIs 35 = .ok (.ireturn, 1) := by decide +kernel
theorem dX5_regulationIs_36 : decode cX5_regulationIs 36 = .ok (.iload_n 2, 1) := by decide +kernel
theorem dX5_regulationIs_37 : decode cX5_regulationIs 37 = .ok (.iconst 4, 1) := by decide +kernel
theorem dX5_regulationIs_38 : decode cX5_regulationIs 38 = .ok (.if_icmp .le 24, 3) := by decide +kernel
theorem dX5_regulationIs_41 : decode cX5_regulationIs 41 = .ok (.iload_n 2, 1) := by decide +kernel
theorem dX5_regulationIs_42 : decode cX5_regulationIs 42 = .ok (.iconst 5, 1) := by decide +kernel
theorem dX5_regulationIs_43 : decode cX5_regulationIs 43 = .ok (.if_icmp .ne 12, 3) := by decide +kernel
theorem dX5_regulationIs_46 : decode cX5_regulationIs 46 = .ok (.aload_n 0, 1) := by decide +kernel
theorem dX5_regulationIs_47 : decode cX5_regulationIs 47 = .ok (.getfield 56, 3) := by decide +kernel
theorem dX5_regulationIs_50 : decode cX5_regulationIs 50 = .ok (.iload_n 1, 1) := by decide +kernel
theorem dX5_regulationIs_51 : decode cX5_regulationIs 51 = .ok (.iaload, 1) := by decide +kernel
theorem dX5_regulationIs_52 : decode cX5_regulationIs 52 = .ok (.goto 9, 3) := by decide +kernel
theorem dX5_regulationIs_55 : decode cX5_regulationIs 55 = .ok (.aload_n 0, 1) := by decide +kernel
theorem dX5_regulationIs_56 : decode cX5_regulationIs 56 = .ok (.getfield 59, 3) := by decide +kernel
theorem dX5_regulationIs_59 : decode cX5_regulationIs 59 = .ok (.iload_n 1, 1) := by decide +kernel
theorem dX5_regulationIs_60 : decode cX5_regulationIs 60 = .ok (.iaload, 1) := by decide +kernel
theorem dX5_regulationIs_61 : decode cX5_regulationIs 61 = .ok (.ireturn, 1) := by decide +kernel
theorem dX5_regulationIs_62 : decode cX5_regulationIs 62 = .ok (.aload_n 0, 1) := by decide +kernel
theorem dX5_regulationIs_63 : decode cX5_regulationIs 63 = .ok (.getfield 62, 3) := by decide +kernel
theorem dX5_regulationIs_66 : decode cX5_regulationIs 66 = .ok (.iload_n 1, 1) := by decide +kernel
theorem dX5_regulationIs_67 : decode cX5_regulationIs 67 = .ok (.baload, 1) := by decide +kernel
theorem dX5_regulationIs_68 : decode cX5_regulationIs 68 = .ok (.ifCond .eq 5, 3) := by decide +kernel
theorem dX5_regulationIs_71 : decode cX5_regulationIs 71 = .ok (.iconst 0, 1) := by decide +kernel
theorem dX5_regulationIs_72 : decode cX5_regulationIs 72 = .ok (.ireturn, 1) := by decide +kernel
theorem dX5_regulationIs_73 : decode cX5_regulationIs 73 = .ok (.aload_n 0, 1) := by decide +kernel
theorem dX5_regulationIs_74 : decode cX5_regulationIs 74 = .ok (.iload_n 1, 1) := by decide +kernel
theorem dX5_regulationIs_75 : decode cX5_regulationIs 75 = .ok (.invokevirtual 164, 3) := by decide +kernel
theorem dX5_regulationIs_78 : decode cX5_regulationIs 78 = .ok (.iload_n 2, 1) := by decide +kernel
theorem dX5_regulationIs_79 : decode cX5_regulationIs 79 = .ok (.ifCond .ne 10, 3) := by decide +kernel
theorem dX5_regulationIs_82 : decode cX5_regulationIs 82 = .ok (.aload_n 0, 1) := by decide +kernel
theorem dX5_regulationIs_83 : decode cX5_regulationIs 83 = .ok (.getfield 130, 3) := by decide +kernel
theorem dX5_regulationIs_86 : decode cX5_regulationIs 86 = .ok (.goto 43, 3) := by decide +kernel
theorem dX5_regulationIs_89 : decode cX5_regulationIs 89 = .ok (.iload_n 2, 1) := by decide +kernel
theorem dX5_regulationIs_90 : decode cX5_regulationIs 90 = .ok (.iconst 1, 1) := by decide +kernel
theorem dX5_regulationIs_91 : decode cX5_regulationIs 91 = .ok (.if_icmp .ne 10, 3) := by decide +kernel
theorem dX5_regulationIs_94 : decode cX5_regulationIs 94 = .ok (.aload_n 0, 1) := by decide +kernel
theorem dX5_regulationIs_95 : decode cX5_regulationIs 95 = .ok (.getfield 146, 3) := by decide +kernel
theorem dX5_regulationIs_98 : decode cX5_regulationIs 98 = .ok (.goto 31, 3) := by decide +kernel
theorem dX5_regulationIs_101 : decode cX5_regulationIs 101 = .ok (.iload_n 2, 1) := by decide +kernel
theorem dX5_regulationIs_102 : decode cX5_regulationIs 102 = .ok (.iconst 2, 1) := by decide +kernel
theorem dX5_regulationIs_103 : decode cX5_regulationIs 103 = .ok (.if_icmp .ne 10, 3) := by decide +kernel
theorem dX5_regulationIs_106 : decode cX5_regulationIs 106 = .ok (.aload_n 0, 1) := by decide +kernel
theorem dX5_regulationIs_107 : decode cX5_regulationIs 107 = .ok (.getfield 149, 3) := by decide +kernel
theorem dX5_regulationIs_110 : decode cX5_regulationIs 110 = .ok (.goto 19, 3) := by decide +kernel
theorem dX5_regulationIs_113 : decode cX5_regulationIs 113 = .ok (.iload_n 2, 1) := by decide +kernel
theorem dX5_regulationIs_114 : decode cX5_regulationIs 114 = .ok (.iconst 3, 1) := by decide +kernel
theorem dX5_regulationIs_115 : decode cX5_regulationIs 115 = .ok (.if_icmp .ne 10, 3) := by decide +kernel
theorem dX5_regulationIs_118 : decode cX5_regulationIs 118 = .ok (.aload_n 0, 1) := by decide +kernel
theorem dX5_regulationIs_119 : decode cX5_regulationIs 119 = .ok (.getfield 152, 3) := by decide +kernel
theorem dX5_regulationIs_122 : decode cX5_regulationIs 122 = .ok (.goto 7, 3) := by decide +kernel
theorem dX5_regulationIs_125 : decode cX5_regulationIs 125 = .ok (.aload_n 0, 1) := by decide +kernel
theorem dX5_regulationIs_126 : decode cX5_regulationIs 126 = .ok (.getfield 155, 3) := by decide +kernel
theorem dX5_regulationIs_129 : decode cX5_regulationIs 129 = .ok (.ireturn, 1) := by decide +kernel
theorem dX5_slot_0 : decode cX5_slot 0 = .ok (.aload_n 0, 1) := by decide +kernel
theorem dX5_slot_1 : decode cX5_slot 1 = .ok (.aload_n 0, 1) := by decide +kernel
theorem dX5_slot_2 : decode cX5_slot 2 = .ok (.iload_n 1, 1) := by decide +kernel
theorem dX5_slot_3 : decode cX5_slot 3 = .ok (.invokevirtual 127, 3) := by decide +kernel
theorem dX5_slot_6 : decode cX5_slot 6 = .ok (.ifCond .eq 11, 3) := by decide +kernel
theorem dX5_slot_9 : decode cX5_slot 9 = .ok (.iload_n 2, 1) := by decide +kernel
theorem dX5_slot_10 : decode cX5_slot 10 = .ok (.ifCond .lt 7, 3) := by decide +kernel
theorem dX5_slot_13 : decode cX5_slot 13 = .ok (.iconst 0, 1) := by decide +kernel
theorem dX5_slot_14 : decode cX5_slot 14 = .ok (.goto 4, 3) := by decide +kernel
theorem dX5_slot_17 : decode cX5_slot 17 = .ok (.iconst 1, 1) := by decide +kernel
theorem dX5_slot_18 : decode cX5_slot 18 = .ok (.invokevirtual 91, 3) := by decide +kernel
theorem dX5_slot_21 : decode cX5_slot 21 = .ok (.ifCond .ne 5, 3) := by decide +kernel
theorem dX5_slot_24 : decode cX5_slot 24 = .ok (.iconst 0, 1) := by decide +kernel
theorem dX5_slot_25 : decode cX5_slot 25 = .ok (.ireturn, 1) := by decide +kernel
theorem dX5_slot_26 : decode cX5_slot 26 = .ok (.aload_n 0, 1) := by decide +kernel
theorem dX5_slot_27 : decode cX5_slot 27 = .ok (.getfield 62, 3) := by decide +kernel
theorem dX5_slot_30 : decode cX5_slot 30 = .ok (.iload_n 1, 1) := by decide +kernel
theorem dX5_slot_31 : decode cX5_slot 31 = .ok (.baload, 1) := by decide +kernel
theorem dX5_slot_32 : decode cX5_slot 32 = .ok (.ifCond .eq 5, 3) := by decide +kernel
theorem dX5_slot_35 : decode cX5_slot 35 = .ok (.iconst (-1), 1) := by decide +kernel
theorem dX5_slot_36 : decode cX5_slot 36 = .ok (.ireturn, 1) := by decide +kernel
theorem dX5_slot_37 : decode cX5_slot 37 = .ok (.aload_n 0, 1) := by decide +kernel
theorem dX5_slot_38 : decode cX5_slot 38 = .ok (.iload_n 1, 1) := by decide +kernel
theorem dX5_slot_39 : decode cX5_slot 39 = .ok (.invokevirtual 164, 3) := by decide +kernel
theorem dX5_slot_42 : decode cX5_slot 42 = .ok (.iload_n 2, 1) := by decide +kernel
theorem dX5_slot_43 : decode cX5_slot 43 = .ok (.aload_n 0, 1) := by decide +kernel
theorem dX5_slot_44 : decode cX5_slot 44 = .ok (.getfield 130, 3) := by decide +kernel
theorem dX5_slot_47 : decode cX5_slot 47 = .ok (.if_icmp .ge 12, 3) := by decide +kernel
theorem dX5_slot_50 : decode cX5_slot 50 = .ok (.aload_n 0, 1) := by decide +kernel
theorem dX5_slot_51 : decode cX5_slot 51 = .ok (.iload_n 1, 1) := by decide +kernel
theorem dX5_slot_52 : decode cX5_slot 52 = .ok (.iload_n 2, 1) := by decide +kernel
theorem dX5_slot_53 : decode cX5_slot 53 = .ok (.invokevirtual 133, 3) := by decide +kernel
theorem dX5_slot_56 : decode cX5_slot 56 = .ok (.goto 4, 3) := by decide +kernel
theorem dX5_slot_59 : decode cX5_slot 59 = .ok (.iconst (-1), 1) := by decide +kernel
theorem dX5_slot_60 : decode cX5_slot 60 = .ok (.ireturn, 1) := by decide +kernel
theorem dX5_penalty_0 : decode cX5_penalty 0 = .ok (.aload_n 0, 1) := by decide +kernel
theorem dX5_penalty_1 : decode cX5_penalty 1 = .ok (.aload_n 0, 1) := by decide +kernel
theorem dX5_penalty_2 : decode cX5_penalty 2 = .ok (.iload_n 1, 1) := by decide +kernel
theorem dX5_penalty_3 : decode cX5_penalty 3 = .ok (.invokevirtual 95, 3) := by decide +kernel
theorem dX5_penalty_6 : decode cX5_penalty 6 = .ok (.ifCond .eq 15, 3) := by decide +kernel
theorem dX5_penalty_9 : decode cX5_penalty 9 = .ok (.aload_n 0, 1) := by decide +kernel
theorem dX5_penalty_10 : decode cX5_penalty 10 = .ok (.iload_n 2, 1) := by decide +kernel
theorem dX5_penalty_11 : decode cX5_penalty 11 = .ok (.invokevirtual 127, 3) := by decide +kernel
theorem dX5_penalty_14 : decode cX5_penalty 14 = .ok (.ifCond .eq 7, 3) := by decide +kernel
theorem dX5_penalty_17 : decode cX5_penalty 17 = .ok (.iconst 0, 1) := by decide +kernel
theorem dX5_penalty_18 : decode cX5_penalty 18 = .ok (.goto 4, 3) := by decide +kernel
theorem dX5_penalty_21 : decode cX5_penalty 21 = .ok (.iconst 1, 1) := by decide +kernel
theorem dX5_penalty_22 : decode cX5_penalty 22 = .ok (.invokevirtual 91, 3) := by decide +kernel
theorem dX5_penalty_25 : decode cX5_penalty 25 = .ok (.ifCond .ne 5, 3) := by decide +kernel
theorem dX5_penalty_28 : decode cX5_penalty 28 = .ok (.iconst 0, 1) := by decide +kernel
theorem dX5_penalty_29 : decode cX5_penalty 29 = .ok (.ireturn, 1) := by decide +kernel
theorem dX5_penalty_30 : decode cX5_penalty 30 = .ok (.aload_n 0, 1) := by decide +kernel
theorem dX5_penalty_31 : decode cX5_penalty 31 = .ok (.getfield 62, 3) := by decide +kernel
theorem dX5_penalty_34 : decode cX5_penalty 34 = .ok (.iload_n 2, 1) := by decide +kernel
theorem dX5_penalty_35 : decode cX5_penalty 35 = .ok (.baload, 1) := by decide +kernel
theorem dX5_penalty_36 : decode cX5_penalty 36 = .ok (.ifCond .eq 5, 3) := by decide +kernel
theorem dX5_penalty_39 : decode cX5_penalty 39 = .ok (.iconst (-1), 1) := by decide +kernel
theorem dX5_penalty_40 : decode cX5_penalty 40 = .ok (.ireturn, 1) := by decide +kernel
theorem dX5_penalty_41 : decode cX5_penalty 41 = .ok (.aload_n 0, 1) := by decide +kernel
theorem dX5_penalty_42 : decode cX5_penalty 42 = .ok (.iload_n 2, 1) := by decide +kernel
theorem dX5_penalty_43 : decode cX5_penalty 43 = .ok (.invokevirtual 164, 3) := by decide +kernel
theorem dX5_penalty_46 : decode cX5_penalty 46 = .ok (.aload_n 0, 1) := by decide +kernel
theorem dX5_penalty_47 : decode cX5_penalty 47 = .ok (.getfield 74, 3) := by decide +kernel
theorem dX5_penalty_50 : decode cX5_penalty 50 = .ok (.bipush 24, 2) := by decide +kernel
theorem dX5_penalty_52 : decode cX5_penalty 52 = .ok (.iload_n 2, 1) := by decide +kernel
theorem dX5_penalty_53 : decode cX5_penalty 53 = .ok (.imul, 1) := by decide +kernel
theorem dX5_penalty_54 : decode cX5_penalty 54 = .ok (.iload_n 1, 1) := by decide +kernel
theorem dX5_penalty_55 : decode cX5_penalty 55 = .ok (.iadd, 1) := by decide +kernel
theorem dX5_penalty_56 : decode cX5_penalty 56 = .ok (.iaload, 1) := by decide +kernel
theorem dX5_penalty_57 : decode cX5_penalty 57 = .ok (.ireturn, 1) := by decide +kernel
theorem dX5_dealAll_0 : decode cX5_dealAll 0 = .ok (.iconst 0, 1) := by decide +kernel
theorem dX5_dealAll_1 : decode cX5_dealAll 1 = .ok (.istore_n 2, 1) := by decide +kernel
theorem dX5_dealAll_2 : decode cX5_dealAll 2 = .ok (.iload_n 2, 1) := by decide +kernel
theorem dX5_dealAll_3 : decode cX5_dealAll 3 = .ok (.iload_n 1, 1) := by decide +kernel
theorem dX5_dealAll_4 : decode cX5_dealAll 4 = .ok (.if_icmp .ge 23, 3) := by decide +kernel
theorem dX5_dealAll_7 : decode cX5_dealAll 7 = .ok (.aload_n 0, 1) := by decide +kernel
theorem dX5_dealAll_8 : decode cX5_dealAll 8 = .ok (.getfield 62, 3) := by decide +kernel
theorem dX5_dealAll_11 : decode cX5_dealAll 11 = .ok (.iload_n 2, 1) := by decide +kernel
theorem dX5_dealAll_12 : decode cX5_dealAll 12 = .ok (.baload, 1) := by decide +kernel
theorem dX5_dealAll_13 : decode cX5_dealAll 13 = .ok (.ifCond .ne 8, 3) := by decide +kernel
theorem dX5_dealAll_16 : decode cX5_dealAll 16 = .ok (.aload_n 0, 1) := by decide +kernel
theorem dX5_dealAll_17 : decode cX5_dealAll 17 = .ok (.iload_n 2, 1) := by decide +kernel
theorem dX5_dealAll_18 : decode cX5_dealAll 18 = .ok (.invokevirtual 164, 3) := by decide +kernel
theorem dX5_dealAll_21 : decode cX5_dealAll 21 = .ok (.iinc 2 1, 3) := by decide +kernel
theorem dX5_dealAll_24 : decode cX5_dealAll 24 = .ok (.goto (-22), 3) := by decide +kernel
theorem dX5_dealAll_27 : decode cX5_dealAll 27 = .ok (.return_, 1) := by decide +kernel
theorem dX5_dueBy_0 : decode cX5_dueBy 0 = .ok (.iconst (-1), 1) := by decide +kernel
theorem dX5_dueBy_1 : decode cX5_dueBy 1 = .ok (.istore_n 3, 1) := by decide +kernel
theorem dX5_dueBy_2 : decode cX5_dueBy 2 = .ok (.iconst 0, 1) := by decide +kernel
theorem dX5_dueBy_3 : decode cX5_dueBy 3 = .ok (.istore 4, 2) := by decide +kernel
theorem dX5_dueBy_5 : decode cX5_dueBy 5 = .ok (.iconst 0, 1) := by decide +kernel
theorem dX5_dueBy_6 : decode cX5_dueBy 6 = .ok (.istore 5, 2) := by decide +kernel
theorem dX5_dueBy_8 : decode cX5_dueBy 8 = .ok (.iload 5, 2) := by decide +kernel
theorem dX5_dueBy_10 : decode cX5_dueBy 10 = .ok (.iload_n 2, 1) := by decide +kernel
theorem dX5_dueBy_11 : decode cX5_dueBy 11 = .ok (.if_icmp .ge 79, 3) := by decide +kernel
theorem dX5_dueBy_14 : decode cX5_dueBy 14 = .ok (.aload_n 0, 1) := by decide +kernel
theorem dX5_dueBy_15 : decode cX5_dueBy 15 = .ok (.getfield 62, 3) := by decide +kernel
theorem dX5_dueBy_18 : decode cX5_dueBy 18 = .ok (.iload 5, 2) := by decide +kernel
theorem dX5_dueBy_20 : decode cX5_dueBy 20 = .ok (.baload, 1) := by decide +kernel
theorem dX5_dueBy_21 : decode cX5_dueBy 21 = .ok (.ifCond .ne 24, 3) := by decide +kernel
theorem dX5_dueBy_24 : decode cX5_dueBy 24 = .ok (.aload_n 0, 1) := by decide +kernel
theorem dX5_dueBy_25 : decode cX5_dueBy 25 = .ok (.getfield 74, 3) := by decide +kernel
theorem dX5_dueBy_28 : decode cX5_dueBy 28 = .ok (.bipush 24, 2) := by decide +kernel
theorem dX5_dueBy_30 : decode cX5_dueBy 30 = .ok (.iload 5, 2) := by decide +kernel
theorem dX5_dueBy_32 : decode cX5_dueBy 32 = .ok (.imul, 1) := by decide +kernel
theorem dX5_dueBy_33 : decode cX5_dueBy 33 = .ok (.iload_n 1, 1) := by decide +kernel
theorem dX5_dueBy_34 : decode cX5_dueBy 34 = .ok (.iadd, 1) := by decide +kernel
theorem dX5_dueBy_35 : decode cX5_dueBy 35 = .ok (.iaload, 1) := by decide +kernel
theorem dX5_dueBy_36 : decode cX5_dueBy 36 = .ok (.iload 4, 2) := by decide +kernel
theorem dX5_dueBy_38 : decode cX5_dueBy 38 = .ok (.if_icmp .le 7, 3) := by decide +kernel
theorem dX5_dueBy_41 : decode cX5_dueBy 41 = .ok (.iconst 1, 1) := by decide +kernel
theorem dX5_dueBy_42 : decode cX5_dueBy 42 = .ok (.goto 4, 3) := by decide +kernel
theorem dX5_dueBy_45 : decode cX5_dueBy 45 = .ok (.iconst 0, 1) := by decide +kernel
theorem dX5_dueBy_46 : decode cX5_dueBy 46 = .ok (.istore 6, 2) := by decide +kernel
theorem dX5_dueBy_48 : decode cX5_dueBy 48 = .ok (.iload 6, 2) := by decide +kernel
theorem dX5_dueBy_50 : decode cX5_dueBy 50 = .ok (.ifCond .eq 8, 3) := by decide +kernel
theorem dX5_dueBy_53 : decode cX5_dueBy 53 = .ok (.iload 5, 2) := by decide +kernel
theorem dX5_dueBy_55 : decode cX5_dueBy 55 = .ok (.goto 4, 3) := by decide +kernel
theorem dX5_dueBy_58 : decode cX5_dueBy 58 = .ok (.iload_n 3, 1) := by decide +kernel
theorem dX5_dueBy_59 : decode cX5_dueBy 59 = .ok (.istore_n 3, 1) := by decide +kernel
theorem dX5_dueBy_60 : decode cX5_dueBy 60 = .ok (.iload 6, 2) := by decide +kernel
theorem dX5_dueBy_62 : decode cX5_dueBy 62 = .ok (.ifCond .eq 18, 3) := by decide +kernel
theorem dX5_dueBy_65 : decode cX5_dueBy 65 = .ok (.aload_n 0, 1) := by decide +kernel
theorem dX5_dueBy_66 : decode cX5_dueBy 66 = .ok (.getfield 74, 3) := by decide +kernel
theorem dX5_dueBy_69 : decode cX5_dueBy 69 = .ok (.bipush 24, 2) := by decide +kernel
theorem dX5_dueBy_71 : decode cX5_dueBy 71 = .ok (.iload 5, 2) := by decide +kernel
theorem dX5_dueBy_73 : decode cX5_dueBy 73 = .ok (.imul, 1) := by decide +kernel
theorem dX5_dueBy_74 : decode cX5_dueBy 74 = .ok (.iload_n 1, 1) := by decide +kernel
theorem dX5_dueBy_75 : decode cX5_dueBy 75 = .ok (.iadd, 1) := by decide +kernel
theorem dX5_dueBy_76 : decode cX5_dueBy 76 = .ok (.iaload, 1) := by decide +kernel
theorem dX5_dueBy_77 : decode cX5_dueBy 77 = .ok (.goto 5, 3) := by decide +kernel
theorem dX5_dueBy_80 : decode cX5_dueBy 80 = .ok (.iload 4, 2) := by decide +kernel
theorem dX5_dueBy_82 : decode cX5_dueBy 82 = .ok (.istore 4, 2) := by decide +kernel
theorem dX5_dueBy_84 : decode cX5_dueBy 84 = .ok (.iinc 5 1, 3) := by decide +kernel
theorem dX5_dueBy_87 : decode cX5_dueBy 87 = .ok (.goto (-79), 3) := by decide +kernel
theorem dX5_dueBy_90 : decode cX5_dueBy 90 = .ok (.iload_n 3, 1) := by decide +kernel
theorem dX5_dueBy_91 : decode cX5_dueBy 91 = .ok (.ireturn, 1) := by decide +kernel
theorem dX5_dueOf_0 : decode cX5_dueOf 0 = .ok (.aload_n 0, 1) := by decide +kernel
theorem dX5_dueOf_1 : decode cX5_dueOf 1 = .ok (.iload_n 1, 1) := by decide +kernel
theorem dX5_dueOf_2 : decode cX5_dueOf 2 = .ok (.iload_n 2, 1) := by decide +kernel
theorem dX5_dueOf_3 : decode cX5_dueOf 3 = .ok (.invokevirtual 168, 3) := by decide +kernel
theorem dX5_dueOf_6 : decode cX5_dueOf 6 = .ok (.istore_n 3, 1) := by decide +kernel
theorem dX5_dueOf_7 : decode cX5_dueOf 7 = .ok (.iload_n 3, 1) := by decide +kernel
theorem dX5_dueOf_8 : decode cX5_dueOf 8 = .ok (.iconst (-1), 1) := by decide +kernel
theorem dX5_dueOf_9 : decode cX5_dueOf 9 = .ok (.if_icmp .ne 7, 3) := by decide +kernel
theorem dX5_dueOf_12 : decode cX5_dueOf 12 = .ok (.iconst 0, 1) := by decide +kernel
theorem dX5_dueOf_13 : decode cX5_dueOf 13 = .ok (.goto 14, 3) := by decide +kernel
theorem dX5_dueOf_16 : decode cX5_dueOf 16 = .ok (.aload_n 0, 1) := by decide +kernel
theorem dX5_dueOf_17 : decode cX5_dueOf 17 = .ok (.getfield 74, 3) := by decide +kernel
theorem dX5_dueOf_20 : decode cX5_dueOf 20 = .ok (.bipush 24, 2) := by decide +kernel
theorem dX5_dueOf_22 : decode cX5_dueOf 22 = .ok (.iload_n 3, 1) := by decide +kernel
theorem dX5_dueOf_23 : decode cX5_dueOf 23 = .ok (.imul, 1) := by decide +kernel
theorem dX5_dueOf_24 : decode cX5_dueOf 24 = .ok (.iload_n 1, 1) := by decide +kernel
theorem dX5_dueOf_25 : decode cX5_dueOf 25 = .ok (.iadd, 1) := by decide +kernel
theorem dX5_dueOf_26 : decode cX5_dueOf 26 = .ok (.iaload, 1) := by decide +kernel
theorem dX5_dueOf_27 : decode cX5_dueOf 27 = .ok (.ireturn, 1) := by decide +kernel
theorem dX5_due_0 : decode cX5_due 0 = .ok (.aload_n 0, 1) := by decide +kernel
theorem dX5_due_1 : decode cX5_due 1 = .ok (.aload_n 0, 1) := by decide +kernel
theorem dX5_due_2 : decode cX5_due 2 = .ok (.iload_n 1, 1) := by decide +kernel
theorem dX5_due_3 : decode cX5_due 3 = .ok (.invokevirtual 95, 3) := by decide +kernel
theorem dX5_due_6 : decode cX5_due 6 = .ok (.ifCond .eq 7, 3) := by decide +kernel
theorem dX5_due_9 : decode cX5_due 9 = .ok (.iconst 0, 1) := by decide +kernel
theorem dX5_due_10 : decode cX5_due 10 = .ok (.goto 4, 3) := by decide +kernel
theorem dX5_due_13 : decode cX5_due 13 = .ok (.iconst 1, 1) := by decide +kernel
theorem dX5_due_14 : decode cX5_due 14 = .ok (.invokevirtual 91, 3) := by decide +kernel
theorem dX5_due_17 : decode cX5_due 17 = .ok (.ifCond .ne 5, 3) := by decide +kernel
theorem dX5_due_20 : decode cX5_due 20 = .ok (.iconst 0, 1) := by decide +kernel
theorem dX5_due_21 : decode cX5_due 21 = .ok (.ireturn, 1) := by decide +kernel
theorem dX5_due_22 : decode cX5_due 22 = .ok (.aload_n 0, 1) := by decide +kernel
theorem dX5_due_23 : decode cX5_due 23 = .ok (.aload_n 0, 1) := by decide +kernel
theorem dX5_due_24 : decode cX5_due 24 = .ok (.getfield 88, 3) := by decide +kernel
theorem dX5_due_27 : decode cX5_due 27 = .ok (.invokevirtual 171, 3) := by decide +kernel
theorem dX5_due_30 : decode cX5_due 30 = .ok (.aload_n 0, 1) := by decide +kernel
theorem dX5_due_31 : decode cX5_due 31 = .ok (.iload_n 1, 1) := by decide +kernel
theorem dX5_due_32 : decode cX5_due 32 = .ok (.aload_n 0, 1) := by decide +kernel
theorem dX5_due_33 : decode cX5_due 33 = .ok (.getfield 88, 3) := by decide +kernel
theorem dX5_due_36 : decode cX5_due 36 = .ok (.invokevirtual 174, 3) := by decide +kernel
theorem dX5_due_39 : decode cX5_due 39 = .ok (.ireturn, 1) := by decide +kernel
theorem dX5_dueAnew_0 : decode cX5_dueAnew 0 = .ok (.aload_n 0, 1) := by decide +kernel
theorem dX5_dueAnew_1 : decode cX5_dueAnew 1 = .ok (.iload_n 1, 1) := by decide +kernel
theorem dX5_dueAnew_2 : decode cX5_dueAnew 2 = .ok (.invokevirtual 177, 3) := by decide +kernel
theorem dX5_dueAnew_5 : decode cX5_dueAnew 5 = .ok (.ireturn, 1) := by decide +kernel
theorem dX5_sumBy_0 : decode cX5_sumBy 0 = .ok (.aload_n 0, 1) := by decide +kernel
theorem dX5_sumBy_1 : decode cX5_sumBy 1 = .ok (.iload_n 1, 1) := by decide +kernel
theorem dX5_sumBy_2 : decode cX5_sumBy 2 = .ok (.invokevirtual 171, 3) := by decide +kernel
theorem dX5_sumBy_5 : decode cX5_sumBy 5 = .ok (.iconst 0, 1) := by decide +kernel
theorem dX5_sumBy_6 : decode cX5_sumBy 6 = .ok (.istore_n 2, 1) := by decide +kernel
theorem dX5_sumBy_7 : decode cX5_sumBy 7 = .ok (.iconst 0, 1) := by decide +kernel
theorem dX5_sumBy_8 : decode cX5_sumBy 8 = .ok (.istore_n 3, 1) := by decide +kernel
theorem dX5_sumBy_9 : decode cX5_sumBy 9 = .ok (.iload_n 3, 1) := by decide +kernel
theorem dX5_sumBy_10 : decode cX5_sumBy 10 = .ok (.aload_n 0, 1) := by decide +kernel
theorem dX5_sumBy_11 : decode cX5_sumBy 11 = .ok (.getfield 81, 3) := by decide +kernel
theorem dX5_sumBy_14 : decode cX5_sumBy 14 = .ok (.if_icmp .ge 18, 3) := by decide +kernel
theorem dX5_sumBy_17 : decode cX5_sumBy 17 = .ok (.iload_n 2, 1) := by decide +kernel
theorem dX5_sumBy_18 : decode cX5_sumBy 18 = .ok (.aload_n 0, 1) := by decide +kernel
theorem dX5_sumBy_19 : decode cX5_sumBy 19 = .ok (.iload_n 3, 1) := by decide +kernel
theorem dX5_sumBy_20 : decode cX5_sumBy 20 = .ok (.iload_n 1, 1) := by decide +kernel
theorem dX5_sumBy_21 : decode cX5_sumBy 21 = .ok (.invokevirtual 174, 3) := by decide +kernel
theorem dX5_sumBy_24 : decode cX5_sumBy 24 = .ok (.iadd, 1) := by decide +kernel
theorem dX5_sumBy_25 : decode cX5_sumBy 25 = .ok (.istore_n 2, 1) := by decide +kernel
theorem dX5_sumBy_26 : decode cX5_sumBy 26 = .ok (.iinc 3 1, 3) := by decide +kernel
theorem dX5_sumBy_29 : decode cX5_sumBy 29 = .ok (.goto (-20), 3) := by decide +kernel
theorem dX5_sumBy_32 : decode cX5_sumBy 32 = .ok (.iload_n 2, 1) := by decide +kernel
theorem dX5_sumBy_33 : decode cX5_sumBy 33 = .ok (.ireturn, 1) := by decide +kernel
theorem dX5_allDue_0 : decode cX5_allDue 0 = .ok (.aload_n 0, 1) := by decide +kernel
theorem dX5_allDue_1 : decode cX5_allDue 1 = .ok (.iconst 0, 1) := by decide +kernel
theorem dX5_allDue_2 : decode cX5_allDue 2 = .ok (.putfield 77, 3) := by decide +kernel
theorem dX5_allDue_5 : decode cX5_allDue 5 = .ok (.aload_n 0, 1) := by decide +kernel
theorem dX5_allDue_6 : decode cX5_allDue 6 = .ok (.aload_n 0, 1) := by decide +kernel
theorem dX5_allDue_7 : decode cX5_allDue 7 = .ok (.getfield 88, 3) := by decide +kernel
theorem dX5_allDue_10 : decode cX5_allDue 10 = .ok (.invokevirtual 180, 3) := by decide +kernel
theorem dX5_allDue_13 : decode cX5_allDue 13 = .ok (.ireturn, 1) := by decide +kernel
theorem dX5_would_0 : decode cX5_would 0 = .ok (.aload_n 0, 1) := by decide +kernel
theorem dX5_would_1 : decode cX5_would 1 = .ok (.iload_n 1, 1) := by decide +kernel
theorem dX5_would_2 : decode cX5_would 2 = .ok (.invokestatic 98, 3) := by decide +kernel
theorem dX5_would_5 : decode cX5_would 5 = .ok (.ifCond .ne 7, 3) := by decide +kernel
theorem dX5_would_8 : decode cX5_would 8 = .ok (.iconst 1, 1) := by decide +kernel
theorem dX5_would_9 : decode cX5_would 9 = .ok (.goto 18, 3) := by decide +kernel
theorem dX5_would_12 : decode cX5_would 12 = .ok (.iload_n 2, 1) := by decide +kernel
theorem dX5_would_13 : decode cX5_would 13 = .ok (.iload_n 3, 1) := by decide +kernel
theorem dX5_would_14 : decode cX5_would 14 = .ok (.iload 4, 2) := by decide +kernel
theorem dX5_would_16 : decode cX5_would 16 = .ok (.invokestatic 120, 3) := by decide +kernel
theorem dX5_would_19 : decode cX5_would 19 = .ok (.ifCond .eq 7, 3) := by decide +kernel
theorem dX5_would_22 : decode cX5_would 22 = .ok (.iconst 0, 1) := by decide +kernel
theorem dX5_would_23 : decode cX5_would 23 = .ok (.goto 4, 3) := by decide +kernel
theorem dX5_would_26 : decode cX5_would 26 = .ok (.iconst 2, 1) := by decide +kernel
theorem dX5_would_27 : decode cX5_would 27 = .ok (.invokevirtual 91, 3) := by decide +kernel
theorem dX5_would_30 : decode cX5_would 30 = .ok (.ifCond .ne 5, 3) := by decide +kernel
theorem dX5_would_33 : decode cX5_would 33 = .ok (.iconst 0, 1) := by decide +kernel
theorem dX5_would_34 : decode cX5_would 34 = .ok (.ireturn, 1) := by decide +kernel
theorem dX5_would_35 : decode cX5_would 35 = .ok (.aload_n 0, 1) := by decide +kernel
theorem dX5_would_36 : decode cX5_would 36 = .ok (.aload_n 0, 1) := by decide +kernel
theorem dX5_would_37 : decode cX5_would 37 = .ok (.getfield 88, 3) := by decide +kernel
theorem dX5_would_40 : decode cX5_would 40 = .ok (.iload_n 1, 1) := by decide +kernel
theorem dX5_would_41 : decode cX5_would 41 = .ok (.iload_n 2, 1) := by decide +kernel
theorem dX5_would_42 : decode cX5_would 42 = .ok (.iload_n 3, 1) := by decide +kernel
theorem dX5_would_43 : decode cX5_would 43 = .ok (.iload 4, 2) := by decide +kernel
theorem dX5_would_45 : decode cX5_would 45 = .ok (.invokevirtual 123, 3) := by decide +kernel
theorem dX5_would_48 : decode cX5_would 48 = .ok (.aload_n 0, 1) := by decide +kernel
theorem dX5_would_49 : decode cX5_would 49 = .ok (.aload_n 0, 1) := by decide +kernel
theorem dX5_would_50 : decode cX5_would 50 = .ok (.getfield 88, 3) := by decide +kernel
theorem dX5_would_53 : decode cX5_would 53 = .ok (.iconst 1, 1) := by decide +kernel
theorem dX5_would_54 : decode cX5_would 54 = .ok (.iadd, 1) := by decide +kernel
theorem dX5_would_55 : decode cX5_would 55 = .ok (.invokevirtual 180, 3) := by decide +kernel
theorem dX5_would_58 : decode cX5_would 58 = .ok (.ireturn, 1) := by decide +kernel
theorem dX5_deals_0 : decode cX5_deals 0 = .ok (.aload_n 0, 1) := by decide +kernel
theorem dX5_deals_1 : decode cX5_deals 1 = .ok (.iload_n 1, 1) := by decide +kernel
theorem dX5_deals_2 : decode cX5_deals 2 = .ok (.aload_n 0, 1) := by decide +kernel
theorem dX5_deals_3 : decode cX5_deals 3 = .ok (.getfield 88, 3) := by decide +kernel
theorem dX5_deals_6 : decode cX5_deals 6 = .ok (.invokevirtual 168, 3) := by decide +kernel
theorem dX5_deals_9 : decode cX5_deals 9 = .ok (.istore_n 3, 1) := by decide +kernel
theorem dX5_deals_10 : decode cX5_deals 10 = .ok (.iload_n 3, 1) := by decide +kernel
theorem dX5_deals_11 : decode cX5_deals 11 = .ok (.iconst (-1), 1) := by decide +kernel
theorem dX5_deals_12 : decode cX5_deals 12 = .ok (.if_icmp .ne 7, 3) := by decide +kernel
theorem dX5_deals_15 : decode cX5_deals 15 = .ok (.iconst (-1), 1) := by decide +kernel
theorem dX5_deals_16 : decode cX5_deals 16 = .ok (.goto 19, 3) := by decide +kernel
theorem dX5_deals_19 : decode cX5_deals 19 = .ok (.aload_n 0, 1) := by decide +kernel
theorem dX5_deals_20 : decode cX5_deals 20 = .ok (.getfield 13, 3) := by decide +kernel
theorem dX5_deals_23 : decode cX5_deals 23 = .ok (.iload_n 1, 1) := by decide +kernel
theorem dX5_deals_24 : decode cX5_deals 24 = .ok (.iaload, 1) := by decide +kernel
theorem dX5_deals_25 : decode cX5_deals 25 = .ok (.aload_n 0, 1) := by decide +kernel
theorem dX5_deals_26 : decode cX5_deals 26 = .ok (.iload_n 1, 1) := by decide +kernel
theorem dX5_deals_27 : decode cX5_deals 27 = .ok (.aload_n 0, 1) := by decide +kernel
theorem dX5_deals_28 : decode cX5_deals 28 = .ok (.getfield 88, 3) := by decide +kernel
theorem dX5_deals_31 : decode cX5_deals 31 = .ok (.invokevirtual 174, 3) := by decide +kernel
theorem dX5_deals_34 : decode cX5_deals 34 = .ok (.iadd, 1) := by decide +kernel
theorem dX5_deals_35 : decode cX5_deals 35 = .ok (.istore 4, 2) := by decide +kernel
theorem dX5_deals_37 : decode cX5_deals 37 = .ok (.iload_n 3, 1) := by decide +kernel
theorem dX5_deals_38 : decode cX5_deals 38 = .ok (.iconst (-1), 1) := by decide +kernel
theorem dX5_deals_39 : decode cX5_deals 39 = .ok (.if_icmp .eq 32, 3) := by decide +kernel
theorem dX5_deals_42 : decode cX5_deals 42 = .ok (.iload_n 2, 1) := by decide +kernel
theorem dX5_deals_43 : decode cX5_deals 43 = .ok (.ifCond .ne 28, 3) := by decide +kernel
theorem dX5_deals_46 : decode cX5_deals 46 = .ok (.aload_n 0, 1) := by decide +kernel
theorem dX5_deals_47 : decode cX5_deals 47 = .ok (.getfield 22, 3) := by decide +kernel
theorem dX5_deals_50 : decode cX5_deals 50 = .ok (.iload_n 1, 1) := by decide +kernel
theorem dX5_deals_51 : decode cX5_deals 51 = .ok (.iaload, 1) := by decide +kernel
theorem dX5_deals_52 : decode cX5_deals 52 = .ok (.iconst (-1), 1) := by decide +kernel
theorem dX5_deals_53 : decode cX5_deals 53 = .ok (.if_icmp .eq 18, 3) := by decide +kernel
theorem dX5_deals_56 : decode cX5_deals 56 = .ok (.iload 4, 2) := by decide +kernel
theorem dX5_deals_58 : decode cX5_deals 58 = .ok (.aload_n 0, 1) := by decide +kernel
theorem dX5_deals_59 : decode cX5_deals 59 = .ok (.getfield 22, 3) := by decide +kernel
theorem dX5_deals_62 : decode cX5_deals 62 = .ok (.iload_n 1, 1) := by decide +kernel
theorem dX5_deals_63 : decode cX5_deals 63 = .ok (.iaload, 1) := by decide +kernel
theorem dX5_deals_64 : decode cX5_deals 64 = .ok (.if_icmp .le 7, 3) := by decide +kernel
theorem dX5_deals_67 : decode cX5_deals 67 = .ok (.iconst 1, 1) := by decide +kernel
theorem dX5_deals_68 : decode cX5_deals 68 = .ok (.goto 4, 3) := by decide +kernel
theorem dX5_deals_71 : decode cX5_deals 71 = .ok (.iconst 0, 1) := by decide +kernel
theorem dX5_deals_72 : decode cX5_deals 72 = .ok (.istore 5, 2) := by decide +kernel
theorem dX5_deals_74 : decode cX5_deals 74 = .ok (.aload_n 0, 1) := by decide +kernel
theorem dX5_deals_75 : decode cX5_deals 75 = .ok (.getfield 22, 3) := by decide +kernel
theorem dX5_deals_78 : decode cX5_deals 78 = .ok (.iload_n 1, 1) := by decide +kernel
theorem dX5_deals_79 : decode cX5_deals 79 = .ok (.iload 5, 2) := by decide +kernel
theorem dX5_deals_81 : decode cX5_deals 81 = .ok (.ifCond .eq 12, 3) := by decide +kernel
theorem dX5_deals_84 : decode cX5_deals 84 = .ok (.aload_n 0, 1) := by decide +kernel
theorem dX5_deals_85 : decode cX5_deals 85 = .ok (.getfield 22, 3) := by decide +kernel
theorem dX5_deals_88 : decode cX5_deals 88 = .ok (.iload_n 1, 1) := by decide +kernel
theorem dX5_deals_89 : decode cX5_deals 89 = .ok (.iaload, 1) := by decide +kernel
theorem dX5_deals_90 : decode cX5_deals 90 = .ok (.goto 5, 3) := by decide +kernel
theorem dX5_deals_93 : decode cX5_deals 93 = .ok (.iload 4, 2) := by decide +kernel
theorem dX5_deals_95 : decode cX5_deals 95 = .ok (.iastore, 1) := by decide +kernel
theorem dX5_deals_96 : decode cX5_deals 96 = .ok (.aload_n 0, 1) := by decide +kernel
theorem dX5_deals_97 : decode cX5_deals 97 = .ok (.getfield 25, 3) := by decide +kernel
theorem dX5_deals_100 : decode cX5_deals 100 = .ok (.iload_n 1, 1) := by decide +kernel
theorem dX5_deals_101 : decode cX5_deals 101 = .ok (.iload 5, 2) := by decide +kernel
theorem dX5_deals_103 : decode cX5_deals 103 = .ok (.ifCond .eq 12, 3) := by decide +kernel
theorem dX5_deals_106 : decode cX5_deals 106 = .ok (.aload_n 0, 1) := by decide +kernel
theorem dX5_deals_107 : decode cX5_deals 107 = .ok (.getfield 25, 3) := by decide +kernel
theorem dX5_deals_110 : decode cX5_deals 110 = .ok (.iload_n 1, 1) := by decide +kernel
theorem dX5_deals_111 : decode cX5_deals 111 = .ok (.iaload, 1) := by decide +kernel
theorem dX5_deals_112 : decode cX5_deals 112 = .ok (.goto 4, 3) := by decide +kernel
theorem dX5_deals_115 : decode cX5_deals 115 = .ok (.iload_n 3, 1) := by decide +kernel
theorem dX5_deals_116 : decode cX5_deals 116 = .ok (.iastore, 1) := by decide +kernel
theorem dX5_deals_117 : decode cX5_deals 117 = .ok (.return_, 1) := by decide +kernel
theorem dX5_deal_0 : decode cX5_deal 0 = .ok (.aload_n 0, 1) := by decide +kernel
theorem dX5_deal_1 : decode cX5_deal 1 = .ok (.iconst 0, 1) := by decide +kernel
theorem dX5_deal_2 : decode cX5_deal 2 = .ok (.putfield 77, 3) := by decide +kernel
theorem dX5_deal_5 : decode cX5_deal 5 = .ok (.aload_n 0, 1) := by decide +kernel
theorem dX5_deal_6 : decode cX5_deal 6 = .ok (.aload_n 0, 1) := by decide +kernel
theorem dX5_deal_7 : decode cX5_deal 7 = .ok (.getfield 88, 3) := by decide +kernel
theorem dX5_deal_10 : decode cX5_deal 10 = .ok (.invokevirtual 171, 3) := by decide +kernel
theorem dX5_deal_13 : decode cX5_deal 13 = .ok (.iconst 0, 1) := by decide +kernel
theorem dX5_deal_14 : decode cX5_deal 14 = .ok (.istore_n 2, 1) := by decide +kernel
theorem dX5_deal_15 : decode cX5_deal 15 = .ok (.iconst 0, 1) := by decide +kernel
theorem dX5_deal_16 : decode cX5_deal 16 = .ok (.istore_n 3, 1) := by decide +kernel
theorem dX5_deal_17 : decode cX5_deal 17 = .ok (.iload_n 3, 1) := by decide +kernel
theorem dX5_deal_18 : decode cX5_deal 18 = .ok (.aload_n 0, 1) := by decide +kernel
theorem dX5_deal_19 : decode cX5_deal 19 = .ok (.getfield 81, 3) := by decide +kernel
theorem dX5_deal_22 : decode cX5_deal 22 = .ok (.if_icmp .ge 63, 3) := by decide +kernel
theorem dX5_deal_25 : decode cX5_deal 25 = .ok (.aload_n 0, 1) := by decide +kernel
theorem dX5_deal_26 : decode cX5_deal 26 = .ok (.getfield 16, 3) := by decide +kernel
theorem dX5_deal_29 : decode cX5_deal 29 = .ok (.iload_n 3, 1) := by decide +kernel
theorem dX5_deal_30 : decode cX5_deal 30 = .ok (.iaload, 1) := by decide +kernel
theorem dX5_deal_31 : decode cX5_deal 31 = .ok (.ifCond .ne 48, 3) := by decide +kernel
theorem dX5_deal_34 : decode cX5_deal 34 = .ok (.aload_n 0, 1) := by decide +kernel
theorem dX5_deal_35 : decode cX5_deal 35 = .ok (.getfield 37, 3) := by decide +kernel
theorem dX5_deal_38 : decode cX5_deal 38 = .ok (.iload_n 3, 1) := by decide +kernel
theorem dX5_deal_39 : decode cX5_deal 39 = .ok (.baload, 1) := by decide +kernel
theorem dX5_deal_40 : decode cX5_deal 40 = .ok (.ifCond .ne 39, 3) := by decide +kernel
theorem dX5_deal_43 : decode cX5_deal 43 = .ok (.aload_n 0, 1) := by decide +kernel
theorem dX5_deal_44 : decode cX5_deal 44 = .ok (.iload_n 3, 1) := by decide +kernel
theorem dX5_deal_45 : decode cX5_deal 45 = .ok (.iload_n 1, 1) := by decide +kernel
theorem dX5_deal_46 : decode cX5_deal 46 = .ok (.invokevirtual 183, 3) := by decide +kernel
theorem dX5_deal_49 : decode cX5_deal 49 = .ok (.iload_n 2, 1) := by decide +kernel
theorem dX5_deal_50 : decode cX5_deal 50 = .ok (.aload_n 0, 1) := by decide +kernel
theorem dX5_deal_51 : decode cX5_deal 51 = .ok (.getfield 22, 3) := by decide +kernel
theorem dX5_deal_54 : decode cX5_deal 54 = .ok (.iload_n 3, 1) := by decide +kernel
theorem dX5_deal_55 : decode cX5_deal 55 = .ok (.iaload, 1) := by decide +kernel
theorem dX5_deal_56 : decode cX5_deal 56 = .ok (.iconst (-1), 1) := by decide +kernel
theorem dX5_deal_57 : decode cX5_deal 57 = .ok (.if_icmp .ne 7, 3) := by decide +kernel
theorem dX5_deal_60 : decode cX5_deal 60 = .ok (.iconst 0, 1) := by decide +kernel
theorem dX5_deal_61 : decode cX5_deal 61 = .ok (.goto 16, 3) := by decide +kernel
theorem dX5_deal_64 : decode cX5_deal 64 = .ok (.aload_n 0, 1) := by decide +kernel
theorem dX5_deal_65 : decode cX5_deal 65 = .ok (.getfield 22, 3) := by decide +kernel
theorem dX5_deal_68 : decode cX5_deal 68 = .ok (.iload_n 3, 1) := by decide +kernel
theorem dX5_deal_69 : decode cX5_deal 69 = .ok (.iaload, 1) := by decide +kernel
theorem dX5_deal_70 : decode cX5_deal 70 = .ok (.aload_n 0, 1) := by decide +kernel
theorem dX5_deal_71 : decode cX5_deal 71 = .ok (.getfield 13, 3) := by decide +kernel
theorem dX5_deal_74 : decode cX5_deal 74 = .ok (.iload_n 3, 1) := by decide +kernel
theorem dX5_deal_75 : decode cX5_deal 75 = .ok (.iaload, 1) := by decide +kernel
theorem dX5_deal_76 : decode cX5_deal 76 = .ok (.isub, 1) := by decide +kernel
theorem dX5_deal_77 : decode cX5_deal 77 = .ok (.iadd, 1) := by decide +kernel
theorem dX5_deal_78 : decode cX5_deal 78 = .ok (.istore_n 2, 1) := by decide +kernel
theorem dX5_deal_79 : decode cX5_deal 79 = .ok (.iinc 3 1, 3) := by decide +kernel
theorem dX5_deal_82 : decode cX5_deal 82 = .ok (.goto (-65), 3) := by decide +kernel
theorem dX5_deal_85 : decode cX5_deal 85 = .ok (.iload_n 2, 1) := by decide +kernel
theorem dX5_deal_86 : decode cX5_deal 86 = .ok (.ireturn, 1) := by decide +kernel
theorem dX5_swap_0 : decode cX5_swap 0 = .ok (.aload_n 0, 1) := by decide +kernel
theorem dX5_swap_1 : decode cX5_swap 1 = .ok (.iload_n 1, 1) := by decide +kernel
theorem dX5_swap_2 : decode cX5_swap 2 = .ok (.invokevirtual 95, 3) := by decide +kernel
theorem dX5_swap_5 : decode cX5_swap 5 = .ok (.ifCond .eq 15, 3) := by decide +kernel
theorem dX5_swap_8 : decode cX5_swap 8 = .ok (.aload_n 0, 1) := by decide +kernel
theorem dX5_swap_9 : decode cX5_swap 9 = .ok (.iload_n 2, 1) := by decide +kernel
theorem dX5_swap_10 : decode cX5_swap 10 = .ok (.invokevirtual 95, 3) := by decide +kernel
theorem dX5_swap_13 : decode cX5_swap 13 = .ok (.ifCond .eq 7, 3) := by decide +kernel
theorem dX5_swap_16 : decode cX5_swap 16 = .ok (.iconst 1, 1) := by decide +kernel
theorem dX5_swap_17 : decode cX5_swap 17 = .ok (.goto 4, 3) := by decide +kernel
theorem dX5_swap_20 : decode cX5_swap 20 = .ok (.iconst 0, 1) := by decide +kernel
theorem dX5_swap_21 : decode cX5_swap 21 = .ok (.istore_n 3, 1) := by decide +kernel
theorem dX5_swap_22 : decode cX5_swap 22 = .ok (.iload_n 3, 1) := by decide +kernel
theorem dX5_swap_23 : decode cX5_swap 23 = .ok (.ifCond .eq 70, 3) := by decide +kernel
theorem dX5_swap_26 : decode cX5_swap 26 = .ok (.iload_n 1, 1) := by decide +kernel
theorem dX5_swap_27 : decode cX5_swap 27 = .ok (.iload_n 2, 1) := by decide +kernel
theorem dX5_swap_28 : decode cX5_swap 28 = .ok (.if_icmp .eq 65, 3) := by decide +kernel
theorem dX5_swap_31 : decode cX5_swap 31 = .ok (.aload_n 0, 1) := by decide +kernel
theorem dX5_swap_32 : decode cX5_swap 32 = .ok (.getfield 16, 3) := by decide +kernel
theorem dX5_swap_35 : decode cX5_swap 35 = .ok (.iload_n 1, 1) := by decide +kernel
theorem dX5_swap_36 : decode cX5_swap 36 = .ok (.iaload, 1) := by decide +kernel
theorem dX5_swap_37 : decode cX5_swap 37 = .ok (.ifCond .ne 56, 3) := by decide +kernel
theorem dX5_swap_40 : decode cX5_swap 40 = .ok (.aload_n 0, 1) := by decide +kernel
theorem dX5_swap_41 : decode cX5_swap 41 = .ok (.getfield 16, 3) := by decide +kernel
theorem dX5_swap_44 : decode cX5_swap 44 = .ok (.iload_n 2, 1) := by decide +kernel
theorem dX5_swap_45 : decode cX5_swap 45 = .ok (.iaload, 1) := by decide +kernel
theorem dX5_swap_46 : decode cX5_swap 46 = .ok (.ifCond .ne 47, 3) := by decide +kernel
theorem dX5_swap_49 : decode cX5_swap 49 = .ok (.aload_n 0, 1) := by decide +kernel
theorem dX5_swap_50 : decode cX5_swap 50 = .ok (.getfield 7, 3) := by decide +kernel
theorem dX5_swap_53 : decode cX5_swap 53 = .ok (.iload_n 1, 1) := by decide +kernel
theorem dX5_swap_54 : decode cX5_swap 54 = .ok (.iaload, 1) := by decide +kernel
theorem dX5_swap_55 : decode cX5_swap 55 = .ok (.aload_n 0, 1) := by decide +kernel
theorem dX5_swap_56 : decode cX5_swap 56 = .ok (.getfield 7, 3) := by decide +kernel
theorem dX5_swap_59 : decode cX5_swap 59 = .ok (.iload_n 2, 1) := by decide +kernel
theorem dX5_swap_60 : decode cX5_swap 60 = .ok (.iaload, 1) := by decide +kernel
theorem dX5_swap_61 : decode cX5_swap 61 = .ok (.if_icmp .ne 32, 3) := by decide +kernel
theorem dX5_swap_64 : decode cX5_swap 64 = .ok (.aload_n 0, 1) := by decide +kernel
theorem dX5_swap_65 : decode cX5_swap 65 = .ok (.getfield 25, 3) := by decide +kernel
theorem dX5_swap_68 : decode cX5_swap 68 = .ok (.iload_n 1, 1) := by decide +kernel
theorem dX5_swap_69 : decode cX5_swap 69 = .ok (.iaload, 1) := by decide +kernel
theorem dX5_swap_70 : decode cX5_swap 70 = .ok (.iconst (-1), 1) := by decide +kernel
theorem dX5_swap_71 : decode cX5_swap 71 = .ok (.if_icmp .eq 22, 3) := by decide +kernel
theorem dX5_swap_74 : decode cX5_swap 74 = .ok (.aload_n 0, 1) := by decide +kernel
theorem dX5_swap_75 : decode cX5_swap 75 = .ok (.getfield 25, 3) := by decide +kernel
theorem dX5_swap_78 : decode cX5_swap 78 = .ok (.iload_n 1, 1) := by decide +kernel
theorem dX5_swap_79 : decode cX5_swap 79 = .ok (.iaload, 1) := by decide +kernel
theorem dX5_swap_80 : decode cX5_swap 80 = .ok (.aload_n 0, 1) := by decide +kernel
theorem dX5_swap_81 : decode cX5_swap 81 = .ok (.getfield 25, 3) := by decide +kernel
theorem dX5_swap_84 : decode cX5_swap 84 = .ok (.iload_n 2, 1) := by decide +kernel
theorem dX5_swap_85 : decode cX5_swap 85 = .ok (.iaload, 1) := by decide +kernel
theorem dX5_swap_86 : decode cX5_swap 86 = .ok (.if_icmp .ne 7, 3) := by decide +kernel
theorem dX5_swap_89 : decode cX5_swap 89 = .ok (.iconst 1, 1) := by decide +kernel
theorem dX5_swap_90 : decode cX5_swap 90 = .ok (.goto 4, 3) := by decide +kernel
theorem dX5_swap_93 : decode cX5_swap 93 = .ok (.iconst 0, 1) := by decide +kernel
theorem dX5_swap_94 : decode cX5_swap 94 = .ok (.istore 4, 2) := by decide +kernel
theorem dX5_swap_96 : decode cX5_swap 96 = .ok (.iload 4, 2) := by decide +kernel
theorem dX5_swap_98 : decode cX5_swap 98 = .ok (.ifCond .eq 17, 3) := by decide +kernel
theorem dX5_swap_101 : decode cX5_swap 101 = .ok (.aload_n 0, 1) := by decide +kernel
theorem dX5_swap_102 : decode cX5_swap 102 = .ok (.getfield 47, 3) := by decide +kernel
theorem dX5_swap_105 : decode cX5_swap 105 = .ok (.aload_n 0, 1) := by decide +kernel
theorem dX5_swap_106 : decode cX5_swap 106 = .ok (.getfield 25, 3) := by decide +kernel
theorem dX5_swap_109 : decode cX5_swap 109 = .ok (.iload_n 1, 1) := by decide +kernel
theorem dX5_swap_110 : decode cX5_swap 110 = .ok (.iaload, 1) := by decide +kernel
theorem dX5_swap_111 : decode cX5_swap 111 = .ok (.iaload, 1) := by decide +kernel
theorem dX5_swap_112 : decode cX5_swap 112 = .ok (.goto 4, 3) := by decide +kernel
theorem dX5_swap_115 : decode cX5_swap 115 = .ok (.iconst 0, 1) := by decide +kernel
theorem dX5_swap_116 : decode cX5_swap 116 = .ok (.istore 5, 2) := by decide +kernel
theorem dX5_swap_118 : decode cX5_swap 118 = .ok (.iload 4, 2) := by decide +kernel
theorem dX5_swap_120 : decode cX5_swap 120 = .ok (.ifCond .eq 26, 3) := by decide +kernel
theorem dX5_swap_123 : decode cX5_swap 123 = .ok (.aload_n 0, 1) := by decide +kernel
theorem dX5_swap_124 : decode cX5_swap 124 = .ok (.iload_n 2, 1) := by decide +kernel
theorem dX5_swap_125 : decode cX5_swap 125 = .ok (.iload 5, 2) := by decide +kernel
theorem dX5_swap_127 : decode cX5_swap 127 = .ok (.invokevirtual 109, 3) := by decide +kernel
theorem dX5_swap_130 : decode cX5_swap 130 = .ok (.aload_n 0, 1) := by decide +kernel
theorem dX5_swap_131 : decode cX5_swap 131 = .ok (.getfield 41, 3) := by decide +kernel
theorem dX5_swap_134 : decode cX5_swap 134 = .ok (.bipush 6, 2) := by decide +kernel
theorem dX5_swap_136 : decode cX5_swap 136 = .ok (.iload_n 1, 1) := by decide +kernel
theorem dX5_swap_137 : decode cX5_swap 137 = .ok (.imul, 1) := by decide +kernel
theorem dX5_swap_138 : decode cX5_swap 138 = .ok (.iload 5, 2) := by decide +kernel
theorem dX5_swap_140 : decode cX5_swap 140 = .ok (.iadd, 1) := by decide +kernel
theorem dX5_swap_141 : decode cX5_swap 141 = .ok (.iaload, 1) := by decide +kernel
theorem dX5_swap_142 : decode cX5_swap 142 = .ok (.isub, 1) := by decide +kernel
theorem dX5_swap_143 : decode cX5_swap 143 = .ok (.goto 4, 3) := by decide +kernel
theorem dX5_swap_146 : decode cX5_swap 146 = .ok (.iconst 0, 1) := by decide +kernel
theorem dX5_swap_147 : decode cX5_swap 147 = .ok (.istore 6, 2) := by decide +kernel
theorem dX5_swap_149 : decode cX5_swap 149 = .ok (.iload 4, 2) := by decide +kernel
theorem dX5_swap_151 : decode cX5_swap 151 = .ok (.ifCond .eq 26, 3) := by decide +kernel
theorem dX5_swap_154 : decode cX5_swap 154 = .ok (.aload_n 0, 1) := by decide +kernel
theorem dX5_swap_155 : decode cX5_swap 155 = .ok (.iload_n 1, 1) := by decide +kernel
theorem dX5_swap_156 : decode cX5_swap 156 = .ok (.iload 5, 2) := by decide +kernel
theorem dX5_swap_158 : decode cX5_swap 158 = .ok (.invokevirtual 109, 3) := by decide +kernel
theorem dX5_swap_161 : decode cX5_swap 161 = .ok (.aload_n 0, 1) := by decide +kernel
theorem dX5_swap_162 : decode cX5_swap 162 = .ok (.getfield 41, 3) := by decide +kernel
theorem dX5_swap_165 : decode cX5_swap 165 = .ok (.bipush 6, 2) := by decide +kernel
theorem dX5_swap_167 : decode cX5_swap 167 = .ok (.iload_n 2, 1) := by decide +kernel
theorem dX5_swap_168 : decode cX5_swap 168 = .ok (.imul, 1) := by decide +kernel
theorem dX5_swap_169 : decode cX5_swap 169 = .ok (.iload 5, 2) := by decide +kernel
theorem dX5_swap_171 : decode cX5_swap 171 = .ok (.iadd, 1) := by decide +kernel
theorem dX5_swap_172 : decode cX5_swap 172 = .ok (.iaload, 1) := by decide +kernel
theorem dX5_swap_173 : decode cX5_swap 173 = .ok (.isub, 1) := by decide +kernel
theorem dX5_swap_174 : decode cX5_swap 174 = .ok (.goto 4, 3) := by decide +kernel
theorem dX5_swap_177 : decode cX5_swap 177 = .ok (.iconst 0, 1) := by decide +kernel
theorem dX5_swap_178 : decode cX5_swap 178 = .ok (.istore 7, 2) := by decide +kernel
theorem dX5_swap_180 : decode cX5_swap 180 = .ok (.iload 4, 2) := by decide +kernel
theorem dX5_swap_182 : decode cX5_swap 182 = .ok (.ifCond .eq 29, 3) := by decide +kernel
theorem dX5_swap_185 : decode cX5_swap 185 = .ok (.iload 6, 2) := by decide +kernel
theorem dX5_swap_187 : decode cX5_swap 187 = .ok (.aload_n 0, 1) := by decide +kernel
theorem dX5_swap_188 : decode cX5_swap 188 = .ok (.getfield 13, 3) := by decide +kernel
theorem dX5_swap_191 : decode cX5_swap 191 = .ok (.iload_n 1, 1) := by decide +kernel
theorem dX5_swap_192 : decode cX5_swap 192 = .ok (.iaload, 1) := by decide +kernel
theorem dX5_swap_193 : decode cX5_swap 193 = .ok (.if_icmp .lt 18, 3) := by decide +kernel
theorem dX5_swap_196 : decode cX5_swap 196 = .ok (.iload 7, 2) := by decide +kernel
theorem dX5_swap_198 : decode cX5_swap 198 = .ok (.aload_n 0, 1) := by decide +kernel
theorem dX5_swap_199 : decode cX5_swap 199 = .ok (.getfield 13, 3) := by decide +kernel
theorem dX5_swap_202 : decode cX5_swap 202 = .ok (.iload_n 2, 1) := by decide +kernel
theorem dX5_swap_203 : decode cX5_swap 203 = .ok (.iaload, 1) := by decide +kernel
theorem dX5_swap_204 : decode cX5_swap 204 = .ok (.if_icmp .lt 7, 3) := by decide +kernel
theorem dX5_swap_207 : decode cX5_swap 207 = .ok (.iconst 1, 1) := by decide +kernel
theorem dX5_swap_208 : decode cX5_swap 208 = .ok (.goto 4, 3) := by decide +kernel
theorem dX5_swap_211 : decode cX5_swap 211 = .ok (.iconst 0, 1) := by decide +kernel
theorem dX5_swap_212 : decode cX5_swap 212 = .ok (.istore 4, 2) := by decide +kernel
theorem dX5_swap_214 : decode cX5_swap 214 = .ok (.aload_n 0, 1) := by decide +kernel
theorem dX5_swap_215 : decode cX5_swap 215 = .ok (.iload_n 3, 1) := by decide +kernel
theorem dX5_swap_216 : decode cX5_swap 216 = .ok (.ifCond .ne 7, 3) := by decide +kernel
theorem dX5_swap_219 : decode cX5_swap 219 = .ok (.iconst 1, 1) := by decide +kernel
theorem dX5_swap_220 : decode cX5_swap 220 = .ok (.goto 22, 3) := by decide +kernel
theorem dX5_swap_223 : decode cX5_swap 223 = .ok (.iload_n 1, 1) := by decide +kernel
theorem dX5_swap_224 : decode cX5_swap 224 = .ok (.iload_n 2, 1) := by decide +kernel
theorem dX5_swap_225 : decode cX5_swap 225 = .ok (.if_icmp .ne 7, 3) := by decide +kernel
theorem dX5_swap_228 : decode cX5_swap 228 = .ok (.iconst 2, 1) := by decide +kernel
theorem dX5_swap_229 : decode cX5_swap 229 = .ok (.goto 13, 3) := by decide +kernel
theorem dX5_swap_232 : decode cX5_swap 232 = .ok (.iload 4, 2) := by decide +kernel
theorem dX5_swap_234 : decode cX5_swap 234 = .ok (.ifCond .eq 7, 3) := by decide +kernel
theorem dX5_swap_237 : decode cX5_swap 237 = .ok (.iconst 0, 1) := by decide +kernel
theorem dX5_swap_238 : decode cX5_swap 238 = .ok (.goto 4, 3) := by decide +kernel
theorem dX5_swap_241 : decode cX5_swap 241 = .ok (.iconst 3, 1) := by decide +kernel
theorem dX5_swap_242 : decode cX5_swap 242 = .ok (.invokevirtual 91, 3) := by decide +kernel
theorem dX5_swap_245 : decode cX5_swap 245 = .ok (.ifCond .eq 19, 3) := by decide +kernel
theorem dX5_swap_248 : decode cX5_swap 248 = .ok (.aload_n 0, 1) := by decide +kernel
theorem dX5_swap_249 : decode cX5_swap 249 = .ok (.getfield 22, 3) := by decide +kernel
theorem dX5_swap_252 : decode cX5_swap 252 = .ok (.iload_n 1, 1) := by decide +kernel
theorem dX5_swap_253 : decode cX5_swap 253 = .ok (.iload 6, 2) := by decide +kernel
theorem dX5_swap_255 : decode cX5_swap 255 = .ok (.iastore, 1) := by decide +kernel
theorem dX5_swap_256 : decode cX5_swap 256 = .ok (.aload_n 0, 1) := by decide +kernel
theorem dX5_swap_257 : decode cX5_swap 257 = .ok (.getfield 22, 3) := by decide +kernel
theorem dX5_swap_260 : decode cX5_swap 260 = .ok (.iload_n 2, 1) := by decide +kernel
theorem dX5_swap_261 : decode cX5_swap 261 = .ok (.iload 7, 2) := by decide +kernel
theorem dX5_swap_263 : decode cX5_swap 263 = .ok (.iastore, 1) := by decide +kernel
theorem dX5_swap_264 : decode cX5_swap 264 = .ok (.return_, 1) := by decide +kernel
theorem dX5_goes_0 : decode cX5_goes 0 = .ok (.aload_n 0, 1) := by decide +kernel
theorem dX5_goes_1 : decode cX5_goes 1 = .ok (.getfield 16, 3) := by decide +kernel
theorem dX5_goes_4 : decode cX5_goes 4 = .ok (.iload_n 1, 1) := by decide +kernel
theorem dX5_goes_5 : decode cX5_goes 5 = .ok (.iconst 1, 1) := by decide +kernel
theorem dX5_goes_6 : decode cX5_goes 6 = .ok (.iastore, 1) := by decide +kernel
theorem dX5_goes_7 : decode cX5_goes 7 = .ok (.aload_n 0, 1) := by decide +kernel
theorem dX5_goes_8 : decode cX5_goes 8 = .ok (.getfield 19, 3) := by decide +kernel
theorem dX5_goes_11 : decode cX5_goes 11 = .ok (.iload_n 1, 1) := by decide +kernel
theorem dX5_goes_12 : decode cX5_goes 12 = .ok (.iload_n 2, 1) := by decide +kernel
theorem dX5_goes_13 : decode cX5_goes 13 = .ok (.iastore, 1) := by decide +kernel
theorem dX5_goes_14 : decode cX5_goes 14 = .ok (.aload_n 0, 1) := by decide +kernel
theorem dX5_goes_15 : decode cX5_goes 15 = .ok (.getfield 22, 3) := by decide +kernel
theorem dX5_goes_18 : decode cX5_goes 18 = .ok (.iload_n 1, 1) := by decide +kernel
theorem dX5_goes_19 : decode cX5_goes 19 = .ok (.iaload, 1) := by decide +kernel
theorem dX5_goes_20 : decode cX5_goes 20 = .ok (.iconst (-1), 1) := by decide +kernel
theorem dX5_goes_21 : decode cX5_goes 21 = .ok (.if_icmp .eq 90, 3) := by decide +kernel
theorem dX5_goes_24 : decode cX5_goes 24 = .ok (.aload_n 0, 1) := by decide +kernel
theorem dX5_goes_25 : decode cX5_goes 25 = .ok (.getfield 22, 3) := by decide +kernel
theorem dX5_goes_28 : decode cX5_goes 28 = .ok (.iload_n 1, 1) := by decide +kernel
theorem dX5_goes_29 : decode cX5_goes 29 = .ok (.iaload, 1) := by decide +kernel
theorem dX5_goes_30 : decode cX5_goes 30 = .ok (.aload_n 0, 1) := by decide +kernel
theorem dX5_goes_31 : decode cX5_goes 31 = .ok (.getfield 13, 3) := by decide +kernel
theorem dX5_goes_34 : decode cX5_goes 34 = .ok (.iload_n 1, 1) := by decide +kernel
theorem dX5_goes_35 : decode cX5_goes 35 = .ok (.iaload, 1) := by decide +kernel
theorem dX5_goes_36 : decode cX5_goes 36 = .ok (.isub, 1) := by decide +kernel
theorem dX5_goes_37 : decode cX5_goes 37 = .ok (.istore_n 3, 1) := by decide +kernel
theorem dX5_goes_38 : decode cX5_goes 38 = .ok (.aload_n 0, 1) := by decide +kernel
theorem dX5_goes_39 : decode cX5_goes 39 = .ok (.getfield 59, 3) := by decide +kernel
theorem dX5_goes_42 : decode cX5_goes 42 = .ok (.aload_n 0, 1) := by decide +kernel
theorem dX5_goes_43 : decode cX5_goes 43 = .ok (.getfield 25, 3) := by decide +kernel
theorem dX5_goes_46 : decode cX5_goes 46 = .ok (.iload_n 1, 1) := by decide +kernel
theorem dX5_goes_47 : decode cX5_goes 47 = .ok (.iaload, 1) := by decide +kernel
theorem dX5_goes_48 : decode cX5_goes 48 = .ok (.dup2, 1) := by decide +kernel
theorem dX5_goes_49 : decode cX5_goes 49 = .ok (.iaload, 1) := by decide +kernel
theorem dX5_goes_50 : decode cX5_goes 50 = .ok (.iload_n 3, 1) := by decide +kernel
theorem dX5_goes_51 : decode cX5_goes 51 = .ok (.iadd, 1) := by decide +kernel
theorem dX5_goes_52 : decode cX5_goes 52 = .ok (.iastore, 1) := by decide +kernel
theorem dX5_goes_53 : decode cX5_goes 53 = .ok (.aload_n 0, 1) := by decide +kernel
theorem dX5_goes_54 : decode cX5_goes 54 = .ok (.getfield 65, 3) := by decide +kernel
theorem dX5_goes_57 : decode cX5_goes 57 = .ok (.aload_n 0, 1) := by decide +kernel
theorem dX5_goes_58 : decode cX5_goes 58 = .ok (.getfield 7, 3) := by decide +kernel
theorem dX5_goes_61 : decode cX5_goes 61 = .ok (.iload_n 1, 1) := by decide +kernel
theorem dX5_goes_62 : decode cX5_goes 62 = .ok (.iaload, 1) := by decide +kernel
theorem dX5_goes_63 : decode cX5_goes 63 = .ok (.dup2, 1) := by decide +kernel
theorem dX5_goes_64 : decode cX5_goes 64 = .ok (.iaload, 1) := by decide +kernel
theorem dX5_goes_65 : decode cX5_goes 65 = .ok (.iload_n 3, 1) := by decide +kernel
theorem dX5_goes_66 : decode cX5_goes 66 = .ok (.iadd, 1) := by decide +kernel
theorem dX5_goes_67 : decode cX5_goes 67 = .ok (.iastore, 1) := by decide +kernel
theorem dX5_goes_68 : decode cX5_goes 68 = .ok (.aload_n 0, 1) := by decide +kernel
theorem dX5_goes_69 : decode cX5_goes 69 = .ok (.getfield 68, 3) := by decide +kernel
theorem dX5_goes_72 : decode cX5_goes 72 = .ok (.aload_n 0, 1) := by decide +kernel
theorem dX5_goes_73 : decode cX5_goes 73 = .ok (.getfield 7, 3) := by decide +kernel
theorem dX5_goes_76 : decode cX5_goes 76 = .ok (.iload_n 1, 1) := by decide +kernel
theorem dX5_goes_77 : decode cX5_goes 77 = .ok (.iaload, 1) := by decide +kernel
theorem dX5_goes_78 : decode cX5_goes 78 = .ok (.dup2, 1) := by decide +kernel
theorem dX5_goes_79 : decode cX5_goes 79 = .ok (.iaload, 1) := by decide +kernel
theorem dX5_goes_80 : decode cX5_goes 80 = .ok (.iload_n 2, 1) := by decide +kernel
theorem dX5_goes_81 : decode cX5_goes 81 = .ok (.aload_n 0, 1) := by decide +kernel
theorem dX5_goes_82 : decode cX5_goes 82 = .ok (.getfield 22, 3) := by decide +kernel
theorem dX5_goes_85 : decode cX5_goes 85 = .ok (.iload_n 1, 1) := by decide +kernel
theorem dX5_goes_86 : decode cX5_goes 86 = .ok (.iaload, 1) := by decide +kernel
theorem dX5_goes_87 : decode cX5_goes 87 = .ok (.iconst 5, 1) := by decide +kernel
theorem dX5_goes_88 : decode cX5_goes 88 = .ok (.isub, 1) := by decide +kernel
theorem dX5_goes_89 : decode cX5_goes 89 = .ok (.aload_n 0, 1) := by decide +kernel
theorem dX5_goes_90 : decode cX5_goes 90 = .ok (.getfield 22, 3) := by decide +kernel
theorem dX5_goes_93 : decode cX5_goes 93 = .ok (.iload_n 1, 1) := by decide +kernel
theorem dX5_goes_94 : decode cX5_goes 94 = .ok (.iaload, 1) := by decide +kernel
theorem dX5_goes_95 : decode cX5_goes 95 = .ok (.bipush 10, 2) := by decide +kernel
theorem dX5_goes_97 : decode cX5_goes 97 = .ok (.iadd, 1) := by decide +kernel
theorem dX5_goes_98 : decode cX5_goes 98 = .ok (.invokestatic 84, 3) := by decide +kernel
theorem dX5_goes_101 : decode cX5_goes 101 = .ok (.ifCond .eq 7, 3) := by decide +kernel
theorem dX5_goes_104 : decode cX5_goes 104 = .ok (.iconst 0, 1) := by decide +kernel
theorem dX5_goes_105 : decode cX5_goes 105 = .ok (.goto 4, 3) := by decide +kernel
theorem dX5_goes_108 : decode cX5_goes 108 = .ok (.iconst 1, 1) := by decide +kernel
theorem dX5_goes_109 : decode cX5_goes 109 = .ok (.iadd, 1) := by decide +kernel
theorem dX5_goes_110 : decode cX5_goes 110 = .ok (.iastore, 1) := by decide +kernel
theorem dX5_goes_111 : decode cX5_goes 111 = .ok (.return_, 1) := by decide +kernel
theorem dX5_message_0 : decode cX5_message 0 = .ok (.iload_n 2, 1) := by decide +kernel
theorem dX5_message_1 : decode cX5_message 1 = .ok (.iconst 1, 1) := by decide +kernel
theorem dX5_message_2 : decode cX5_message 2 = .ok (.bipush 99, 2) := by decide +kernel
theorem dX5_message_4 : decode cX5_message 4 = .ok (.invokestatic 84, 3) := by decide +kernel
theorem dX5_message_7 : decode cX5_message 7 = .ok (.ifCond .eq 37, 3) := by decide +kernel
theorem dX5_message_10 : decode cX5_message 10 = .ok (.iload_n 3, 1) := by decide +kernel
theorem dX5_message_11 : decode cX5_message 11 = .ok (.iconst 0, 1) := by decide +kernel
theorem dX5_message_12 : decode cX5_message 12 = .ok (.iconst 2, 1) := by decide +kernel
theorem dX5_message_13 : decode cX5_message 13 = .ok (.invokestatic 84, 3) := by decide +kernel
theorem dX5_message_16 : decode cX5_message 16 = .ok (.ifCond .eq 28, 3) := by decide +kernel
theorem dX5_message_19 : decode cX5_message 19 = .ok (.iload 4, 2) := by decide +kernel
theorem dX5_message_21 : decode cX5_message 21 = .ok (.iconst 0, 1) := by decide +kernel
theorem dX5_message_22 : decode cX5_message 22 = .ok (.iload_n 3, 1) := by decide +kernel
theorem dX5_message_23 : decode cX5_message 23 = .ok (.iconst 1, 1) := by decide +kernel
theorem dX5_message_24 : decode cX5_message 24 = .ok (.if_icmp .ne 7, 3) := by decide +kernel
theorem dX5_message_27 : decode cX5_message 27 = .ok (.iconst 0, 1) := by decide +kernel
theorem dX5_message_28 : decode cX5_message 28 = .ok (.goto 6, 3) := by decide +kernel
theorem dX5_message_31 : decode cX5_message 31 = .ok (.sipush 1439, 3) := by decide +kernel
theorem dX5_message_34 : decode cX5_message 34 = .ok (.invokestatic 84, 3) := by decide +kernel
theorem dX5_message_37 : decode cX5_message 37 = .ok (.ifCond .eq 7, 3) := by decide +kernel
theorem dX5_message_40 : decode cX5_message 40 = .ok (.iconst 1, 1) := by decide +kernel
theorem dX5_message_41 : decode cX5_message 41 = .ok (.goto 4, 3) := by decide +kernel
theorem dX5_message_44 : decode cX5_message 44 = .ok (.iconst 0, 1) := by decide +kernel
theorem dX5_message_45 : decode cX5_message 45 = .ok (.istore 5, 2) := by decide +kernel
theorem dX5_message_47 : decode cX5_message 47 = .ok (.aload_n 0, 1) := by decide +kernel
theorem dX5_message_48 : decode cX5_message 48 = .ok (.iload_n 1, 1) := by decide +kernel
theorem dX5_message_49 : decode cX5_message 49 = .ok (.invokevirtual 95, 3) := by decide +kernel
theorem dX5_message_52 : decode cX5_message 52 = .ok (.istore 6, 2) := by decide +kernel
theorem dX5_message_54 : decode cX5_message 54 = .ok (.aload_n 0, 1) := by decide +kernel
theorem dX5_message_55 : decode cX5_message 55 = .ok (.iload 6, 2) := by decide +kernel
theorem dX5_message_57 : decode cX5_message 57 = .ok (.ifCond .ne 7, 3) := by decide +kernel
theorem dX5_message_60 : decode cX5_message 60 = .ok (.iconst 1, 1) := by decide +kernel
theorem dX5_message_61 : decode cX5_message 61 = .ok (.goto 13, 3) := by decide +kernel
theorem dX5_message_64 : decode cX5_message 64 = .ok (.iload 5, 2) := by decide +kernel
theorem dX5_message_66 : decode cX5_message 66 = .ok (.ifCond .eq 7, 3) := by decide +kernel
theorem dX5_message_69 : decode cX5_message 69 = .ok (.iconst 0, 1) := by decide +kernel
theorem dX5_message_70 : decode cX5_message 70 = .ok (.goto 4, 3) := by decide +kernel
theorem dX5_message_73 : decode cX5_message 73 = .ok (.iconst 2, 1) := by decide +kernel
theorem dX5_message_74 : decode cX5_message 74 = .ok (.invokevirtual 91, 3) := by decide +kernel
theorem dX5_message_77 : decode cX5_message 77 = .ok (.ifCond .ne 5, 3) := by decide +kernel
theorem dX5_message_80 : decode cX5_message 80 = .ok (.iconst 0, 1) := by decide +kernel
theorem dX5_message_81 : decode cX5_message 81 = .ok (.ireturn, 1) := by decide +kernel
theorem dX5_message_82 : decode cX5_message 82 = .ok (.aload_n 0, 1) := by decide +kernel
theorem dX5_message_83 : decode cX5_message 83 = .ok (.getfield 16, 3) := by decide +kernel
theorem dX5_message_86 : decode cX5_message 86 = .ok (.iload_n 1, 1) := by decide +kernel
theorem dX5_message_87 : decode cX5_message 87 = .ok (.iaload, 1) := by decide +kernel
theorem dX5_message_88 : decode cX5_message 88 = .ok (.ifCond .ne 13, 3) := by decide +kernel
theorem dX5_message_91 : decode cX5_message 91 = .ok (.iload_n 2, 1) := by decide +kernel
theorem dX5_message_92 : decode cX5_message 92 = .ok (.aload_n 0, 1) := by decide +kernel
theorem dX5_message_93 : decode cX5_message 93 = .ok (.getfield 34, 3) := by decide +kernel
theorem dX5_message_96 : decode cX5_message 96 = .ok (.iload_n 1, 1) := by decide +kernel
theorem dX5_message_97 : decode cX5_message 97 = .ok (.iaload, 1) := by decide +kernel
theorem dX5_message_98 : decode cX5_message 98 = .ok (.if_icmp .gt 5, 3) := by decide +kernel
theorem dX5_message_101 : decode cX5_message 101 = .ok (.iconst 0, 1) := by decide +kernel
theorem dX5_message_102 : decode cX5_message 102 = .ok (.ireturn, 1) := by decide +kernel
theorem dX5_message_103 : decode cX5_message 103 = .ok (.aload_n 0, 1) := by decide +kernel
theorem dX5_message_104 : decode cX5_message 104 = .ok (.getfield 34, 3) := by decide +kernel
theorem dX5_message_107 : decode cX5_message 107 = .ok (.iload_n 1, 1) := by decide +kernel
theorem dX5_message_108 : decode cX5_message 108 = .ok (.iload_n 2, 1) := by decide +kernel
theorem dX5_message_109 : decode cX5_message 109 = .ok (.iastore, 1) := by decide +kernel
theorem dX5_message_110 : decode cX5_message 110 = .ok (.iload_n 3, 1) := by decide +kernel
theorem dX5_message_111 : decode cX5_message 111 = .ok (.ifCond .ne 74, 3) := by decide +kernel
theorem dX5_message_114 : decode cX5_message 114 = .ok (.aload_n 0, 1) := by decide +kernel
theorem dX5_message_115 : decode cX5_message 115 = .ok (.getfield 22, 3) := by decide +kernel
theorem dX5_message_118 : decode cX5_message 118 = .ok (.iload_n 1, 1) := by decide +kernel
theorem dX5_message_119 : decode cX5_message 119 = .ok (.iaload, 1) := by decide +kernel
theorem dX5_message_120 : decode cX5_message 120 = .ok (.iload 4, 2) := by decide +kernel
theorem dX5_message_122 : decode cX5_message 122 = .ok (.if_icmp .ge 7, 3) := by decide +kernel
theorem dX5_message_125 : decode cX5_message 125 = .ok (.iconst 1, 1) := by decide +kernel
theorem dX5_message_126 : decode cX5_message 126 = .ok (.goto 4, 3) := by decide +kernel
theorem dX5_message_129 : decode cX5_message 129 = .ok (.iconst 0, 1) := by decide +kernel
theorem dX5_message_130 : decode cX5_message 130 = .ok (.istore 7, 2) := by decide +kernel
theorem dX5_message_132 : decode cX5_message 132 = .ok (.aload_n 0, 1) := by decide +kernel
theorem dX5_message_133 : decode cX5_message 133 = .ok (.getfield 13, 3) := by decide +kernel
theorem dX5_message_136 : decode cX5_message 136 = .ok (.iload_n 1, 1) := by decide +kernel
theorem dX5_message_137 : decode cX5_message 137 = .ok (.iload 4, 2) := by decide +kernel
theorem dX5_message_139 : decode cX5_message 139 = .ok (.iastore, 1) := by decide +kernel
theorem dX5_message_140 : decode cX5_message 140 = .ok (.aload_n 0, 1) := by decide +kernel
theorem dX5_message_141 : decode cX5_message 141 = .ok (.getfield 22, 3) := by decide +kernel
theorem dX5_message_144 : decode cX5_message 144 = .ok (.iload_n 1, 1) := by decide +kernel
theorem dX5_message_145 : decode cX5_message 145 = .ok (.iload 7, 2) := by decide +kernel
theorem dX5_message_147 : decode cX5_message 147 = .ok (.ifCond .eq 7, 3) := by decide +kernel
theorem dX5_message_150 : decode cX5_message 150 = .ok (.iconst (-1), 1) := by decide +kernel
theorem dX5_message_151 : decode cX5_message 151 = .ok (.goto 9, 3) := by decide +kernel
theorem dX5_message_154 : decode cX5_message 154 = .ok (.aload_n 0, 1) := by decide +kernel
theorem dX5_message_155 : decode cX5_message 155 = .ok (.getfield 22, 3) := by decide +kernel
theorem dX5_message_158 : decode cX5_message 158 = .ok (.iload_n 1, 1) := by decide +kernel
theorem dX5_message_159 : decode cX5_message 159 = .ok (.iaload, 1) := by decide +kernel
theorem dX5_message_160 : decode cX5_message 160 = .ok (.iastore, 1) := by decide +kernel
theorem dX5_message_161 : decode cX5_message 161 = .ok (.aload_n 0, 1) := by decide +kernel
theorem dX5_message_162 : decode cX5_message 162 = .ok (.getfield 25, 3) := by decide +kernel
theorem dX5_message_165 : decode cX5_message 165 = .ok (.iload_n 1, 1) := by decide +kernel
theorem dX5_message_166 : decode cX5_message 166 = .ok (.iload 7, 2) := by decide +kernel
theorem dX5_message_168 : decode cX5_message 168 = .ok (.ifCond .eq 7, 3) := by decide +kernel
theorem dX5_message_171 : decode cX5_message 171 = .ok (.iconst (-1), 1) := by decide +kernel
theorem dX5_message_172 : decode cX5_message 172 = .ok (.goto 9, 3) := by decide +kernel
theorem dX5_message_175 : decode cX5_message 175 = .ok (.aload_n 0, 1) := by decide +kernel
theorem dX5_message_176 : decode cX5_message 176 = .ok (.getfield 25, 3) := by decide +kernel
theorem dX5_message_179 : decode cX5_message 179 = .ok (.iload_n 1, 1) := by decide +kernel
theorem dX5_message_180 : decode cX5_message 180 = .ok (.iaload, 1) := by decide +kernel
theorem dX5_message_181 : decode cX5_message 181 = .ok (.iastore, 1) := by decide +kernel
theorem dX5_message_182 : decode cX5_message 182 = .ok (.goto 25, 3) := by decide +kernel
theorem dX5_message_185 : decode cX5_message 185 = .ok (.iload_n 3, 1) := by decide +kernel
theorem dX5_message_186 : decode cX5_message 186 = .ok (.iconst 1, 1) := by decide +kernel
theorem dX5_message_187 : decode cX5_message 187 = .ok (.if_icmp .ne 13, 3) := by decide +kernel
theorem dX5_message_190 : decode cX5_message 190 = .ok (.aload_n 0, 1) := by decide +kernel
