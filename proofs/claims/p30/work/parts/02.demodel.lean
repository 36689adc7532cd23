theorem bdX8_init_0 : decode cX8_init 0 = .ok (.aload_n 0, 1) ∧ decode cX8_init 1 = .ok (.invokespecial 1, 3) ∧ decode cX8_init 4 = .ok (.aload_n 0, 1) ∧ decode cX8_init 5 = .ok (.bipush 120, 2) ∧ decode cX8_init 7 = .ok (.newarray .byte, 2) ∧ decode cX8_init 9 = .ok (.putfield 7, 3) ∧ decode cX8_init 12 = .ok (.aload_n 0, 1) ∧ decode cX8_init 13 = .ok (.iconst 2, 1) := by decide +kernel
theorem dX8_init_0 : decode cX8_init 0 = .ok (.aload_n 0, 1) := bdX8_init_0.1
theorem dX8_init_1 : decode cX8_init 1 = .ok (.invokespecial 1, 3) := bdX8_init_0.2.1
theorem dX8_init_4 : decode cX8_init 4 = .ok (.aload_n 0, 1) := bdX8_init_0.2.2.1
theorem dX8_init_5 : decode cX8_init 5 = .ok (.bipush 120, 2) := bdX8_init_0.2.2.2.1
theorem dX8_init_7 : decode cX8_init 7 = .ok (.newarray .byte, 2) := bdX8_init_0.2.2.2.2.1
theorem dX8_init_9 : decode cX8_init 9 = .ok (.putfield 7, 3) := bdX8_init_0.2.2.2.2.2.1
theorem dX8_init_12 : decode cX8_init 12 = .ok (.aload_n 0, 1) := bdX8_init_0.2.2.2.2.2.2.1
theorem dX8_init_13 : decode cX8_init 13 = .ok (.iconst 2, 1) := bdX8_init_0.2.2.2.2.2.2.2
theorem bdX8_init_14 : decode cX8_init 14 = .ok (.newarray .int, 2) ∧ decode cX8_init 16 = .ok (.putfield 13, 3) ∧ decode cX8_init 19 = .ok (.aload_n 0, 1) ∧ decode cX8_init 20 = .ok (.bipush 12, 2) ∧ decode cX8_init 22 = .ok (.newarray .int, 2) ∧ decode cX8_init 24 = .ok (.putfield 17, 3) ∧ decode cX8_init 27 = .ok (.aload_n 0, 1) ∧ decode cX8_init 28 = .ok (.bipush 12, 2) := by decide +kernel
theorem dX8_init_14 : decode cX8_init 14 = .ok (.newarray .int, 2) := bdX8_init_14.1
theorem dX8_init_16 : decode cX8_init 16 = .ok (.putfield 13, 3) := bdX8_init_14.2.1
theorem dX8_init_19 : decode cX8_init 19 = .ok (.aload_n 0, 1) := bdX8_init_14.2.2.1
theorem dX8_init_20 : decode cX8_init 20 = .ok (.bipush 12, 2) := bdX8_init_14.2.2.2.1
theorem dX8_init_22 : decode cX8_init 22 = .ok (.newarray .int, 2) := bdX8_init_14.2.2.2.2.1
theorem dX8_init_24 : decode cX8_init 24 = .ok (.putfield 17, 3) := bdX8_init_14.2.2.2.2.2.1
theorem dX8_init_27 : decode cX8_init 27 = .ok (.aload_n 0, 1) := bdX8_init_14.2.2.2.2.2.2.1
theorem dX8_init_28 : decode cX8_init 28 = .ok (.bipush 12, 2) := bdX8_init_14.2.2.2.2.2.2.2
theorem bdX8_init_30 : decode cX8_init 30 = .ok (.newarray .int, 2) ∧ decode cX8_init 32 = .ok (.putfield 20, 3) ∧ decode cX8_init 35 = .ok (.aload_n 0, 1) ∧ decode cX8_init 36 = .ok (.iconst 2, 1) ∧ decode cX8_init 37 = .ok (.newarray .int, 2) ∧ decode cX8_init 39 = .ok (.putfield 23, 3) ∧ decode cX8_init 42 = .ok (.aload_n 0, 1) ∧ decode cX8_init 43 = .ok (.bipush 12, 2) := by decide +kernel
theorem dX8_init_30 : decode cX8_init 30 = .ok (.newarray .int, 2) := bdX8_init_30.1
theorem dX8_init_32 : decode cX8_init 32 = .ok (.putfield 20, 3) := bdX8_init_30.2.1
theorem dX8_init_35 : decode cX8_init 35 = .ok (.aload_n 0, 1) := bdX8_init_30.2.2.1
theorem dX8_init_36 : decode cX8_init 36 = .ok (.iconst 2, 1) := bdX8_init_30.2.2.2.1
theorem dX8_init_37 : decode cX8_init 37 = .ok (.newarray .int, 2) := bdX8_init_30.2.2.2.2.1
theorem dX8_init_39 : decode cX8_init 39 = .ok (.putfield 23, 3) := bdX8_init_30.2.2.2.2.2.1
theorem dX8_init_42 : decode cX8_init 42 = .ok (.aload_n 0, 1) := bdX8_init_30.2.2.2.2.2.2.1
theorem dX8_init_43 : decode cX8_init 43 = .ok (.bipush 12, 2) := bdX8_init_30.2.2.2.2.2.2.2
theorem bdX8_init_45 : decode cX8_init 45 = .ok (.newarray .int, 2) ∧ decode cX8_init 47 = .ok (.putfield 26, 3) ∧ decode cX8_init 50 = .ok (.aload_n 0, 1) ∧ decode cX8_init 51 = .ok (.bipush 12, 2) ∧ decode cX8_init 53 = .ok (.newarray .int, 2) ∧ decode cX8_init 55 = .ok (.putfield 29, 3) ∧ decode cX8_init 58 = .ok (.aload_n 0, 1) ∧ decode cX8_init 59 = .ok (.bipush 12, 2) := by decide +kernel
theorem dX8_init_45 : decode cX8_init 45 = .ok (.newarray .int, 2) := bdX8_init_45.1
theorem dX8_init_47 : decode cX8_init 47 = .ok (.putfield 26, 3) := bdX8_init_45.2.1
theorem dX8_init_50 : decode cX8_init 50 = .ok (.aload_n 0, 1) := bdX8_init_45.2.2.1
theorem dX8_init_51 : decode cX8_init 51 = .ok (.bipush 12, 2) := bdX8_init_45.2.2.2.1
theorem dX8_init_53 : decode cX8_init 53 = .ok (.newarray .int, 2) := bdX8_init_45.2.2.2.2.1
theorem dX8_init_55 : decode cX8_init 55 = .ok (.putfield 29, 3) := bdX8_init_45.2.2.2.2.2.1
theorem dX8_init_58 : decode cX8_init 58 = .ok (.aload_n 0, 1) := bdX8_init_45.2.2.2.2.2.2.1
theorem dX8_init_59 : decode cX8_init 59 = .ok (.bipush 12, 2) := bdX8_init_45.2.2.2.2.2.2.2
theorem bdX8_init_61 : decode cX8_init 61 = .ok (.newarray .int, 2) ∧ decode cX8_init 63 = .ok (.putfield 32, 3) ∧ decode cX8_init 66 = .ok (.aload_n 0, 1) ∧ decode cX8_init 67 = .ok (.iconst 2, 1) ∧ decode cX8_init 68 = .ok (.newarray .int, 2) ∧ decode cX8_init 70 = .ok (.putfield 35, 3) ∧ decode cX8_init 73 = .ok (.aload_n 0, 1) ∧ decode cX8_init 74 = .ok (.bipush 12, 2) := by decide +kernel
theorem dX8_init_61 : decode cX8_init 61 = .ok (.newarray .int, 2) := bdX8_init_61.1
theorem dX8_init_63 : decode cX8_init 63 = .ok (.putfield 32, 3) := bdX8_init_61.2.1
theorem dX8_init_66 : decode cX8_init 66 = .ok (.aload_n 0, 1) := bdX8_init_61.2.2.1
theorem dX8_init_67 : decode cX8_init 67 = .ok (.iconst 2, 1) := bdX8_init_61.2.2.2.1
theorem dX8_init_68 : decode cX8_init 68 = .ok (.newarray .int, 2) := bdX8_init_61.2.2.2.2.1
theorem dX8_init_70 : decode cX8_init 70 = .ok (.putfield 35, 3) := bdX8_init_61.2.2.2.2.2.1
theorem dX8_init_73 : decode cX8_init 73 = .ok (.aload_n 0, 1) := bdX8_init_61.2.2.2.2.2.2.1
theorem dX8_init_74 : decode cX8_init 74 = .ok (.bipush 12, 2) := bdX8_init_61.2.2.2.2.2.2.2
theorem bdX8_init_76 : decode cX8_init 76 = .ok (.newarray .int, 2) ∧ decode cX8_init 78 = .ok (.putfield 38, 3) ∧ decode cX8_init 81 = .ok (.aload_n 0, 1) ∧ decode cX8_init 82 = .ok (.iconst 4, 1) ∧ decode cX8_init 83 = .ok (.newarray .int, 2) ∧ decode cX8_init 85 = .ok (.putfield 41, 3) ∧ decode cX8_init 88 = .ok (.aload_n 0, 1) ∧ decode cX8_init 89 = .ok (.bipush 29, 2) := by decide +kernel
theorem dX8_init_76 : decode cX8_init 76 = .ok (.newarray .int, 2) := bdX8_init_76.1
theorem dX8_init_78 : decode cX8_init 78 = .ok (.putfield 38, 3) := bdX8_init_76.2.1
theorem dX8_init_81 : decode cX8_init 81 = .ok (.aload_n 0, 1) := bdX8_init_76.2.2.1
theorem dX8_init_82 : decode cX8_init 82 = .ok (.iconst 4, 1) := bdX8_init_76.2.2.2.1
theorem dX8_init_83 : decode cX8_init 83 = .ok (.newarray .int, 2) := bdX8_init_76.2.2.2.2.1
theorem dX8_init_85 : decode cX8_init 85 = .ok (.putfield 41, 3) := bdX8_init_76.2.2.2.2.2.1
theorem dX8_init_88 : decode cX8_init 88 = .ok (.aload_n 0, 1) := bdX8_init_76.2.2.2.2.2.2.1
theorem dX8_init_89 : decode cX8_init 89 = .ok (.bipush 29, 2) := bdX8_init_76.2.2.2.2.2.2.2
theorem bdX8_init_91 : decode cX8_init 91 = .ok (.newarray .int, 2) ∧ decode cX8_init 93 = .ok (.putfield 44, 3) ∧ decode cX8_init 96 = .ok (.aload_n 0, 1) ∧ decode cX8_init 97 = .ok (.iconst 3, 1) ∧ decode cX8_init 98 = .ok (.newarray .int, 2) ∧ decode cX8_init 100 = .ok (.putfield 47, 3) ∧ decode cX8_init 103 = .ok (.aload_n 0, 1) ∧ decode cX8_init 104 = .ok (.sipush 870, 3) := by decide +kernel
theorem dX8_init_91 : decode cX8_init 91 = .ok (.newarray .int, 2) := bdX8_init_91.1
theorem dX8_init_93 : decode cX8_init 93 = .ok (.putfield 44, 3) := bdX8_init_91.2.1
theorem dX8_init_96 : decode cX8_init 96 = .ok (.aload_n 0, 1) := bdX8_init_91.2.2.1
theorem dX8_init_97 : decode cX8_init 97 = .ok (.iconst 3, 1) := bdX8_init_91.2.2.2.1
theorem dX8_init_98 : decode cX8_init 98 = .ok (.newarray .int, 2) := bdX8_init_91.2.2.2.2.1
theorem dX8_init_100 : decode cX8_init 100 = .ok (.putfield 47, 3) := bdX8_init_91.2.2.2.2.2.1
theorem dX8_init_103 : decode cX8_init 103 = .ok (.aload_n 0, 1) := bdX8_init_91.2.2.2.2.2.2.1
theorem dX8_init_104 : decode cX8_init 104 = .ok (.sipush 870, 3) := bdX8_init_91.2.2.2.2.2.2.2
theorem bdX8_init_107 : decode cX8_init 107 = .ok (.newarray .int, 2) ∧ decode cX8_init 109 = .ok (.putfield 50, 3) ∧ decode cX8_init 112 = .ok (.aload_n 0, 1) ∧ decode cX8_init 113 = .ok (.bipush 58, 2) ∧ decode cX8_init 115 = .ok (.newarray .int, 2) ∧ decode cX8_init 117 = .ok (.putfield 53, 3) ∧ decode cX8_init 120 = .ok (.aload_n 0, 1) ∧ decode cX8_init 121 = .ok (.iconst 2, 1) := by decide +kernel
theorem dX8_init_107 : decode cX8_init 107 = .ok (.newarray .int, 2) := bdX8_init_107.1
theorem dX8_init_109 : decode cX8_init 109 = .ok (.putfield 50, 3) := bdX8_init_107.2.1
theorem dX8_init_112 : decode cX8_init 112 = .ok (.aload_n 0, 1) := bdX8_init_107.2.2.1
theorem dX8_init_113 : decode cX8_init 113 = .ok (.bipush 58, 2) := bdX8_init_107.2.2.2.1
theorem dX8_init_115 : decode cX8_init 115 = .ok (.newarray .int, 2) := bdX8_init_107.2.2.2.2.1
theorem dX8_init_117 : decode cX8_init 117 = .ok (.putfield 53, 3) := bdX8_init_107.2.2.2.2.2.1
theorem dX8_init_120 : decode cX8_init 120 = .ok (.aload_n 0, 1) := bdX8_init_107.2.2.2.2.2.2.1
theorem dX8_init_121 : decode cX8_init 121 = .ok (.iconst 2, 1) := bdX8_init_107.2.2.2.2.2.2.2
theorem bdX8_init_122 : decode cX8_init 122 = .ok (.newarray .boolean, 2) ∧ decode cX8_init 124 = .ok (.putfield 56, 3) ∧ decode cX8_init 127 = .ok (.aload_n 0, 1) ∧ decode cX8_init 128 = .ok (.bipush 64, 2) ∧ decode cX8_init 130 = .ok (.newarray .int, 2) ∧ decode cX8_init 132 = .ok (.putfield 60, 3) ∧ decode cX8_init 135 = .ok (.aload_n 0, 1) ∧ decode cX8_init 136 = .ok (.bipush 24, 2) := by decide +kernel
theorem dX8_init_122 : decode cX8_init 122 = .ok (.newarray .boolean, 2) := bdX8_init_122.1
theorem dX8_init_124 : decode cX8_init 124 = .ok (.putfield 56, 3) := bdX8_init_122.2.1
theorem dX8_init_127 : decode cX8_init 127 = .ok (.aload_n 0, 1) := bdX8_init_122.2.2.1
theorem dX8_init_128 : decode cX8_init 128 = .ok (.bipush 64, 2) := bdX8_init_122.2.2.2.1
theorem dX8_init_130 : decode cX8_init 130 = .ok (.newarray .int, 2) := bdX8_init_122.2.2.2.2.1
theorem dX8_init_132 : decode cX8_init 132 = .ok (.putfield 60, 3) := bdX8_init_122.2.2.2.2.2.1
theorem dX8_init_135 : decode cX8_init 135 = .ok (.aload_n 0, 1) := bdX8_init_122.2.2.2.2.2.2.1
theorem dX8_init_136 : decode cX8_init 136 = .ok (.bipush 24, 2) := bdX8_init_122.2.2.2.2.2.2.2
theorem bdX8_init_138 : decode cX8_init 138 = .ok (.newarray .int, 2) ∧ decode cX8_init 140 = .ok (.putfield 63, 3) ∧ decode cX8_init 143 = .ok (.aload_n 0, 1) ∧ decode cX8_init 144 = .ok (.iconst 4, 1) ∧ decode cX8_init 145 = .ok (.newarray .int, 2) ∧ decode cX8_init 147 = .ok (.putfield 66, 3) ∧ decode cX8_init 150 = .ok (.aload_n 0, 1) ∧ decode cX8_init 151 = .ok (.iconst 4, 1) := by decide +kernel
theorem dX8_init_138 : decode cX8_init 138 = .ok (.newarray .int, 2) := bdX8_init_138.1
theorem dX8_init_140 : decode cX8_init 140 = .ok (.putfield 63, 3) := bdX8_init_138.2.1
theorem dX8_init_143 : decode cX8_init 143 = .ok (.aload_n 0, 1) := bdX8_init_138.2.2.1
theorem dX8_init_144 : decode cX8_init 144 = .ok (.iconst 4, 1) := bdX8_init_138.2.2.2.1
theorem dX8_init_145 : decode cX8_init 145 = .ok (.newarray .int, 2) := bdX8_init_138.2.2.2.2.1
theorem dX8_init_147 : decode cX8_init 147 = .ok (.putfield 66, 3) := bdX8_init_138.2.2.2.2.2.1
theorem dX8_init_150 : decode cX8_init 150 = .ok (.aload_n 0, 1) := bdX8_init_138.2.2.2.2.2.2.1
theorem dX8_init_151 : decode cX8_init 151 = .ok (.iconst 4, 1) := bdX8_init_138.2.2.2.2.2.2.2
theorem bdX8_init_152 : decode cX8_init 152 = .ok (.newarray .int, 2) ∧ decode cX8_init 154 = .ok (.putfield 69, 3) ∧ decode cX8_init 157 = .ok (.aload_n 0, 1) ∧ decode cX8_init 158 = .ok (.getfield 35, 3) ∧ decode cX8_init 161 = .ok (.iconst 0, 1) ∧ decode cX8_init 162 = .ok (.iconst 1, 1) ∧ decode cX8_init 163 = .ok (.iastore, 1) ∧ decode cX8_init 164 = .ok (.iconst 0, 1) := by decide +kernel
theorem dX8_init_152 : decode cX8_init 152 = .ok (.newarray .int, 2) := bdX8_init_152.1
theorem dX8_init_154 : decode cX8_init 154 = .ok (.putfield 69, 3) := bdX8_init_152.2.1
theorem dX8_init_157 : decode cX8_init 157 = .ok (.aload_n 0, 1) := bdX8_init_152.2.2.1
theorem dX8_init_158 : decode cX8_init 158 = .ok (.getfield 35, 3) := bdX8_init_152.2.2.2.1
theorem dX8_init_161 : decode cX8_init 161 = .ok (.iconst 0, 1) := bdX8_init_152.2.2.2.2.1
theorem dX8_init_162 : decode cX8_init 162 = .ok (.iconst 1, 1) := bdX8_init_152.2.2.2.2.2.1
theorem dX8_init_163 : decode cX8_init 163 = .ok (.iastore, 1) := bdX8_init_152.2.2.2.2.2.2.1
theorem dX8_init_164 : decode cX8_init 164 = .ok (.iconst 0, 1) := bdX8_init_152.2.2.2.2.2.2.2
theorem bdX8_init_165 : decode cX8_init 165 = .ok (.istore_n 1, 1) ∧ decode cX8_init 166 = .ok (.iload_n 1, 1) ∧ decode cX8_init 167 = .ok (.iconst 4, 1) ∧ decode cX8_init 168 = .ok (.if_icmp .ge 19, 3) ∧ decode cX8_init 171 = .ok (.aload_n 0, 1) ∧ decode cX8_init 172 = .ok (.getfield 44, 3) ∧ decode cX8_init 175 = .ok (.iconst 2, 1) ∧ decode cX8_init 176 = .ok (.iload_n 1, 1) := by decide +kernel
theorem dX8_init_165 : decode cX8_init 165 = .ok (.istore_n 1, 1) := bdX8_init_165.1
theorem dX8_init_166 : decode cX8_init 166 = .ok (.iload_n 1, 1) := bdX8_init_165.2.1
theorem dX8_init_167 : decode cX8_init 167 = .ok (.iconst 4, 1) := bdX8_init_165.2.2.1
theorem dX8_init_168 : decode cX8_init 168 = .ok (.if_icmp .ge 19, 3) := bdX8_init_165.2.2.2.1
theorem dX8_init_171 : decode cX8_init 171 = .ok (.aload_n 0, 1) := bdX8_init_165.2.2.2.2.1
theorem dX8_init_172 : decode cX8_init 172 = .ok (.getfield 44, 3) := bdX8_init_165.2.2.2.2.2.1
theorem dX8_init_175 : decode cX8_init 175 = .ok (.iconst 2, 1) := bdX8_init_165.2.2.2.2.2.2.1
theorem dX8_init_176 : decode cX8_init 176 = .ok (.iload_n 1, 1) := bdX8_init_165.2.2.2.2.2.2.2
theorem bdX8_init_177 : decode cX8_init 177 = .ok (.iadd, 1) ∧ decode cX8_init 178 = .ok (.bipush 9, 2) ∧ decode cX8_init 180 = .ok (.iastore, 1) ∧ decode cX8_init 181 = .ok (.iinc 1 1, 3) ∧ decode cX8_init 184 = .ok (.goto (-18), 3) ∧ decode cX8_init 187 = .ok (.return_, 1) := by decide +kernel
theorem dX8_init_177 : decode cX8_init 177 = .ok (.iadd, 1) := bdX8_init_177.1
theorem dX8_init_178 : decode cX8_init 178 = .ok (.bipush 9, 2) := bdX8_init_177.2.1
theorem dX8_init_180 : decode cX8_init 180 = .ok (.iastore, 1) := bdX8_init_177.2.2.1
theorem dX8_init_181 : decode cX8_init 181 = .ok (.iinc 1 1, 3) := bdX8_init_177.2.2.2.1
theorem dX8_init_184 : decode cX8_init 184 = .ok (.goto (-18), 3) := bdX8_init_177.2.2.2.2.1
theorem dX8_init_187 : decode cX8_init 187 = .ok (.return_, 1) := bdX8_init_177.2.2.2.2.2
theorem bdX8_in_0 : decode cX8_in 0 = .ok (.iload_n 0, 1) ∧ decode cX8_in 1 = .ok (.iload_n 1, 1) ∧ decode cX8_in 2 = .ok (.if_icmp .lt 12, 3) ∧ decode cX8_in 5 = .ok (.iload_n 0, 1) ∧ decode cX8_in 6 = .ok (.iload_n 2, 1) ∧ decode cX8_in 7 = .ok (.if_icmp .gt 7, 3) ∧ decode cX8_in 10 = .ok (.iconst 1, 1) ∧ decode cX8_in 11 = .ok (.goto 4, 3) := by decide +kernel
theorem dX8_in_0 : decode cX8_in 0 = .ok (.iload_n 0, 1) := bdX8_in_0.1
theorem dX8_in_1 : decode cX8_in 1 = .ok (.iload_n 1, 1) := bdX8_in_0.2.1
theorem dX8_in_2 : decode cX8_in 2 = .ok (.if_icmp .lt 12, 3) := bdX8_in_0.2.2.1
theorem dX8_in_5 : decode cX8_in 5 = .ok (.iload_n 0, 1) := bdX8_in_0.2.2.2.1
theorem dX8_in_6 : decode cX8_in 6 = .ok (.iload_n 2, 1) := bdX8_in_0.2.2.2.2.1
theorem dX8_in_7 : decode cX8_in 7 = .ok (.if_icmp .gt 7, 3) := bdX8_in_0.2.2.2.2.2.1
theorem dX8_in_10 : decode cX8_in 10 = .ok (.iconst 1, 1) := bdX8_in_0.2.2.2.2.2.2.1
theorem dX8_in_11 : decode cX8_in 11 = .ok (.goto 4, 3) := bdX8_in_0.2.2.2.2.2.2.2
theorem bdX8_in_14 : decode cX8_in 14 = .ok (.iconst 0, 1) ∧ decode cX8_in 15 = .ok (.ireturn, 1) := by decide +kernel
theorem dX8_in_14 : decode cX8_in 14 = .ok (.iconst 0, 1) := bdX8_in_14.1
theorem dX8_in_15 : decode cX8_in 15 = .ok (.ireturn, 1) := bdX8_in_14.2
theorem bdX8_has_0 : decode cX8_has 0 = .ok (.iload_n 0, 1) ∧ decode cX8_has 1 = .ok (.iload_n 1, 1) ∧ decode cX8_has 2 = .ok (.ishr, 1) ∧ decode cX8_has 3 = .ok (.iconst 1, 1) ∧ decode cX8_has 4 = .ok (.iand, 1) ∧ decode cX8_has 5 = .ok (.iconst 1, 1) ∧ decode cX8_has 6 = .ok (.if_icmp .ne 7, 3) ∧ decode cX8_has 9 = .ok (.iconst 1, 1) := by decide +kernel
theorem dX8_has_0 : decode cX8_has 0 = .ok (.iload_n 0, 1) := bdX8_has_0.1
theorem dX8_has_1 : decode cX8_has 1 = .ok (.iload_n 1, 1) := bdX8_has_0.2.1
theorem dX8_has_2 : decode cX8_has 2 = .ok (.ishr, 1) := bdX8_has_0.2.2.1
theorem dX8_has_3 : decode cX8_has 3 = .ok (.iconst 1, 1) := bdX8_has_0.2.2.2.1
theorem dX8_has_4 : decode cX8_has 4 = .ok (.iand, 1) := bdX8_has_0.2.2.2.2.1
theorem dX8_has_5 : decode cX8_has 5 = .ok (.iconst 1, 1) := bdX8_has_0.2.2.2.2.2.1
theorem dX8_has_6 : decode cX8_has 6 = .ok (.if_icmp .ne 7, 3) := bdX8_has_0.2.2.2.2.2.2.1
theorem dX8_has_9 : decode cX8_has 9 = .ok (.iconst 1, 1) := bdX8_has_0.2.2.2.2.2.2.2
theorem bdX8_has_10 : decode cX8_has 10 = .ok (.goto 4, 3) ∧ decode cX8_has 13 = .ok (.iconst 0, 1) ∧ decode cX8_has 14 = .ok (.ireturn, 1) := by decide +kernel
theorem dX8_has_10 : decode cX8_has 10 = .ok (.goto 4, 3) := bdX8_has_10.1
theorem dX8_has_13 : decode cX8_has 13 = .ok (.iconst 0, 1) := bdX8_has_10.2.1
theorem dX8_has_14 : decode cX8_has 14 = .ok (.ireturn, 1) := bdX8_has_10.2.2
theorem bdX8_bitsOf_0 : decode cX8_bitsOf 0 = .ok (.iconst 0, 1) ∧ decode cX8_bitsOf 1 = .ok (.istore_n 1, 1) ∧ decode cX8_bitsOf 2 = .ok (.iconst 0, 1) ∧ decode cX8_bitsOf 3 = .ok (.istore_n 2, 1) ∧ decode cX8_bitsOf 4 = .ok (.iload_n 2, 1) ∧ decode cX8_bitsOf 5 = .ok (.bipush 31, 2) ∧ decode cX8_bitsOf 7 = .ok (.if_icmp .ge 17, 3) ∧ decode cX8_bitsOf 10 = .ok (.iload_n 1, 1) := by decide +kernel
theorem dX8_bitsOf_0 : decode cX8_bitsOf 0 = .ok (.iconst 0, 1) := bdX8_bitsOf_0.1
theorem dX8_bitsOf_1 : decode cX8_bitsOf 1 = .ok (.istore_n 1, 1) := bdX8_bitsOf_0.2.1
theorem dX8_bitsOf_2 : decode cX8_bitsOf 2 = .ok (.iconst 0, 1) := bdX8_bitsOf_0.2.2.1
theorem dX8_bitsOf_3 : decode cX8_bitsOf 3 = .ok (.istore_n 2, 1) := bdX8_bitsOf_0.2.2.2.1
theorem dX8_bitsOf_4 : decode cX8_bitsOf 4 = .ok (.iload_n 2, 1) := bdX8_bitsOf_0.2.2.2.2.1
theorem dX8_bitsOf_5 : decode cX8_bitsOf 5 = .ok (.bipush 31, 2) := bdX8_bitsOf_0.2.2.2.2.2.1
theorem dX8_bitsOf_7 : decode cX8_bitsOf 7 = .ok (.if_icmp .ge 17, 3) := bdX8_bitsOf_0.2.2.2.2.2.2.1
theorem dX8_bitsOf_10 : decode cX8_bitsOf 10 = .ok (.iload_n 1, 1) := bdX8_bitsOf_0.2.2.2.2.2.2.2
theorem bdX8_bitsOf_11 : decode cX8_bitsOf 11 = .ok (.iload_n 0, 1) ∧ decode cX8_bitsOf 12 = .ok (.iload_n 2, 1) ∧ decode cX8_bitsOf 13 = .ok (.ishr, 1) ∧ decode cX8_bitsOf 14 = .ok (.iconst 1, 1) ∧ decode cX8_bitsOf 15 = .ok (.iand, 1) ∧ decode cX8_bitsOf 16 = .ok (.iadd, 1) ∧ decode cX8_bitsOf 17 = .ok (.istore_n 1, 1) ∧ decode cX8_bitsOf 18 = .ok (.iinc 2 1, 3) := by decide +kernel
theorem dX8_bitsOf_11 : decode cX8_bitsOf 11 = .ok (.iload_n 0, 1) := bdX8_bitsOf_11.1
theorem dX8_bitsOf_12 : decode cX8_bitsOf 12 = .ok (.iload_n 2, 1) := bdX8_bitsOf_11.2.1
theorem dX8_bitsOf_13 : decode cX8_bitsOf 13 = .ok (.ishr, 1) := bdX8_bitsOf_11.2.2.1
theorem dX8_bitsOf_14 : decode cX8_bitsOf 14 = .ok (.iconst 1, 1) := bdX8_bitsOf_11.2.2.2.1
theorem dX8_bitsOf_15 : decode cX8_bitsOf 15 = .ok (.iand, 1) := bdX8_bitsOf_11.2.2.2.2.1
theorem dX8_bitsOf_16 : decode cX8_bitsOf 16 = .ok (.iadd, 1) := bdX8_bitsOf_11.2.2.2.2.2.1
theorem dX8_bitsOf_17 : decode cX8_bitsOf 17 = .ok (.istore_n 1, 1) := bdX8_bitsOf_11.2.2.2.2.2.2.1
theorem dX8_bitsOf_18 : decode cX8_bitsOf 18 = .ok (.iinc 2 1, 3) := bdX8_bitsOf_11.2.2.2.2.2.2.2
theorem bdX8_bitsOf_21 : decode cX8_bitsOf 21 = .ok (.goto (-17), 3) ∧ decode cX8_bitsOf 24 = .ok (.iload_n 1, 1) ∧ decode cX8_bitsOf 25 = .ok (.ireturn, 1) := by decide +kernel
theorem dX8_bitsOf_21 : decode cX8_bitsOf 21 = .ok (.goto (-17), 3) := bdX8_bitsOf_21.1
theorem dX8_bitsOf_24 : decode cX8_bitsOf 24 = .ok (.iload_n 1, 1) := bdX8_bitsOf_21.2.1
theorem dX8_bitsOf_25 : decode cX8_bitsOf 25 = .ok (.ireturn, 1) := bdX8_bitsOf_21.2.2
set_option maxRecDepth 20000 in
set_option maxRecDepth 100000 in
theorem ggX8_type_X8_in : GoodIn wsX8_type wsX8_in := goodIn_hd (goodIn_c ch_X8_type hc_X8_type ([.code yX8_in cX8_in 3 (some .boolean)] : List Cond) [(1, 5)] rfl (by decide +kernel)) (goodIn_c ch_X8_type hc_X8_type ([] : List Cond) [] rfl (by decide +kernel))
set_option maxRecDepth 20000 in
theorem gX8_type_X8_in : GoodIn wsX8_type (va_wsS RX8 72 yX8_in wsX8_in) := goodIn_app (goodIn_of _ (by decide +kernel)) ggX8_type_X8_in
theorem bdX8_type_0 : decode cX8_type 0 = .ok (.iload_n 1, 1) ∧ decode cX8_type 1 = .ok (.iconst 0, 1) ∧ decode cX8_type 2 = .ok (.sipush 255, 3) ∧ decode cX8_type 5 = .ok (.invokestatic 72, 3) ∧ decode cX8_type 8 = .ok (.ifCond .ne 5, 3) ∧ decode cX8_type 11 = .ok (.iconst (-1), 1) ∧ decode cX8_type 12 = .ok (.ireturn, 1) ∧ decode cX8_type 13 = .ok (.aload_n 0, 1) := by decide +kernel
theorem dX8_type_0 : decode cX8_type 0 = .ok (.iload_n 1, 1) := bdX8_type_0.1
theorem dX8_type_1 : decode cX8_type 1 = .ok (.iconst 0, 1) := bdX8_type_0.2.1
theorem dX8_type_2 : decode cX8_type 2 = .ok (.sipush 255, 3) := bdX8_type_0.2.2.1
theorem dX8_type_5 : decode cX8_type 5 = .ok (.invokestatic 72, 3) := bdX8_type_0.2.2.2.1
theorem dX8_type_8 : decode cX8_type 8 = .ok (.ifCond .ne 5, 3) := bdX8_type_0.2.2.2.2.1
theorem dX8_type_11 : decode cX8_type 11 = .ok (.iconst (-1), 1) := bdX8_type_0.2.2.2.2.2.1
theorem dX8_type_12 : decode cX8_type 12 = .ok (.ireturn, 1) := bdX8_type_0.2.2.2.2.2.2.1
theorem dX8_type_13 : decode cX8_type 13 = .ok (.aload_n 0, 1) := bdX8_type_0.2.2.2.2.2.2.2
theorem bdX8_type_14 : decode cX8_type 14 = .ok (.getfield 76, 3) ∧ decode cX8_type 17 = .ok (.bipush 120, 2) ∧ decode cX8_type 19 = .ok (.if_icmp .ne 6, 3) ∧ decode cX8_type 22 = .ok (.bipush (-3), 2) ∧ decode cX8_type 24 = .ok (.ireturn, 1) ∧ decode cX8_type 25 = .ok (.aload_n 0, 1) ∧ decode cX8_type 26 = .ok (.getfield 7, 3) ∧ decode cX8_type 29 = .ok (.aload_n 0, 1) := by decide +kernel
theorem dX8_type_14 : decode cX8_type 14 = .ok (.getfield 76, 3) := bdX8_type_14.1
theorem dX8_type_17 : decode cX8_type 17 = .ok (.bipush 120, 2) := bdX8_type_14.2.1
theorem dX8_type_19 : decode cX8_type 19 = .ok (.if_icmp .ne 6, 3) := bdX8_type_14.2.2.1
theorem dX8_type_22 : decode cX8_type 22 = .ok (.bipush (-3), 2) := bdX8_type_14.2.2.2.1
theorem dX8_type_24 : decode cX8_type 24 = .ok (.ireturn, 1) := bdX8_type_14.2.2.2.2.1
theorem dX8_type_25 : decode cX8_type 25 = .ok (.aload_n 0, 1) := bdX8_type_14.2.2.2.2.2.1
theorem dX8_type_26 : decode cX8_type 26 = .ok (.getfield 7, 3) := bdX8_type_14.2.2.2.2.2.2.1
theorem dX8_type_29 : decode cX8_type 29 = .ok (.aload_n 0, 1) := bdX8_type_14.2.2.2.2.2.2.2
theorem bdX8_type_30 : decode cX8_type 30 = .ok (.getfield 76, 3) ∧ decode cX8_type 33 = .ok (.iload_n 1, 1) ∧ decode cX8_type 34 = .ok (.i2b, 1) ∧ decode cX8_type 35 = .ok (.bastore, 1) ∧ decode cX8_type 36 = .ok (.aload_n 0, 1) ∧ decode cX8_type 37 = .ok (.dup, 1) ∧ decode cX8_type 38 = .ok (.getfield 76, 3) ∧ decode cX8_type 41 = .ok (.iconst 1, 1) := by decide +kernel
theorem dX8_type_30 : decode cX8_type 30 = .ok (.getfield 76, 3) := bdX8_type_30.1
theorem dX8_type_33 : decode cX8_type 33 = .ok (.iload_n 1, 1) := bdX8_type_30.2.1
theorem dX8_type_34 : decode cX8_type 34 = .ok (.i2b, 1) := bdX8_type_30.2.2.1
theorem dX8_type_35 : decode cX8_type 35 = .ok (.bastore, 1) := bdX8_type_30.2.2.2.1
theorem dX8_type_36 : decode cX8_type 36 = .ok (.aload_n 0, 1) := bdX8_type_30.2.2.2.2.1
theorem dX8_type_37 : decode cX8_type 37 = .ok (.dup, 1) := bdX8_type_30.2.2.2.2.2.1
theorem dX8_type_38 : decode cX8_type 38 = .ok (.getfield 76, 3) := bdX8_type_30.2.2.2.2.2.2.1
theorem dX8_type_41 : decode cX8_type 41 = .ok (.iconst 1, 1) := bdX8_type_30.2.2.2.2.2.2.2
theorem bdX8_type_42 : decode cX8_type 42 = .ok (.iadd, 1) ∧ decode cX8_type 43 = .ok (.putfield 76, 3) ∧ decode cX8_type 46 = .ok (.aload_n 0, 1) ∧ decode cX8_type 47 = .ok (.getfield 76, 3) ∧ decode cX8_type 50 = .ok (.ireturn, 1) := by decide +kernel
theorem dX8_type_42 : decode cX8_type 42 = .ok (.iadd, 1) := bdX8_type_42.1
theorem dX8_type_43 : decode cX8_type 43 = .ok (.putfield 76, 3) := bdX8_type_42.2.1
theorem dX8_type_46 : decode cX8_type 46 = .ok (.aload_n 0, 1) := bdX8_type_42.2.2.1
theorem dX8_type_47 : decode cX8_type 47 = .ok (.getfield 76, 3) := bdX8_type_42.2.2.2.1
theorem dX8_type_50 : decode cX8_type 50 = .ok (.ireturn, 1) := bdX8_type_42.2.2.2.2
theorem bdX8_clear_0 : decode cX8_clear 0 = .ok (.aload_n 0, 1) ∧ decode cX8_clear 1 = .ok (.getfield 76, 3) ∧ decode cX8_clear 4 = .ok (.istore_n 1, 1) ∧ decode cX8_clear 5 = .ok (.aload_n 0, 1) ∧ decode cX8_clear 6 = .ok (.iconst 0, 1) ∧ decode cX8_clear 7 = .ok (.putfield 76, 3) ∧ decode cX8_clear 10 = .ok (.iload_n 1, 1) ∧ decode cX8_clear 11 = .ok (.ireturn, 1) := by decide +kernel
theorem dX8_clear_0 : decode cX8_clear 0 = .ok (.aload_n 0, 1) := bdX8_clear_0.1
theorem dX8_clear_1 : decode cX8_clear 1 = .ok (.getfield 76, 3) := bdX8_clear_0.2.1
theorem dX8_clear_4 : decode cX8_clear 4 = .ok (.istore_n 1, 1) := bdX8_clear_0.2.2.1
theorem dX8_clear_5 : decode cX8_clear 5 = .ok (.aload_n 0, 1) := bdX8_clear_0.2.2.2.1
theorem dX8_clear_6 : decode cX8_clear 6 = .ok (.iconst 0, 1) := bdX8_clear_0.2.2.2.2.1
theorem dX8_clear_7 : decode cX8_clear 7 = .ok (.putfield 76, 3) := bdX8_clear_0.2.2.2.2.2.1
theorem dX8_clear_10 : decode cX8_clear 10 = .ok (.iload_n 1, 1) := bdX8_clear_0.2.2.2.2.2.2.1
theorem dX8_clear_11 : decode cX8_clear 11 = .ok (.ireturn, 1) := bdX8_clear_0.2.2.2.2.2.2.2
theorem bdX8_here_0 : decode cX8_here 0 = .ok (.aload_n 0, 1) ∧ decode cX8_here 1 = .ok (.getfield 80, 3) ∧ decode cX8_here 4 = .ok (.aload_n 0, 1) ∧ decode cX8_here 5 = .ok (.getfield 76, 3) ∧ decode cX8_here 8 = .ok (.if_icmp .ge 19, 3) ∧ decode cX8_here 11 = .ok (.aload_n 0, 1) ∧ decode cX8_here 12 = .ok (.getfield 7, 3) ∧ decode cX8_here 15 = .ok (.aload_n 0, 1) := by decide +kernel
theorem dX8_here_0 : decode cX8_here 0 = .ok (.aload_n 0, 1) := bdX8_here_0.1
theorem dX8_here_1 : decode cX8_here 1 = .ok (.getfield 80, 3) := bdX8_here_0.2.1
theorem dX8_here_4 : decode cX8_here 4 = .ok (.aload_n 0, 1) := bdX8_here_0.2.2.1
theorem dX8_here_5 : decode cX8_here 5 = .ok (.getfield 76, 3) := bdX8_here_0.2.2.2.1
theorem dX8_here_8 : decode cX8_here 8 = .ok (.if_icmp .ge 19, 3) := bdX8_here_0.2.2.2.2.1
theorem dX8_here_11 : decode cX8_here 11 = .ok (.aload_n 0, 1) := bdX8_here_0.2.2.2.2.2.1
theorem dX8_here_12 : decode cX8_here 12 = .ok (.getfield 7, 3) := bdX8_here_0.2.2.2.2.2.2.1
theorem dX8_here_15 : decode cX8_here 15 = .ok (.aload_n 0, 1) := bdX8_here_0.2.2.2.2.2.2.2
theorem bdX8_here_16 : decode cX8_here 16 = .ok (.getfield 80, 3) ∧ decode cX8_here 19 = .ok (.baload, 1) ∧ decode cX8_here 20 = .ok (.sipush 255, 3) ∧ decode cX8_here 23 = .ok (.iand, 1) ∧ decode cX8_here 24 = .ok (.goto 5, 3) ∧ decode cX8_here 27 = .ok (.bipush (-9), 2) ∧ decode cX8_here 29 = .ok (.ireturn, 1) := by decide +kernel
theorem dX8_here_16 : decode cX8_here 16 = .ok (.getfield 80, 3) := bdX8_here_16.1
theorem dX8_here_19 : decode cX8_here 19 = .ok (.baload, 1) := bdX8_here_16.2.1
theorem dX8_here_20 : decode cX8_here 20 = .ok (.sipush 255, 3) := bdX8_here_16.2.2.1
theorem dX8_here_23 : decode cX8_here 23 = .ok (.iand, 1) := bdX8_here_16.2.2.2.1
theorem dX8_here_24 : decode cX8_here 24 = .ok (.goto 5, 3) := bdX8_here_16.2.2.2.2.1
theorem dX8_here_27 : decode cX8_here 27 = .ok (.bipush (-9), 2) := bdX8_here_16.2.2.2.2.2.1
theorem dX8_here_29 : decode cX8_here 29 = .ok (.ireturn, 1) := bdX8_here_16.2.2.2.2.2.2
set_option maxRecDepth 20000 in
set_option maxRecDepth 100000 in
theorem ggX8_step_X8_here : GoodIn wsX8_step wsX8_here := goodIn_hd (goodIn_c ch_X8_step hc_X8_step ([.code yX8_here cX8_here 1 (some .int)] : List Cond) [(1, 8)] rfl (by decide +kernel)) (goodIn_app (goodIn_c ch_X8_step hc_X8_step ([.fieldLink RX8 80 "WordFletchersModel" "at" "I", .fieldLink RX8 76 "WordFletchersModel" "typed" "I", .fieldLink RX8 7 "WordFletchersModel" "text" "[B"] : List Cond) [(1, 0), (1, 9), (1, 10)] rfl (by decide +kernel)) (goodIn_sub (fun _ h => (List.mem_cons_of_mem _ (List.mem_append_right _ h))) gwX8))
set_option maxRecDepth 20000 in
theorem gX8_step_X8_here : GoodIn wsX8_step (wsV RX8 83 RX8 yX8_here wsX8_here) := goodIn_app (goodIn_of _ (by decide +kernel)) ggX8_step_X8_here
set_option maxRecDepth 20000 in
set_option maxRecDepth 100000 in
theorem ggX8_step_X8_in : GoodIn wsX8_step wsX8_in := goodIn_hd (goodIn_c ch_X8_step hc_X8_step ([.code yX8_in cX8_in 3 (some .boolean)] : List Cond) [(1, 13)] rfl (by decide +kernel)) (goodIn_c ch_X8_step hc_X8_step ([] : List Cond) [] rfl (by decide +kernel))
set_option maxRecDepth 20000 in
theorem gX8_step_X8_in : GoodIn wsX8_step (va_wsS RX8 72 yX8_in wsX8_in) := goodIn_app (goodIn_of _ (by decide +kernel)) ggX8_step_X8_in
theorem bdX8_step_0 : decode cX8_step 0 = .ok (.aload_n 0, 1) ∧ decode cX8_step 1 = .ok (.invokevirtual 83, 3) ∧ decode cX8_step 4 = .ok (.bipush 32, 2) ∧ decode cX8_step 6 = .ok (.if_icmp .ne 16, 3) ∧ decode cX8_step 9 = .ok (.aload_n 0, 1) ∧ decode cX8_step 10 = .ok (.dup, 1) ∧ decode cX8_step 11 = .ok (.getfield 80, 3) ∧ decode cX8_step 14 = .ok (.iconst 1, 1) := by decide +kernel
theorem dX8_step_0 : decode cX8_step 0 = .ok (.aload_n 0, 1) := bdX8_step_0.1
theorem dX8_step_1 : decode cX8_step 1 = .ok (.invokevirtual 83, 3) := bdX8_step_0.2.1
theorem dX8_step_4 : decode cX8_step 4 = .ok (.bipush 32, 2) := bdX8_step_0.2.2.1
theorem dX8_step_6 : decode cX8_step 6 = .ok (.if_icmp .ne 16, 3) := bdX8_step_0.2.2.2.1
theorem dX8_step_9 : decode cX8_step 9 = .ok (.aload_n 0, 1) := bdX8_step_0.2.2.2.2.1
theorem dX8_step_10 : decode cX8_step 10 = .ok (.dup, 1) := bdX8_step_0.2.2.2.2.2.1
theorem dX8_step_11 : decode cX8_step 11 = .ok (.getfield 80, 3) := bdX8_step_0.2.2.2.2.2.2.1
theorem dX8_step_14 : decode cX8_step 14 = .ok (.iconst 1, 1) := bdX8_step_0.2.2.2.2.2.2.2
theorem bdX8_step_15 : decode cX8_step 15 = .ok (.iadd, 1) ∧ decode cX8_step 16 = .ok (.putfield 80, 3) ∧ decode cX8_step 19 = .ok (.goto (-19), 3) ∧ decode cX8_step 22 = .ok (.aload_n 0, 1) ∧ decode cX8_step 23 = .ok (.aload_n 0, 1) ∧ decode cX8_step 24 = .ok (.getfield 80, 3) ∧ decode cX8_step 27 = .ok (.putfield 87, 3) ∧ decode cX8_step 30 = .ok (.aload_n 0, 1) := by decide +kernel
theorem dX8_step_15 : decode cX8_step 15 = .ok (.iadd, 1) := bdX8_step_15.1
theorem dX8_step_16 : decode cX8_step 16 = .ok (.putfield 80, 3) := bdX8_step_15.2.1
theorem dX8_step_19 : decode cX8_step 19 = .ok (.goto (-19), 3) := bdX8_step_15.2.2.1
theorem dX8_step_22 : decode cX8_step 22 = .ok (.aload_n 0, 1) := bdX8_step_15.2.2.2.1
theorem dX8_step_23 : decode cX8_step 23 = .ok (.aload_n 0, 1) := bdX8_step_15.2.2.2.2.1
theorem dX8_step_24 : decode cX8_step 24 = .ok (.getfield 80, 3) := bdX8_step_15.2.2.2.2.2.1
theorem dX8_step_27 : decode cX8_step 27 = .ok (.putfield 87, 3) := bdX8_step_15.2.2.2.2.2.2.1
theorem dX8_step_30 : decode cX8_step 30 = .ok (.aload_n 0, 1) := bdX8_step_15.2.2.2.2.2.2.2
theorem bdX8_step_31 : decode cX8_step 31 = .ok (.iconst 0, 1) ∧ decode cX8_step 32 = .ok (.putfield 90, 3) ∧ decode cX8_step 35 = .ok (.aload_n 0, 1) ∧ decode cX8_step 36 = .ok (.invokevirtual 83, 3) ∧ decode cX8_step 39 = .ok (.istore_n 1, 1) ∧ decode cX8_step 40 = .ok (.iload_n 1, 1) ∧ decode cX8_step 41 = .ok (.bipush (-9), 2) ∧ decode cX8_step 43 = .ok (.if_icmp .ne 11, 3) := by decide +kernel
theorem dX8_step_31 : decode cX8_step 31 = .ok (.iconst 0, 1) := bdX8_step_31.1
theorem dX8_step_32 : decode cX8_step 32 = .ok (.putfield 90, 3) := bdX8_step_31.2.1
theorem dX8_step_35 : decode cX8_step 35 = .ok (.aload_n 0, 1) := bdX8_step_31.2.2.1
theorem dX8_step_36 : decode cX8_step 36 = .ok (.invokevirtual 83, 3) := bdX8_step_31.2.2.2.1
theorem dX8_step_39 : decode cX8_step 39 = .ok (.istore_n 1, 1) := bdX8_step_31.2.2.2.2.1
theorem dX8_step_40 : decode cX8_step 40 = .ok (.iload_n 1, 1) := bdX8_step_31.2.2.2.2.2.1
theorem dX8_step_41 : decode cX8_step 41 = .ok (.bipush (-9), 2) := bdX8_step_31.2.2.2.2.2.2.1
theorem dX8_step_43 : decode cX8_step 43 = .ok (.if_icmp .ne 11, 3) := bdX8_step_31.2.2.2.2.2.2.2
theorem bdX8_step_46 : decode cX8_step 46 = .ok (.aload_n 0, 1) ∧ decode cX8_step 47 = .ok (.iconst 4, 1) ∧ decode cX8_step 48 = .ok (.putfield 93, 3) ∧ decode cX8_step 51 = .ok (.goto 209, 3) ∧ decode cX8_step 54 = .ok (.iload_n 1, 1) ∧ decode cX8_step 55 = .ok (.bipush 48, 2) ∧ decode cX8_step 57 = .ok (.bipush 57, 2) ∧ decode cX8_step 59 = .ok (.invokestatic 72, 3) := by decide +kernel
theorem dX8_step_46 : decode cX8_step 46 = .ok (.aload_n 0, 1) := bdX8_step_46.1
theorem dX8_step_47 : decode cX8_step 47 = .ok (.iconst 4, 1) := bdX8_step_46.2.1
theorem dX8_step_48 : decode cX8_step 48 = .ok (.putfield 93, 3) := bdX8_step_46.2.2.1
theorem dX8_step_51 : decode cX8_step 51 = .ok (.goto 209, 3) := bdX8_step_46.2.2.2.1
theorem dX8_step_54 : decode cX8_step 54 = .ok (.iload_n 1, 1) := bdX8_step_46.2.2.2.2.1
theorem dX8_step_55 : decode cX8_step 55 = .ok (.bipush 48, 2) := bdX8_step_46.2.2.2.2.2.1
theorem dX8_step_57 : decode cX8_step 57 = .ok (.bipush 57, 2) := bdX8_step_46.2.2.2.2.2.2.1
theorem dX8_step_59 : decode cX8_step 59 = .ok (.invokestatic 72, 3) := bdX8_step_46.2.2.2.2.2.2.2
theorem bdX8_step_62 : decode cX8_step 62 = .ok (.ifCond .eq 105, 3) ∧ decode cX8_step 65 = .ok (.aload_n 0, 1) ∧ decode cX8_step 66 = .ok (.invokevirtual 83, 3) ∧ decode cX8_step 69 = .ok (.bipush 48, 2) ∧ decode cX8_step 71 = .ok (.bipush 57, 2) ∧ decode cX8_step 73 = .ok (.invokestatic 72, 3) ∧ decode cX8_step 76 = .ok (.ifCond .eq 51, 3) ∧ decode cX8_step 79 = .ok (.aload_n 0, 1) := by decide +kernel
theorem dX8_step_62 : decode cX8_step 62 = .ok (.ifCond .eq 105, 3) := bdX8_step_62.1
theorem dX8_step_65 : decode cX8_step 65 = .ok (.aload_n 0, 1) := bdX8_step_62.2.1
theorem dX8_step_66 : decode cX8_step 66 = .ok (.invokevirtual 83, 3) := bdX8_step_62.2.2.1
theorem dX8_step_69 : decode cX8_step 69 = .ok (.bipush 48, 2) := bdX8_step_62.2.2.2.1
theorem dX8_step_71 : decode cX8_step 71 = .ok (.bipush 57, 2) := bdX8_step_62.2.2.2.2.1
theorem dX8_step_73 : decode cX8_step 73 = .ok (.invokestatic 72, 3) := bdX8_step_62.2.2.2.2.2.1
theorem dX8_step_76 : decode cX8_step 76 = .ok (.ifCond .eq 51, 3) := bdX8_step_62.2.2.2.2.2.2.1
theorem dX8_step_79 : decode cX8_step 79 = .ok (.aload_n 0, 1) := bdX8_step_62.2.2.2.2.2.2.2
theorem bdX8_step_80 : decode cX8_step 80 = .ok (.aload_n 0, 1) ∧ decode cX8_step 81 = .ok (.getfield 90, 3) ∧ decode cX8_step 84 = .ok (.bipush 99, 2) ∧ decode cX8_step 86 = .ok (.if_icmp .le 10, 3) ∧ decode cX8_step 89 = .ok (.aload_n 0, 1) ∧ decode cX8_step 90 = .ok (.getfield 90, 3) ∧ decode cX8_step 93 = .ok (.goto 18, 3) ∧ decode cX8_step 96 = .ok (.bipush 10, 2) := by decide +kernel
theorem dX8_step_80 : decode cX8_step 80 = .ok (.aload_n 0, 1) := bdX8_step_80.1
theorem dX8_step_81 : decode cX8_step 81 = .ok (.getfield 90, 3) := bdX8_step_80.2.1
theorem dX8_step_84 : decode cX8_step 84 = .ok (.bipush 99, 2) := bdX8_step_80.2.2.1
theorem dX8_step_86 : decode cX8_step 86 = .ok (.if_icmp .le 10, 3) := bdX8_step_80.2.2.2.1
theorem dX8_step_89 : decode cX8_step 89 = .ok (.aload_n 0, 1) := bdX8_step_80.2.2.2.2.1
theorem dX8_step_90 : decode cX8_step 90 = .ok (.getfield 90, 3) := bdX8_step_80.2.2.2.2.2.1
theorem dX8_step_93 : decode cX8_step 93 = .ok (.goto 18, 3) := bdX8_step_80.2.2.2.2.2.2.1
theorem dX8_step_96 : decode cX8_step 96 = .ok (.bipush 10, 2) := bdX8_step_80.2.2.2.2.2.2.2
theorem bdX8_step_98 : decode cX8_step 98 = .ok (.aload_n 0, 1) ∧ decode cX8_step 99 = .ok (.getfield 90, 3) ∧ decode cX8_step 102 = .ok (.imul, 1) ∧ decode cX8_step 103 = .ok (.aload_n 0, 1) ∧ decode cX8_step 104 = .ok (.invokevirtual 83, 3) ∧ decode cX8_step 107 = .ok (.iadd, 1) ∧ decode cX8_step 108 = .ok (.bipush 48, 2) ∧ decode cX8_step 110 = .ok (.isub, 1) := by decide +kernel
theorem dX8_step_98 : decode cX8_step 98 = .ok (.aload_n 0, 1) := bdX8_step_98.1
theorem dX8_step_99 : decode cX8_step 99 = .ok (.getfield 90, 3) := bdX8_step_98.2.1
theorem dX8_step_102 : decode cX8_step 102 = .ok (.imul, 1) := bdX8_step_98.2.2.1
theorem dX8_step_103 : decode cX8_step 103 = .ok (.aload_n 0, 1) := bdX8_step_98.2.2.2.1
theorem dX8_step_104 : decode cX8_step 104 = .ok (.invokevirtual 83, 3) := bdX8_step_98.2.2.2.2.1
theorem dX8_step_107 : decode cX8_step 107 = .ok (.iadd, 1) := bdX8_step_98.2.2.2.2.2.1
theorem dX8_step_108 : decode cX8_step 108 = .ok (.bipush 48, 2) := bdX8_step_98.2.2.2.2.2.2.1
theorem dX8_step_110 : decode cX8_step 110 = .ok (.isub, 1) := bdX8_step_98.2.2.2.2.2.2.2
theorem bdX8_step_111 : decode cX8_step 111 = .ok (.putfield 90, 3) ∧ decode cX8_step 114 = .ok (.aload_n 0, 1) ∧ decode cX8_step 115 = .ok (.dup, 1) ∧ decode cX8_step 116 = .ok (.getfield 80, 3) ∧ decode cX8_step 119 = .ok (.iconst 1, 1) ∧ decode cX8_step 120 = .ok (.iadd, 1) ∧ decode cX8_step 121 = .ok (.putfield 80, 3) ∧ decode cX8_step 124 = .ok (.goto (-59), 3) := by decide +kernel
theorem dX8_step_111 : decode cX8_step 111 = .ok (.putfield 90, 3) := bdX8_step_111.1
theorem dX8_step_114 : decode cX8_step 114 = .ok (.aload_n 0, 1) := bdX8_step_111.2.1
theorem dX8_step_115 : decode cX8_step 115 = .ok (.dup, 1) := bdX8_step_111.2.2.1
theorem dX8_step_116 : decode cX8_step 116 = .ok (.getfield 80, 3) := bdX8_step_111.2.2.2.1
theorem dX8_step_119 : decode cX8_step 119 = .ok (.iconst 1, 1) := bdX8_step_111.2.2.2.2.1
theorem dX8_step_120 : decode cX8_step 120 = .ok (.iadd, 1) := bdX8_step_111.2.2.2.2.2.1
theorem dX8_step_121 : decode cX8_step 121 = .ok (.putfield 80, 3) := bdX8_step_111.2.2.2.2.2.2.1
theorem dX8_step_124 : decode cX8_step 124 = .ok (.goto (-59), 3) := bdX8_step_111.2.2.2.2.2.2.2
theorem bdX8_step_127 : decode cX8_step 127 = .ok (.aload_n 0, 1) ∧ decode cX8_step 128 = .ok (.aload_n 0, 1) ∧ decode cX8_step 129 = .ok (.getfield 90, 3) ∧ decode cX8_step 132 = .ok (.bipush 99, 2) ∧ decode cX8_step 134 = .ok (.if_icmp .gt 22, 3) ∧ decode cX8_step 137 = .ok (.iload_n 1, 1) ∧ decode cX8_step 138 = .ok (.bipush 48, 2) ∧ decode cX8_step 140 = .ok (.if_icmp .ne 20, 3) := by decide +kernel
theorem dX8_step_127 : decode cX8_step 127 = .ok (.aload_n 0, 1) := bdX8_step_127.1
theorem dX8_step_128 : decode cX8_step 128 = .ok (.aload_n 0, 1) := bdX8_step_127.2.1
theorem dX8_step_129 : decode cX8_step 129 = .ok (.getfield 90, 3) := bdX8_step_127.2.2.1
theorem dX8_step_132 : decode cX8_step 132 = .ok (.bipush 99, 2) := bdX8_step_127.2.2.2.1
theorem dX8_step_134 : decode cX8_step 134 = .ok (.if_icmp .gt 22, 3) := bdX8_step_127.2.2.2.2.1
theorem dX8_step_137 : decode cX8_step 137 = .ok (.iload_n 1, 1) := bdX8_step_127.2.2.2.2.2.1
theorem dX8_step_138 : decode cX8_step 138 = .ok (.bipush 48, 2) := bdX8_step_127.2.2.2.2.2.2.1
theorem dX8_step_140 : decode cX8_step 140 = .ok (.if_icmp .ne 20, 3) := bdX8_step_127.2.2.2.2.2.2.2
theorem bdX8_step_143 : decode cX8_step 143 = .ok (.aload_n 0, 1) ∧ decode cX8_step 144 = .ok (.getfield 80, 3) ∧ decode cX8_step 147 = .ok (.aload_n 0, 1) ∧ decode cX8_step 148 = .ok (.getfield 87, 3) ∧ decode cX8_step 151 = .ok (.isub, 1) ∧ decode cX8_step 152 = .ok (.iconst 1, 1) ∧ decode cX8_step 153 = .ok (.if_icmp .le 7, 3) ∧ decode cX8_step 156 = .ok (.iconst 5, 1) := by decide +kernel
theorem dX8_step_143 : decode cX8_step 143 = .ok (.aload_n 0, 1) := bdX8_step_143.1
theorem dX8_step_144 : decode cX8_step 144 = .ok (.getfield 80, 3) := bdX8_step_143.2.1
theorem dX8_step_147 : decode cX8_step 147 = .ok (.aload_n 0, 1) := bdX8_step_143.2.2.1
theorem dX8_step_148 : decode cX8_step 148 = .ok (.getfield 87, 3) := bdX8_step_143.2.2.2.1
theorem dX8_step_151 : decode cX8_step 151 = .ok (.isub, 1) := bdX8_step_143.2.2.2.2.1
theorem dX8_step_152 : decode cX8_step 152 = .ok (.iconst 1, 1) := bdX8_step_143.2.2.2.2.2.1
theorem dX8_step_153 : decode cX8_step 153 = .ok (.if_icmp .le 7, 3) := bdX8_step_143.2.2.2.2.2.2.1
theorem dX8_step_156 : decode cX8_step 156 = .ok (.iconst 5, 1) := bdX8_step_143.2.2.2.2.2.2.2
theorem bdX8_step_157 : decode cX8_step 157 = .ok (.goto 4, 3) ∧ decode cX8_step 160 = .ok (.iconst 2, 1) ∧ decode cX8_step 161 = .ok (.putfield 93, 3) ∧ decode cX8_step 164 = .ok (.goto 96, 3) ∧ decode cX8_step 167 = .ok (.iload_n 1, 1) ∧ decode cX8_step 168 = .ok (.bipush 97, 2) ∧ decode cX8_step 170 = .ok (.bipush 122, 2) ∧ decode cX8_step 172 = .ok (.invokestatic 72, 3) := by decide +kernel
theorem dX8_step_157 : decode cX8_step 157 = .ok (.goto 4, 3) := bdX8_step_157.1
theorem dX8_step_160 : decode cX8_step 160 = .ok (.iconst 2, 1) := bdX8_step_157.2.1
theorem dX8_step_161 : decode cX8_step 161 = .ok (.putfield 93, 3) := bdX8_step_157.2.2.1
theorem dX8_step_164 : decode cX8_step 164 = .ok (.goto 96, 3) := bdX8_step_157.2.2.2.1
theorem dX8_step_167 : decode cX8_step 167 = .ok (.iload_n 1, 1) := bdX8_step_157.2.2.2.2.1
theorem dX8_step_168 : decode cX8_step 168 = .ok (.bipush 97, 2) := bdX8_step_157.2.2.2.2.2.1
theorem dX8_step_170 : decode cX8_step 170 = .ok (.bipush 122, 2) := bdX8_step_157.2.2.2.2.2.2.1
theorem dX8_step_172 : decode cX8_step 172 = .ok (.invokestatic 72, 3) := bdX8_step_157.2.2.2.2.2.2.2
theorem bdX8_step_175 : decode cX8_step 175 = .ok (.ifCond .eq 60, 3) ∧ decode cX8_step 178 = .ok (.aload_n 0, 1) ∧ decode cX8_step 179 = .ok (.invokevirtual 83, 3) ∧ decode cX8_step 182 = .ok (.bipush 97, 2) ∧ decode cX8_step 184 = .ok (.bipush 122, 2) ∧ decode cX8_step 186 = .ok (.invokestatic 72, 3) ∧ decode cX8_step 189 = .ok (.ifCond .eq 16, 3) ∧ decode cX8_step 192 = .ok (.aload_n 0, 1) := by decide +kernel
theorem dX8_step_175 : decode cX8_step 175 = .ok (.ifCond .eq 60, 3) := bdX8_step_175.1
theorem dX8_step_178 : decode cX8_step 178 = .ok (.aload_n 0, 1) := bdX8_step_175.2.1
theorem dX8_step_179 : decode cX8_step 179 = .ok (.invokevirtual 83, 3) := bdX8_step_175.2.2.1
theorem dX8_step_182 : decode cX8_step 182 = .ok (.bipush 97, 2) := bdX8_step_175.2.2.2.1
theorem dX8_step_184 : decode cX8_step 184 = .ok (.bipush 122, 2) := bdX8_step_175.2.2.2.2.1
theorem dX8_step_186 : decode cX8_step 186 = .ok (.invokestatic 72, 3) := bdX8_step_175.2.2.2.2.2.1
theorem dX8_step_189 : decode cX8_step 189 = .ok (.ifCond .eq 16, 3) := bdX8_step_175.2.2.2.2.2.2.1
theorem dX8_step_192 : decode cX8_step 192 = .ok (.aload_n 0, 1) := bdX8_step_175.2.2.2.2.2.2.2
theorem bdX8_step_193 : decode cX8_step 193 = .ok (.dup, 1) ∧ decode cX8_step 194 = .ok (.getfield 80, 3) ∧ decode cX8_step 197 = .ok (.iconst 1, 1) ∧ decode cX8_step 198 = .ok (.iadd, 1) ∧ decode cX8_step 199 = .ok (.putfield 80, 3) ∧ decode cX8_step 202 = .ok (.goto (-24), 3) ∧ decode cX8_step 205 = .ok (.aload_n 0, 1) ∧ decode cX8_step 206 = .ok (.aload_n 0, 1) := by decide +kernel
theorem dX8_step_193 : decode cX8_step 193 = .ok (.dup, 1) := bdX8_step_193.1
theorem dX8_step_194 : decode cX8_step 194 = .ok (.getfield 80, 3) := bdX8_step_193.2.1
theorem dX8_step_197 : decode cX8_step 197 = .ok (.iconst 1, 1) := bdX8_step_193.2.2.1
theorem dX8_step_198 : decode cX8_step 198 = .ok (.iadd, 1) := bdX8_step_193.2.2.2.1
theorem dX8_step_199 : decode cX8_step 199 = .ok (.putfield 80, 3) := bdX8_step_193.2.2.2.2.1
theorem dX8_step_202 : decode cX8_step 202 = .ok (.goto (-24), 3) := bdX8_step_193.2.2.2.2.2.1
theorem dX8_step_205 : decode cX8_step 205 = .ok (.aload_n 0, 1) := bdX8_step_193.2.2.2.2.2.2.1
theorem dX8_step_206 : decode cX8_step 206 = .ok (.aload_n 0, 1) := bdX8_step_193.2.2.2.2.2.2.2
theorem bdX8_step_207 : decode cX8_step 207 = .ok (.getfield 80, 3) ∧ decode cX8_step 210 = .ok (.aload_n 0, 1) ∧ decode cX8_step 211 = .ok (.getfield 87, 3) ∧ decode cX8_step 214 = .ok (.isub, 1) ∧ decode cX8_step 215 = .ok (.iconst 1, 1) ∧ decode cX8_step 216 = .ok (.if_icmp .ne 7, 3) ∧ decode cX8_step 219 = .ok (.iload_n 1, 1) ∧ decode cX8_step 220 = .ok (.goto 4, 3) := by decide +kernel
theorem dX8_step_207 : decode cX8_step 207 = .ok (.getfield 80, 3) := bdX8_step_207.1
theorem dX8_step_210 : decode cX8_step 210 = .ok (.aload_n 0, 1) := bdX8_step_207.2.1
theorem dX8_step_211 : decode cX8_step 211 = .ok (.getfield 87, 3) := bdX8_step_207.2.2.1
theorem dX8_step_214 : decode cX8_step 214 = .ok (.isub, 1) := bdX8_step_207.2.2.2.1
theorem dX8_step_215 : decode cX8_step 215 = .ok (.iconst 1, 1) := bdX8_step_207.2.2.2.2.1
theorem dX8_step_216 : decode cX8_step 216 = .ok (.if_icmp .ne 7, 3) := bdX8_step_207.2.2.2.2.2.1
theorem dX8_step_219 : decode cX8_step 219 = .ok (.iload_n 1, 1) := bdX8_step_207.2.2.2.2.2.2.1
theorem dX8_step_220 : decode cX8_step 220 = .ok (.goto 4, 3) := bdX8_step_207.2.2.2.2.2.2.2
theorem bdX8_step_223 : decode cX8_step 223 = .ok (.iconst 0, 1) ∧ decode cX8_step 224 = .ok (.putfield 90, 3) ∧ decode cX8_step 227 = .ok (.aload_n 0, 1) ∧ decode cX8_step 228 = .ok (.iconst 1, 1) ∧ decode cX8_step 229 = .ok (.putfield 93, 3) ∧ decode cX8_step 232 = .ok (.goto 28, 3) ∧ decode cX8_step 235 = .ok (.aload_n 0, 1) ∧ decode cX8_step 236 = .ok (.dup, 1) := by decide +kernel
theorem dX8_step_223 : decode cX8_step 223 = .ok (.iconst 0, 1) := bdX8_step_223.1
theorem dX8_step_224 : decode cX8_step 224 = .ok (.putfield 90, 3) := bdX8_step_223.2.1
theorem dX8_step_227 : decode cX8_step 227 = .ok (.aload_n 0, 1) := bdX8_step_223.2.2.1
theorem dX8_step_228 : decode cX8_step 228 = .ok (.iconst 1, 1) := bdX8_step_223.2.2.2.1
theorem dX8_step_229 : decode cX8_step 229 = .ok (.putfield 93, 3) := bdX8_step_223.2.2.2.2.1
theorem dX8_step_232 : decode cX8_step 232 = .ok (.goto 28, 3) := bdX8_step_223.2.2.2.2.2.1
theorem dX8_step_235 : decode cX8_step 235 = .ok (.aload_n 0, 1) := bdX8_step_223.2.2.2.2.2.2.1
theorem dX8_step_236 : decode cX8_step 236 = .ok (.dup, 1) := bdX8_step_223.2.2.2.2.2.2.2
theorem bdX8_step_237 : decode cX8_step 237 = .ok (.getfield 80, 3) ∧ decode cX8_step 240 = .ok (.iconst 1, 1) ∧ decode cX8_step 241 = .ok (.iadd, 1) ∧ decode cX8_step 242 = .ok (.putfield 80, 3) ∧ decode cX8_step 245 = .ok (.aload_n 0, 1) ∧ decode cX8_step 246 = .ok (.iload_n 1, 1) ∧ decode cX8_step 247 = .ok (.bipush 59, 2) ∧ decode cX8_step 249 = .ok (.if_icmp .ne 7, 3) := by decide +kernel
theorem dX8_step_237 : decode cX8_step 237 = .ok (.getfield 80, 3) := bdX8_step_237.1
theorem dX8_step_240 : decode cX8_step 240 = .ok (.iconst 1, 1) := bdX8_step_237.2.1
theorem dX8_step_241 : decode cX8_step 241 = .ok (.iadd, 1) := bdX8_step_237.2.2.1
theorem dX8_step_242 : decode cX8_step 242 = .ok (.putfield 80, 3) := bdX8_step_237.2.2.2.1
theorem dX8_step_245 : decode cX8_step 245 = .ok (.aload_n 0, 1) := bdX8_step_237.2.2.2.2.1
theorem dX8_step_246 : decode cX8_step 246 = .ok (.iload_n 1, 1) := bdX8_step_237.2.2.2.2.2.1
theorem dX8_step_247 : decode cX8_step 247 = .ok (.bipush 59, 2) := bdX8_step_237.2.2.2.2.2.2.1
theorem dX8_step_249 : decode cX8_step 249 = .ok (.if_icmp .ne 7, 3) := bdX8_step_237.2.2.2.2.2.2.2
theorem bdX8_step_252 : decode cX8_step 252 = .ok (.iconst 3, 1) ∧ decode cX8_step 253 = .ok (.goto 4, 3) ∧ decode cX8_step 256 = .ok (.iconst 5, 1) ∧ decode cX8_step 257 = .ok (.putfield 93, 3) ∧ decode cX8_step 260 = .ok (.return_, 1) := by decide +kernel
theorem dX8_step_252 : decode cX8_step 252 = .ok (.iconst 3, 1) := bdX8_step_252.1
theorem dX8_step_253 : decode cX8_step 253 = .ok (.goto 4, 3) := bdX8_step_252.2.1
theorem dX8_step_256 : decode cX8_step 256 = .ok (.iconst 5, 1) := bdX8_step_252.2.2.1
theorem dX8_step_257 : decode cX8_step 257 = .ok (.putfield 93, 3) := bdX8_step_252.2.2.2.1
theorem dX8_step_260 : decode cX8_step 260 = .ok (.return_, 1) := bdX8_step_252.2.2.2.2
set_option maxRecDepth 20000 in
set_option maxRecDepth 100000 in
theorem ggX8_due_X8_step : GoodIn wsX8_due wsX8_step := goodIn_hd (goodIn_c ch_X8_due hc_X8_due ([.code yX8_step cX8_step 2 none] : List Cond) [(1, 5)] rfl (by decide +kernel)) (goodIn_app (goodIn_c ch_X8_due hc_X8_due ([.fieldLink RX8 80 "WordFletchersModel" "at" "I", .fieldLink RX8 87 "WordFletchersModel" "stands" "I", .fieldLink RX8 90 "WordFletchersModel" "value" "I", .fieldLink RX8 93 "WordFletchersModel" "sort" "I", .methodLink RX8 83 yX8_here, .instanceMethod yX8_here, .selects RX8 yX8_here yX8_here, .initialized RX8, .code yX8_here cX8_here 1 (some .int), .fieldLink RX8 76 "WordFletchersModel" "typed" "I", .fieldLink RX8 7 "WordFletchersModel" "text" "[B", .methodLink RX8 72 yX8_in, .static yX8_in, .code yX8_in cX8_in 3 (some .boolean)] : List Cond) [(1, 6), (1, 7), (1, 8), (1, 9), (1, 10), (1, 11), (1, 12), (1, 4), (1, 13), (1, 14), (1, 15), (1, 16), (1, 17), (1, 18)] rfl (by decide +kernel)) (goodIn_sub (fun _ h => (List.mem_cons_of_mem _ (List.mem_append_right _ h))) gwX8))
set_option maxRecDepth 20000 in
theorem gX8_due_X8_step : GoodIn wsX8_due (wsV RX8 100 RX8 yX8_step wsX8_step) := goodIn_app (goodIn_of _ (by decide +kernel)) ggX8_due_X8_step
theorem bdX8_due_0 : decode cX8_due 0 = .ok (.aload_n 0, 1) ∧ decode cX8_due 1 = .ok (.getfield 96, 3) ∧ decode cX8_due 4 = .ok (.ifCond .eq 4, 3) ∧ decode cX8_due 7 = .ok (.return_, 1) ∧ decode cX8_due 8 = .ok (.iload_n 1, 1) ∧ decode cX8_due 9 = .ok (.ifCond .eq 10, 3) ∧ decode cX8_due 12 = .ok (.aload_n 0, 1) ∧ decode cX8_due 13 = .ok (.invokevirtual 100, 3) := by decide +kernel
theorem dX8_due_0 : decode cX8_due 0 = .ok (.aload_n 0, 1) := bdX8_due_0.1
theorem dX8_due_1 : decode cX8_due 1 = .ok (.getfield 96, 3) := bdX8_due_0.2.1
theorem dX8_due_4 : decode cX8_due 4 = .ok (.ifCond .eq 4, 3) := bdX8_due_0.2.2.1
theorem dX8_due_7 : decode cX8_due 7 = .ok (.return_, 1) := bdX8_due_0.2.2.2.1
theorem dX8_due_8 : decode cX8_due 8 = .ok (.iload_n 1, 1) := bdX8_due_0.2.2.2.2.1
theorem dX8_due_9 : decode cX8_due 9 = .ok (.ifCond .eq 10, 3) := bdX8_due_0.2.2.2.2.2.1
theorem dX8_due_12 : decode cX8_due 12 = .ok (.aload_n 0, 1) := bdX8_due_0.2.2.2.2.2.2.1
theorem dX8_due_13 : decode cX8_due 13 = .ok (.invokevirtual 100, 3) := bdX8_due_0.2.2.2.2.2.2.2
theorem bdX8_due_16 : decode cX8_due 16 = .ok (.goto 8, 3) ∧ decode cX8_due 19 = .ok (.aload_n 0, 1) ∧ decode cX8_due 20 = .ok (.iconst 1, 1) ∧ decode cX8_due 21 = .ok (.putfield 96, 3) ∧ decode cX8_due 24 = .ok (.return_, 1) := by decide +kernel
theorem dX8_due_16 : decode cX8_due 16 = .ok (.goto 8, 3) := bdX8_due_16.1
theorem dX8_due_19 : decode cX8_due 19 = .ok (.aload_n 0, 1) := bdX8_due_16.2.1
theorem dX8_due_20 : decode cX8_due 20 = .ok (.iconst 1, 1) := bdX8_due_16.2.2.1
theorem dX8_due_21 : decode cX8_due 21 = .ok (.putfield 96, 3) := bdX8_due_16.2.2.2.1
theorem dX8_due_24 : decode cX8_due 24 = .ok (.return_, 1) := bdX8_due_16.2.2.2.2
set_option maxRecDepth 20000 in
set_option maxRecDepth 100000 in
theorem ggX8_number_X8_in : GoodIn wsX8_number wsX8_in := goodIn_hd (goodIn_c ch_X8_number hc_X8_number ([.code yX8_in cX8_in 3 (some .boolean)] : List Cond) [(1, 5)] rfl (by decide +kernel)) (goodIn_c ch_X8_number hc_X8_number ([] : List Cond) [] rfl (by decide +kernel))
set_option maxRecDepth 20000 in
theorem gX8_number_X8_in : GoodIn wsX8_number (va_wsS RX8 72 yX8_in wsX8_in) := goodIn_app (goodIn_of _ (by decide +kernel)) ggX8_number_X8_in
set_option maxRecDepth 20000 in
set_option maxRecDepth 100000 in
theorem ggX8_number_X8_due : GoodIn wsX8_number wsX8_due := goodIn_hd (goodIn_c ch_X8_number hc_X8_number ([.code yX8_due cX8_due 2 none] : List Cond) [(1, 9)] rfl (by decide +kernel)) (goodIn_app (goodIn_c ch_X8_number hc_X8_number ([.fieldLink RX8 96 "WordFletchersModel" "isWrong" "Z", .methodLink RX8 100 yX8_step, .instanceMethod yX8_step, .selects RX8 yX8_step yX8_step, .initialized RX8, .code yX8_step cX8_step 2 none, .fieldLink RX8 80 "WordFletchersModel" "at" "I", .fieldLink RX8 87 "WordFletchersModel" "stands" "I", .fieldLink RX8 90 "WordFletchersModel" "value" "I", .fieldLink RX8 93 "WordFletchersModel" "sort" "I", .methodLink RX8 83 yX8_here, .instanceMethod yX8_here, .selects RX8 yX8_here yX8_here, .code yX8_here cX8_here 1 (some .int), .fieldLink RX8 76 "WordFletchersModel" "typed" "I", .fieldLink RX8 7 "WordFletchersModel" "text" "[B", .methodLink RX8 72 yX8_in, .static yX8_in, .code yX8_in cX8_in 3 (some .boolean)] : List Cond) [(1, 10), (1, 11), (1, 12), (1, 13), (1, 4), (1, 14), (1, 15), (1, 16), (1, 0), (1, 1), (1, 17), (1, 18), (1, 19), (1, 20), (1, 21), (1, 22), (1, 2), (1, 3), (1, 5)] rfl (by decide +kernel)) (goodIn_sub (fun _ h => (List.mem_cons_of_mem _ (List.mem_append_right _ h))) gwX8))
set_option maxRecDepth 20000 in
theorem gX8_number_X8_due : GoodIn wsX8_number (wsV RX8 103 RX8 yX8_due wsX8_due) := goodIn_app (goodIn_of _ (by decide +kernel)) ggX8_number_X8_due
theorem bdX8_number_0 : decode cX8_number 0 = .ok (.aload_n 0, 1) ∧ decode cX8_number 1 = .ok (.getfield 90, 3) ∧ decode cX8_number 4 = .ok (.istore_n 3, 1) ∧ decode cX8_number 5 = .ok (.aload_n 0, 1) ∧ decode cX8_number 6 = .ok (.aload_n 0, 1) ∧ decode cX8_number 7 = .ok (.getfield 93, 3) ∧ decode cX8_number 10 = .ok (.iconst 2, 1) ∧ decode cX8_number 11 = .ok (.if_icmp .ne 16, 3) := by decide +kernel
theorem dX8_number_0 : decode cX8_number 0 = .ok (.aload_n 0, 1) := bdX8_number_0.1
theorem dX8_number_1 : decode cX8_number 1 = .ok (.getfield 90, 3) := bdX8_number_0.2.1
theorem dX8_number_4 : decode cX8_number 4 = .ok (.istore_n 3, 1) := bdX8_number_0.2.2.1
theorem dX8_number_5 : decode cX8_number 5 = .ok (.aload_n 0, 1) := bdX8_number_0.2.2.2.1
theorem dX8_number_6 : decode cX8_number 6 = .ok (.aload_n 0, 1) := bdX8_number_0.2.2.2.2.1
theorem dX8_number_7 : decode cX8_number 7 = .ok (.getfield 93, 3) := bdX8_number_0.2.2.2.2.2.1
theorem dX8_number_10 : decode cX8_number 10 = .ok (.iconst 2, 1) := bdX8_number_0.2.2.2.2.2.2.1
theorem dX8_number_11 : decode cX8_number 11 = .ok (.if_icmp .ne 16, 3) := bdX8_number_0.2.2.2.2.2.2.2
theorem bdX8_number_14 : decode cX8_number 14 = .ok (.iload_n 3, 1) ∧ decode cX8_number 15 = .ok (.iload_n 1, 1) ∧ decode cX8_number 16 = .ok (.iload_n 2, 1) ∧ decode cX8_number 17 = .ok (.invokestatic 72, 3) ∧ decode cX8_number 20 = .ok (.ifCond .eq 7, 3) ∧ decode cX8_number 23 = .ok (.iconst 1, 1) ∧ decode cX8_number 24 = .ok (.goto 4, 3) ∧ decode cX8_number 27 = .ok (.iconst 0, 1) := by decide +kernel
theorem dX8_number_14 : decode cX8_number 14 = .ok (.iload_n 3, 1) := bdX8_number_14.1
theorem dX8_number_15 : decode cX8_number 15 = .ok (.iload_n 1, 1) := bdX8_number_14.2.1
theorem dX8_number_16 : decode cX8_number 16 = .ok (.iload_n 2, 1) := bdX8_number_14.2.2.1
theorem dX8_number_17 : decode cX8_number 17 = .ok (.invokestatic 72, 3) := bdX8_number_14.2.2.2.1
theorem dX8_number_20 : decode cX8_number 20 = .ok (.ifCond .eq 7, 3) := bdX8_number_14.2.2.2.2.1
theorem dX8_number_23 : decode cX8_number 23 = .ok (.iconst 1, 1) := bdX8_number_14.2.2.2.2.2.1
theorem dX8_number_24 : decode cX8_number 24 = .ok (.goto 4, 3) := bdX8_number_14.2.2.2.2.2.2.1
theorem dX8_number_27 : decode cX8_number 27 = .ok (.iconst 0, 1) := bdX8_number_14.2.2.2.2.2.2.2
theorem bdX8_number_28 : decode cX8_number 28 = .ok (.invokevirtual 103, 3) ∧ decode cX8_number 31 = .ok (.iload_n 3, 1) ∧ decode cX8_number 32 = .ok (.ireturn, 1) := by decide +kernel
theorem dX8_number_28 : decode cX8_number 28 = .ok (.invokevirtual 103, 3) := bdX8_number_28.1
theorem dX8_number_31 : decode cX8_number 31 = .ok (.iload_n 3, 1) := bdX8_number_28.2.1
theorem dX8_number_32 : decode cX8_number 32 = .ok (.ireturn, 1) := bdX8_number_28.2.2
set_option maxRecDepth 20000 in
set_option maxRecDepth 100000 in
theorem ggX8_blow_X8_number : GoodIn wsX8_blow wsX8_number := goodIn_hd (goodIn_c ch_X8_blow hc_X8_blow ([.code yX8_number cX8_number 4 (some .int)] : List Cond) [(1, 9)] rfl (by decide +kernel)) (goodIn_app (goodIn_c ch_X8_blow hc_X8_blow ([.fieldLink RX8 90 "WordFletchersModel" "value" "I", .fieldLink RX8 93 "WordFletchersModel" "sort" "I", .methodLink RX8 72 yX8_in, .static yX8_in, .initialized RX8, .code yX8_in cX8_in 3 (some .boolean), .methodLink RX8 103 yX8_due, .instanceMethod yX8_due, .selects RX8 yX8_due yX8_due, .code yX8_due cX8_due 2 none, .fieldLink RX8 96 "WordFletchersModel" "isWrong" "Z", .methodLink RX8 100 yX8_step, .instanceMethod yX8_step, .selects RX8 yX8_step yX8_step, .code yX8_step cX8_step 2 none, .fieldLink RX8 80 "WordFletchersModel" "at" "I", .fieldLink RX8 87 "WordFletchersModel" "stands" "I", .methodLink RX8 83 yX8_here, .instanceMethod yX8_here, .selects RX8 yX8_here yX8_here, .code yX8_here cX8_here 1 (some .int), .fieldLink RX8 76 "WordFletchersModel" "typed" "I", .fieldLink RX8 7 "WordFletchersModel" "text" "[B"] : List Cond) [(1, 10), (1, 4), (1, 11), (1, 12), (1, 8), (1, 13), (1, 14), (1, 15), (1, 16), (1, 17), (1, 2), (1, 18), (1, 19), (1, 20), (1, 21), (1, 22), (1, 23), (2, 0), (2, 1), (2, 2), (2, 3), (2, 4), (2, 5)] rfl (by decide +kernel)) (goodIn_sub (fun _ h => (List.mem_cons_of_mem _ (List.mem_append_right _ h))) gwX8))
set_option maxRecDepth 20000 in
theorem gX8_blow_X8_number : GoodIn wsX8_blow (wsV RX8 110 RX8 yX8_number wsX8_number) := goodIn_app (goodIn_of _ (by decide +kernel)) ggX8_blow_X8_number
theorem bdX8_blow_0 : decode cX8_blow 0 = .ok (.aload_n 0, 1) ∧ decode cX8_blow 1 = .ok (.getfield 35, 3) ∧ decode cX8_blow 4 = .ok (.iconst 1, 1) ∧ decode cX8_blow 5 = .ok (.iconst 0, 1) ∧ decode cX8_blow 6 = .ok (.iastore, 1) ∧ decode cX8_blow 7 = .ok (.aload_n 0, 1) ∧ decode cX8_blow 8 = .ok (.iconst 1, 1) ∧ decode cX8_blow 9 = .ok (.putfield 107, 3) := by decide +kernel
theorem dX8_blow_0 : decode cX8_blow 0 = .ok (.aload_n 0, 1) := bdX8_blow_0.1
theorem dX8_blow_1 : decode cX8_blow 1 = .ok (.getfield 35, 3) := bdX8_blow_0.2.1
theorem dX8_blow_4 : decode cX8_blow 4 = .ok (.iconst 1, 1) := bdX8_blow_0.2.2.1
theorem dX8_blow_5 : decode cX8_blow 5 = .ok (.iconst 0, 1) := bdX8_blow_0.2.2.2.1
theorem dX8_blow_6 : decode cX8_blow 6 = .ok (.iastore, 1) := bdX8_blow_0.2.2.2.2.1
theorem dX8_blow_7 : decode cX8_blow 7 = .ok (.aload_n 0, 1) := bdX8_blow_0.2.2.2.2.2.1
theorem dX8_blow_8 : decode cX8_blow 8 = .ok (.iconst 1, 1) := bdX8_blow_0.2.2.2.2.2.2.1
theorem dX8_blow_9 : decode cX8_blow 9 = .ok (.putfield 107, 3) := bdX8_blow_0.2.2.2.2.2.2.2
theorem bdX8_blow_12 : decode cX8_blow 12 = .ok (.aload_n 0, 1) ∧ decode cX8_blow 13 = .ok (.iconst 0, 1) ∧ decode cX8_blow 14 = .ok (.bipush 8, 2) ∧ decode cX8_blow 16 = .ok (.invokevirtual 110, 3) ∧ decode cX8_blow 19 = .ok (.istore_n 1, 1) ∧ decode cX8_blow 20 = .ok (.aload_n 0, 1) ∧ decode cX8_blow 21 = .ok (.getfield 96, 3) ∧ decode cX8_blow 24 = .ok (.ifCond .ne 30, 3) := by decide +kernel
theorem dX8_blow_12 : decode cX8_blow 12 = .ok (.aload_n 0, 1) := bdX8_blow_12.1
theorem dX8_blow_13 : decode cX8_blow 13 = .ok (.iconst 0, 1) := bdX8_blow_12.2.1
theorem dX8_blow_14 : decode cX8_blow 14 = .ok (.bipush 8, 2) := bdX8_blow_12.2.2.1
theorem dX8_blow_16 : decode cX8_blow 16 = .ok (.invokevirtual 110, 3) := bdX8_blow_12.2.2.2.1
theorem dX8_blow_19 : decode cX8_blow 19 = .ok (.istore_n 1, 1) := bdX8_blow_12.2.2.2.2.1
theorem dX8_blow_20 : decode cX8_blow 20 = .ok (.aload_n 0, 1) := bdX8_blow_12.2.2.2.2.2.1
theorem dX8_blow_21 : decode cX8_blow 21 = .ok (.getfield 96, 3) := bdX8_blow_12.2.2.2.2.2.2.1
theorem dX8_blow_24 : decode cX8_blow 24 = .ok (.ifCond .ne 30, 3) := bdX8_blow_12.2.2.2.2.2.2.2
theorem bdX8_blow_27 : decode cX8_blow 27 = .ok (.aload_n 0, 1) ∧ decode cX8_blow 28 = .ok (.getfield 38, 3) ∧ decode cX8_blow 31 = .ok (.bipush 6, 2) ∧ decode cX8_blow 33 = .ok (.aload_n 0, 1) ∧ decode cX8_blow 34 = .ok (.getfield 35, 3) ∧ decode cX8_blow 37 = .ok (.iconst 1, 1) ∧ decode cX8_blow 38 = .ok (.iaload, 1) ∧ decode cX8_blow 39 = .ok (.iadd, 1) := by decide +kernel
theorem dX8_blow_27 : decode cX8_blow 27 = .ok (.aload_n 0, 1) := bdX8_blow_27.1
theorem dX8_blow_28 : decode cX8_blow 28 = .ok (.getfield 38, 3) := bdX8_blow_27.2.1
theorem dX8_blow_31 : decode cX8_blow 31 = .ok (.bipush 6, 2) := bdX8_blow_27.2.2.1
theorem dX8_blow_33 : decode cX8_blow 33 = .ok (.aload_n 0, 1) := bdX8_blow_27.2.2.2.1
theorem dX8_blow_34 : decode cX8_blow 34 = .ok (.getfield 35, 3) := bdX8_blow_27.2.2.2.2.1
theorem dX8_blow_37 : decode cX8_blow 37 = .ok (.iconst 1, 1) := bdX8_blow_27.2.2.2.2.2.1
theorem dX8_blow_38 : decode cX8_blow 38 = .ok (.iaload, 1) := bdX8_blow_27.2.2.2.2.2.2.1
theorem dX8_blow_39 : decode cX8_blow 39 = .ok (.iadd, 1) := bdX8_blow_27.2.2.2.2.2.2.2
theorem bdX8_blow_40 : decode cX8_blow 40 = .ok (.iload_n 1, 1) ∧ decode cX8_blow 41 = .ok (.iconst 4, 1) ∧ decode cX8_blow 42 = .ok (.isub, 1) ∧ decode cX8_blow 43 = .ok (.iastore, 1) ∧ decode cX8_blow 44 = .ok (.aload_n 0, 1) ∧ decode cX8_blow 45 = .ok (.getfield 35, 3) ∧ decode cX8_blow 48 = .ok (.iconst 1, 1) ∧ decode cX8_blow 49 = .ok (.dup2, 1) := by decide +kernel
theorem dX8_blow_40 : decode cX8_blow 40 = .ok (.iload_n 1, 1) := bdX8_blow_40.1
theorem dX8_blow_41 : decode cX8_blow 41 = .ok (.iconst 4, 1) := bdX8_blow_40.2.1
theorem dX8_blow_42 : decode cX8_blow 42 = .ok (.isub, 1) := bdX8_blow_40.2.2.1
theorem dX8_blow_43 : decode cX8_blow 43 = .ok (.iastore, 1) := bdX8_blow_40.2.2.2.1
theorem dX8_blow_44 : decode cX8_blow 44 = .ok (.aload_n 0, 1) := bdX8_blow_40.2.2.2.2.1
theorem dX8_blow_45 : decode cX8_blow 45 = .ok (.getfield 35, 3) := bdX8_blow_40.2.2.2.2.2.1
theorem dX8_blow_48 : decode cX8_blow 48 = .ok (.iconst 1, 1) := bdX8_blow_40.2.2.2.2.2.2.1
theorem dX8_blow_49 : decode cX8_blow 49 = .ok (.dup2, 1) := bdX8_blow_40.2.2.2.2.2.2.2
theorem bdX8_blow_50 : decode cX8_blow 50 = .ok (.iaload, 1) ∧ decode cX8_blow 51 = .ok (.iconst 1, 1) ∧ decode cX8_blow 52 = .ok (.iadd, 1) ∧ decode cX8_blow 53 = .ok (.iastore, 1) ∧ decode cX8_blow 54 = .ok (.aload_n 0, 1) ∧ decode cX8_blow 55 = .ok (.getfield 96, 3) ∧ decode cX8_blow 58 = .ok (.ifCond .ne 22, 3) ∧ decode cX8_blow 61 = .ok (.aload_n 0, 1) := by decide +kernel
theorem dX8_blow_50 : decode cX8_blow 50 = .ok (.iaload, 1) := bdX8_blow_50.1
theorem dX8_blow_51 : decode cX8_blow 51 = .ok (.iconst 1, 1) := bdX8_blow_50.2.1
theorem dX8_blow_52 : decode cX8_blow 52 = .ok (.iadd, 1) := bdX8_blow_50.2.2.1
theorem dX8_blow_53 : decode cX8_blow 53 = .ok (.iastore, 1) := bdX8_blow_50.2.2.2.1
theorem dX8_blow_54 : decode cX8_blow 54 = .ok (.aload_n 0, 1) := bdX8_blow_50.2.2.2.2.1
theorem dX8_blow_55 : decode cX8_blow 55 = .ok (.getfield 96, 3) := bdX8_blow_50.2.2.2.2.2.1
theorem dX8_blow_58 : decode cX8_blow 58 = .ok (.ifCond .ne 22, 3) := bdX8_blow_50.2.2.2.2.2.2.1
theorem dX8_blow_61 : decode cX8_blow 61 = .ok (.aload_n 0, 1) := bdX8_blow_50.2.2.2.2.2.2.2
theorem bdX8_blow_62 : decode cX8_blow 62 = .ok (.getfield 93, 3) ∧ decode cX8_blow 65 = .ok (.iconst 2, 1) ∧ decode cX8_blow 66 = .ok (.if_icmp .ne 14, 3) ∧ decode cX8_blow 69 = .ok (.aload_n 0, 1) ∧ decode cX8_blow 70 = .ok (.getfield 35, 3) ∧ decode cX8_blow 73 = .ok (.iconst 1, 1) ∧ decode cX8_blow 74 = .ok (.iaload, 1) ∧ decode cX8_blow 75 = .ok (.bipush 6, 2) := by decide +kernel
theorem dX8_blow_62 : decode cX8_blow 62 = .ok (.getfield 93, 3) := bdX8_blow_62.1
theorem dX8_blow_65 : decode cX8_blow 65 = .ok (.iconst 2, 1) := bdX8_blow_62.2.1
theorem dX8_blow_66 : decode cX8_blow 66 = .ok (.if_icmp .ne 14, 3) := bdX8_blow_62.2.2.1
theorem dX8_blow_69 : decode cX8_blow 69 = .ok (.aload_n 0, 1) := bdX8_blow_62.2.2.2.1
theorem dX8_blow_70 : decode cX8_blow 70 = .ok (.getfield 35, 3) := bdX8_blow_62.2.2.2.2.1
theorem dX8_blow_73 : decode cX8_blow 73 = .ok (.iconst 1, 1) := bdX8_blow_62.2.2.2.2.2.1
theorem dX8_blow_74 : decode cX8_blow 74 = .ok (.iaload, 1) := bdX8_blow_62.2.2.2.2.2.2.1
theorem dX8_blow_75 : decode cX8_blow 75 = .ok (.bipush 6, 2) := bdX8_blow_62.2.2.2.2.2.2.2
theorem bdX8_blow_77 : decode cX8_blow 77 = .ok (.if_icmp .lt (-65), 3) ∧ decode cX8_blow 80 = .ok (.return_, 1) := by decide +kernel
theorem dX8_blow_77 : decode cX8_blow 77 = .ok (.if_icmp .lt (-65), 3) := bdX8_blow_77.1
theorem dX8_blow_80 : decode cX8_blow 80 = .ok (.return_, 1) := bdX8_blow_77.2
set_option maxRecDepth 20000 in
set_option maxRecDepth 100000 in
theorem ggX8_item_X8_number : GoodIn wsX8_item wsX8_number := goodIn_hd (goodIn_c ch_X8_item hc_X8_item ([.code yX8_number cX8_number 4 (some .int)] : List Cond) [(1, 13)] rfl (by decide +kernel)) (goodIn_app (goodIn_c ch_X8_item hc_X8_item ([.fieldLink RX8 90 "WordFletchersModel" "value" "I", .fieldLink RX8 93 "WordFletchersModel" "sort" "I", .methodLink RX8 72 yX8_in, .static yX8_in, .initialized RX8, .code yX8_in cX8_in 3 (some .boolean), .methodLink RX8 103 yX8_due, .instanceMethod yX8_due, .selects RX8 yX8_due yX8_due, .code yX8_due cX8_due 2 none, .fieldLink RX8 96 "WordFletchersModel" "isWrong" "Z", .methodLink RX8 100 yX8_step, .instanceMethod yX8_step, .selects RX8 yX8_step yX8_step, .code yX8_step cX8_step 2 none, .fieldLink RX8 80 "WordFletchersModel" "at" "I", .fieldLink RX8 87 "WordFletchersModel" "stands" "I", .methodLink RX8 83 yX8_here, .instanceMethod yX8_here, .selects RX8 yX8_here yX8_here, .code yX8_here cX8_here 1 (some .int), .fieldLink RX8 76 "WordFletchersModel" "typed" "I", .fieldLink RX8 7 "WordFletchersModel" "text" "[B"] : List Cond) [(1, 14), (1, 15), (1, 16), (1, 17), (1, 12), (1, 18), (1, 19), (1, 20), (1, 21), (1, 22), (1, 7), (1, 23), (2, 0), (2, 1), (2, 2), (2, 3), (2, 4), (2, 5), (2, 6), (2, 7), (2, 8), (2, 9), (2, 10)] rfl (by decide +kernel)) (goodIn_sub (fun _ h => (List.mem_cons_of_mem _ (List.mem_append_right _ h))) gwX8))
set_option maxRecDepth 20000 in
theorem gX8_item_X8_number : GoodIn wsX8_item (wsV RX8 110 RX8 yX8_number wsX8_number) := goodIn_app (goodIn_of _ (by decide +kernel)) ggX8_item_X8_number
set_option maxRecDepth 20000 in
set_option maxRecDepth 100000 in
theorem ggX8_item_X8_blow : GoodIn wsX8_item wsX8_blow := goodIn_hd (goodIn_c ch_X8_item hc_X8_item ([.code yX8_blow cX8_blow 2 none] : List Cond) [(2, 14)] rfl (by decide +kernel)) (goodIn_app (goodIn_app (goodIn_c ch_X8_item hc_X8_item wsX8_blow_r1 [(2, 15), (2, 16), (1, 7), (2, 17), (1, 15), (1, 9), (1, 10), (1, 11), (1, 12), (1, 13), (1, 14), (1, 16), (1, 17), (1, 18), (1, 19), (1, 20), (1, 21), (1, 22), (1, 23), (2, 0), (2, 1), (2, 2), (2, 3), (2, 4)] rfl (by decide +kernel)) (goodIn_c ch_X8_item hc_X8_item wsX8_blow_r2 [(2, 5), (2, 6), (2, 7), (2, 8), (2, 9), (2, 10)] rfl (by decide +kernel))) (goodIn_sub (fun _ h => (List.mem_cons_of_mem _ (List.mem_append_right _ h))) gwX8))
set_option maxRecDepth 20000 in
theorem gX8_item_X8_blow : GoodIn wsX8_item (wsV RX8 114 RX8 yX8_blow wsX8_blow) := goodIn_app (goodIn_of _ (by decide +kernel)) ggX8_item_X8_blow
theorem bdX8_item_0 : decode cX8_item 0 = .ok (.iload_n 1, 1) ∧ decode cX8_item 1 = .ok (.lookupswitch 163 #[(112, 35), (115, 89), (119, 156)], 35) ∧ decode cX8_item 36 = .ok (.aload_n 0, 1) ∧ decode cX8_item 37 = .ok (.getfield 17, 3) ∧ decode cX8_item 40 = .ok (.bipush 6, 2) ∧ decode cX8_item 42 = .ok (.aload_n 0, 1) ∧ decode cX8_item 43 = .ok (.getfield 13, 3) ∧ decode cX8_item 46 = .ok (.iconst 1, 1) := by decide +kernel
theorem dX8_item_0 : decode cX8_item 0 = .ok (.iload_n 1, 1) := bdX8_item_0.1
theorem dX8_item_1 : decode cX8_item 1 = .ok (.lookupswitch 163 #[(112, 35), (115, 89), (119, 156)], 35) := bdX8_item_0.2.1
theorem dX8_item_36 : decode cX8_item 36 = .ok (.aload_n 0, 1) := bdX8_item_0.2.2.1
theorem dX8_item_37 : decode cX8_item 37 = .ok (.getfield 17, 3) := bdX8_item_0.2.2.2.1
theorem dX8_item_40 : decode cX8_item 40 = .ok (.bipush 6, 2) := bdX8_item_0.2.2.2.2.1
theorem dX8_item_42 : decode cX8_item 42 = .ok (.aload_n 0, 1) := bdX8_item_0.2.2.2.2.2.1
theorem dX8_item_43 : decode cX8_item 43 = .ok (.getfield 13, 3) := bdX8_item_0.2.2.2.2.2.2.1
theorem dX8_item_46 : decode cX8_item 46 = .ok (.iconst 1, 1) := bdX8_item_0.2.2.2.2.2.2.2
theorem bdX8_item_47 : decode cX8_item 47 = .ok (.iaload, 1) ∧ decode cX8_item 48 = .ok (.iadd, 1) ∧ decode cX8_item 49 = .ok (.aload_n 0, 1) ∧ decode cX8_item 50 = .ok (.iconst 0, 1) ∧ decode cX8_item 51 = .ok (.bipush 30, 2) ∧ decode cX8_item 53 = .ok (.invokevirtual 110, 3) ∧ decode cX8_item 56 = .ok (.iastore, 1) ∧ decode cX8_item 57 = .ok (.aload_n 0, 1) := by decide +kernel
theorem dX8_item_47 : decode cX8_item 47 = .ok (.iaload, 1) := bdX8_item_47.1
theorem dX8_item_48 : decode cX8_item 48 = .ok (.iadd, 1) := bdX8_item_47.2.1
theorem dX8_item_49 : decode cX8_item 49 = .ok (.aload_n 0, 1) := bdX8_item_47.2.2.1
theorem dX8_item_50 : decode cX8_item 50 = .ok (.iconst 0, 1) := bdX8_item_47.2.2.2.1
theorem dX8_item_51 : decode cX8_item 51 = .ok (.bipush 30, 2) := bdX8_item_47.2.2.2.2.1
theorem dX8_item_53 : decode cX8_item 53 = .ok (.invokevirtual 110, 3) := bdX8_item_47.2.2.2.2.2.1
theorem dX8_item_56 : decode cX8_item 56 = .ok (.iastore, 1) := bdX8_item_47.2.2.2.2.2.2.1
theorem dX8_item_57 : decode cX8_item 57 = .ok (.aload_n 0, 1) := bdX8_item_47.2.2.2.2.2.2.2
theorem bdX8_item_58 : decode cX8_item 58 = .ok (.getfield 20, 3) ∧ decode cX8_item 61 = .ok (.bipush 6, 2) ∧ decode cX8_item 63 = .ok (.aload_n 0, 1) ∧ decode cX8_item 64 = .ok (.getfield 13, 3) ∧ decode cX8_item 67 = .ok (.iconst 1, 1) ∧ decode cX8_item 68 = .ok (.iaload, 1) ∧ decode cX8_item 69 = .ok (.iadd, 1) ∧ decode cX8_item 70 = .ok (.aload_n 0, 1) := by decide +kernel
theorem dX8_item_58 : decode cX8_item 58 = .ok (.getfield 20, 3) := bdX8_item_58.1
theorem dX8_item_61 : decode cX8_item 61 = .ok (.bipush 6, 2) := bdX8_item_58.2.1
theorem dX8_item_63 : decode cX8_item 63 = .ok (.aload_n 0, 1) := bdX8_item_58.2.2.1
theorem dX8_item_64 : decode cX8_item 64 = .ok (.getfield 13, 3) := bdX8_item_58.2.2.2.1
theorem dX8_item_67 : decode cX8_item 67 = .ok (.iconst 1, 1) := bdX8_item_58.2.2.2.2.1
theorem dX8_item_68 : decode cX8_item 68 = .ok (.iaload, 1) := bdX8_item_58.2.2.2.2.2.1
theorem dX8_item_69 : decode cX8_item 69 = .ok (.iadd, 1) := bdX8_item_58.2.2.2.2.2.2.1
theorem dX8_item_70 : decode cX8_item 70 = .ok (.aload_n 0, 1) := bdX8_item_58.2.2.2.2.2.2.2
theorem bdX8_item_71 : decode cX8_item 71 = .ok (.iconst 0, 1) ∧ decode cX8_item 72 = .ok (.iconst 5, 1) ∧ decode cX8_item 73 = .ok (.invokevirtual 110, 3) ∧ decode cX8_item 76 = .ok (.iastore, 1) ∧ decode cX8_item 77 = .ok (.aload_n 0, 1) ∧ decode cX8_item 78 = .ok (.getfield 13, 3) ∧ decode cX8_item 81 = .ok (.iconst 1, 1) ∧ decode cX8_item 82 = .ok (.dup2, 1) := by decide +kernel
theorem dX8_item_71 : decode cX8_item 71 = .ok (.iconst 0, 1) := bdX8_item_71.1
theorem dX8_item_72 : decode cX8_item 72 = .ok (.iconst 5, 1) := bdX8_item_71.2.1
theorem dX8_item_73 : decode cX8_item 73 = .ok (.invokevirtual 110, 3) := bdX8_item_71.2.2.1
theorem dX8_item_76 : decode cX8_item 76 = .ok (.iastore, 1) := bdX8_item_71.2.2.2.1
theorem dX8_item_77 : decode cX8_item 77 = .ok (.aload_n 0, 1) := bdX8_item_71.2.2.2.2.1
theorem dX8_item_78 : decode cX8_item 78 = .ok (.getfield 13, 3) := bdX8_item_71.2.2.2.2.2.1
theorem dX8_item_81 : decode cX8_item 81 = .ok (.iconst 1, 1) := bdX8_item_71.2.2.2.2.2.2.1
theorem dX8_item_82 : decode cX8_item 82 = .ok (.dup2, 1) := bdX8_item_71.2.2.2.2.2.2.2
theorem bdX8_item_83 : decode cX8_item 83 = .ok (.iaload, 1) ∧ decode cX8_item 84 = .ok (.iconst 1, 1) ∧ decode cX8_item 85 = .ok (.iadd, 1) ∧ decode cX8_item 86 = .ok (.iastore, 1) ∧ decode cX8_item 87 = .ok (.goto 108, 3) ∧ decode cX8_item 90 = .ok (.bipush 6, 2) ∧ decode cX8_item 92 = .ok (.aload_n 0, 1) ∧ decode cX8_item 93 = .ok (.getfield 23, 3) := by decide +kernel
theorem dX8_item_83 : decode cX8_item 83 = .ok (.iaload, 1) := bdX8_item_83.1
theorem dX8_item_84 : decode cX8_item 84 = .ok (.iconst 1, 1) := bdX8_item_83.2.1
theorem dX8_item_85 : decode cX8_item 85 = .ok (.iadd, 1) := bdX8_item_83.2.2.1
theorem dX8_item_86 : decode cX8_item 86 = .ok (.iastore, 1) := bdX8_item_83.2.2.2.1
theorem dX8_item_87 : decode cX8_item 87 = .ok (.goto 108, 3) := bdX8_item_83.2.2.2.2.1
theorem dX8_item_90 : decode cX8_item 90 = .ok (.bipush 6, 2) := bdX8_item_83.2.2.2.2.2.1
theorem dX8_item_92 : decode cX8_item 92 = .ok (.aload_n 0, 1) := bdX8_item_83.2.2.2.2.2.2.1
theorem dX8_item_93 : decode cX8_item 93 = .ok (.getfield 23, 3) := bdX8_item_83.2.2.2.2.2.2.2
theorem bdX8_item_96 : decode cX8_item 96 = .ok (.iconst 1, 1) ∧ decode cX8_item 97 = .ok (.iaload, 1) ∧ decode cX8_item 98 = .ok (.iadd, 1) ∧ decode cX8_item 99 = .ok (.istore_n 2, 1) ∧ decode cX8_item 100 = .ok (.aload_n 0, 1) ∧ decode cX8_item 101 = .ok (.getfield 26, 3) ∧ decode cX8_item 104 = .ok (.iload_n 2, 1) ∧ decode cX8_item 105 = .ok (.aload_n 0, 1) := by decide +kernel
theorem dX8_item_96 : decode cX8_item 96 = .ok (.iconst 1, 1) := bdX8_item_96.1
theorem dX8_item_97 : decode cX8_item 97 = .ok (.iaload, 1) := bdX8_item_96.2.1
theorem dX8_item_98 : decode cX8_item 98 = .ok (.iadd, 1) := bdX8_item_96.2.2.1
theorem dX8_item_99 : decode cX8_item 99 = .ok (.istore_n 2, 1) := bdX8_item_96.2.2.2.1
theorem dX8_item_100 : decode cX8_item 100 = .ok (.aload_n 0, 1) := bdX8_item_96.2.2.2.2.1
theorem dX8_item_101 : decode cX8_item 101 = .ok (.getfield 26, 3) := bdX8_item_96.2.2.2.2.2.1
theorem dX8_item_104 : decode cX8_item 104 = .ok (.iload_n 2, 1) := bdX8_item_96.2.2.2.2.2.2.1
theorem dX8_item_105 : decode cX8_item 105 = .ok (.aload_n 0, 1) := bdX8_item_96.2.2.2.2.2.2.2
theorem bdX8_item_106 : decode cX8_item 106 = .ok (.iconst 1, 1) ∧ decode cX8_item 107 = .ok (.bipush 9, 2) ∧ decode cX8_item 109 = .ok (.invokevirtual 110, 3) ∧ decode cX8_item 112 = .ok (.iastore, 1) ∧ decode cX8_item 113 = .ok (.aload_n 0, 1) ∧ decode cX8_item 114 = .ok (.getfield 29, 3) ∧ decode cX8_item 117 = .ok (.iload_n 2, 1) ∧ decode cX8_item 118 = .ok (.aload_n 0, 1) := by decide +kernel
theorem dX8_item_106 : decode cX8_item 106 = .ok (.iconst 1, 1) := bdX8_item_106.1
theorem dX8_item_107 : decode cX8_item 107 = .ok (.bipush 9, 2) := bdX8_item_106.2.1
theorem dX8_item_109 : decode cX8_item 109 = .ok (.invokevirtual 110, 3) := bdX8_item_106.2.2.1
theorem dX8_item_112 : decode cX8_item 112 = .ok (.iastore, 1) := bdX8_item_106.2.2.2.1
theorem dX8_item_113 : decode cX8_item 113 = .ok (.aload_n 0, 1) := bdX8_item_106.2.2.2.2.1
theorem dX8_item_114 : decode cX8_item 114 = .ok (.getfield 29, 3) := bdX8_item_106.2.2.2.2.2.1
theorem dX8_item_117 : decode cX8_item 117 = .ok (.iload_n 2, 1) := bdX8_item_106.2.2.2.2.2.2.1
theorem dX8_item_118 : decode cX8_item 118 = .ok (.aload_n 0, 1) := bdX8_item_106.2.2.2.2.2.2.2
theorem bdX8_item_119 : decode cX8_item 119 = .ok (.iconst 0, 1) ∧ decode cX8_item 120 = .ok (.iconst 3, 1) ∧ decode cX8_item 121 = .ok (.invokevirtual 110, 3) ∧ decode cX8_item 124 = .ok (.iastore, 1) ∧ decode cX8_item 125 = .ok (.aload_n 0, 1) ∧ decode cX8_item 126 = .ok (.getfield 32, 3) ∧ decode cX8_item 129 = .ok (.iload_n 2, 1) ∧ decode cX8_item 130 = .ok (.aload_n 0, 1) := by decide +kernel
theorem dX8_item_119 : decode cX8_item 119 = .ok (.iconst 0, 1) := bdX8_item_119.1
theorem dX8_item_120 : decode cX8_item 120 = .ok (.iconst 3, 1) := bdX8_item_119.2.1
theorem dX8_item_121 : decode cX8_item 121 = .ok (.invokevirtual 110, 3) := bdX8_item_119.2.2.1
theorem dX8_item_124 : decode cX8_item 124 = .ok (.iastore, 1) := bdX8_item_119.2.2.2.1
theorem dX8_item_125 : decode cX8_item 125 = .ok (.aload_n 0, 1) := bdX8_item_119.2.2.2.2.1
theorem dX8_item_126 : decode cX8_item 126 = .ok (.getfield 32, 3) := bdX8_item_119.2.2.2.2.2.1
theorem dX8_item_129 : decode cX8_item 129 = .ok (.iload_n 2, 1) := bdX8_item_119.2.2.2.2.2.2.1
theorem dX8_item_130 : decode cX8_item 130 = .ok (.aload_n 0, 1) := bdX8_item_119.2.2.2.2.2.2.2
theorem bdX8_item_131 : decode cX8_item 131 = .ok (.iconst 0, 1) ∧ decode cX8_item 132 = .ok (.aload_n 0, 1) ∧ decode cX8_item 133 = .ok (.getfield 13, 3) ∧ decode cX8_item 136 = .ok (.iconst 1, 1) ∧ decode cX8_item 137 = .ok (.iaload, 1) ∧ decode cX8_item 138 = .ok (.iconst 1, 1) ∧ decode cX8_item 139 = .ok (.isub, 1) ∧ decode cX8_item 140 = .ok (.invokevirtual 110, 3) := by decide +kernel
theorem dX8_item_131 : decode cX8_item 131 = .ok (.iconst 0, 1) := bdX8_item_131.1
theorem dX8_item_132 : decode cX8_item 132 = .ok (.aload_n 0, 1) := bdX8_item_131.2.1
theorem dX8_item_133 : decode cX8_item 133 = .ok (.getfield 13, 3) := bdX8_item_131.2.2.1
theorem dX8_item_136 : decode cX8_item 136 = .ok (.iconst 1, 1) := bdX8_item_131.2.2.2.1
theorem dX8_item_137 : decode cX8_item 137 = .ok (.iaload, 1) := bdX8_item_131.2.2.2.2.1
theorem dX8_item_138 : decode cX8_item 138 = .ok (.iconst 1, 1) := bdX8_item_131.2.2.2.2.2.1
theorem dX8_item_139 : decode cX8_item 139 = .ok (.isub, 1) := bdX8_item_131.2.2.2.2.2.2.1
theorem dX8_item_140 : decode cX8_item 140 = .ok (.invokevirtual 110, 3) := bdX8_item_131.2.2.2.2.2.2.2
theorem bdX8_item_143 : decode cX8_item 143 = .ok (.iastore, 1) ∧ decode cX8_item 144 = .ok (.aload_n 0, 1) ∧ decode cX8_item 145 = .ok (.getfield 23, 3) ∧ decode cX8_item 148 = .ok (.iconst 1, 1) ∧ decode cX8_item 149 = .ok (.dup2, 1) ∧ decode cX8_item 150 = .ok (.iaload, 1) ∧ decode cX8_item 151 = .ok (.iconst 1, 1) ∧ decode cX8_item 152 = .ok (.iadd, 1) := by decide +kernel
theorem dX8_item_143 : decode cX8_item 143 = .ok (.iastore, 1) := bdX8_item_143.1
theorem dX8_item_144 : decode cX8_item 144 = .ok (.aload_n 0, 1) := bdX8_item_143.2.1
theorem dX8_item_145 : decode cX8_item 145 = .ok (.getfield 23, 3) := bdX8_item_143.2.2.1
theorem dX8_item_148 : decode cX8_item 148 = .ok (.iconst 1, 1) := bdX8_item_143.2.2.2.1
theorem dX8_item_149 : decode cX8_item 149 = .ok (.dup2, 1) := bdX8_item_143.2.2.2.2.1
theorem dX8_item_150 : decode cX8_item 150 = .ok (.iaload, 1) := bdX8_item_143.2.2.2.2.2.1
theorem dX8_item_151 : decode cX8_item 151 = .ok (.iconst 1, 1) := bdX8_item_143.2.2.2.2.2.2.1
theorem dX8_item_152 : decode cX8_item 152 = .ok (.iadd, 1) := bdX8_item_143.2.2.2.2.2.2.2
theorem bdX8_item_153 : decode cX8_item 153 = .ok (.iastore, 1) ∧ decode cX8_item 154 = .ok (.goto 41, 3) ∧ decode cX8_item 157 = .ok (.aload_n 0, 1) ∧ decode cX8_item 158 = .ok (.invokevirtual 114, 3) ∧ decode cX8_item 161 = .ok (.goto 34, 3) ∧ decode cX8_item 164 = .ok (.aload_n 0, 1) ∧ decode cX8_item 165 = .ok (.iconst 0, 1) ∧ decode cX8_item 166 = .ok (.iconst 3, 1) := by decide +kernel
theorem dX8_item_153 : decode cX8_item 153 = .ok (.iastore, 1) := bdX8_item_153.1
theorem dX8_item_154 : decode cX8_item 154 = .ok (.goto 41, 3) := bdX8_item_153.2.1
theorem dX8_item_157 : decode cX8_item 157 = .ok (.aload_n 0, 1) := bdX8_item_153.2.2.1
theorem dX8_item_158 : decode cX8_item 158 = .ok (.invokevirtual 114, 3) := bdX8_item_153.2.2.2.1
theorem dX8_item_161 : decode cX8_item 161 = .ok (.goto 34, 3) := bdX8_item_153.2.2.2.2.1
theorem dX8_item_164 : decode cX8_item 164 = .ok (.aload_n 0, 1) := bdX8_item_153.2.2.2.2.2.1
theorem dX8_item_165 : decode cX8_item 165 = .ok (.iconst 0, 1) := bdX8_item_153.2.2.2.2.2.2.1
theorem dX8_item_166 : decode cX8_item 166 = .ok (.iconst 3, 1) := bdX8_item_153.2.2.2.2.2.2.2
theorem bdX8_item_167 : decode cX8_item 167 = .ok (.invokevirtual 110, 3) ∧ decode cX8_item 170 = .ok (.istore_n 3, 1) ∧ decode cX8_item 171 = .ok (.aload_n 0, 1) ∧ decode cX8_item 172 = .ok (.iconst 0, 1) ∧ decode cX8_item 173 = .ok (.bipush 20, 2) ∧ decode cX8_item 175 = .ok (.invokevirtual 110, 3) ∧ decode cX8_item 178 = .ok (.istore 4, 2) ∧ decode cX8_item 180 = .ok (.aload_n 0, 1) := by decide +kernel
theorem dX8_item_167 : decode cX8_item 167 = .ok (.invokevirtual 110, 3) := bdX8_item_167.1
theorem dX8_item_170 : decode cX8_item 170 = .ok (.istore_n 3, 1) := bdX8_item_167.2.1
theorem dX8_item_171 : decode cX8_item 171 = .ok (.aload_n 0, 1) := bdX8_item_167.2.2.1
theorem dX8_item_172 : decode cX8_item 172 = .ok (.iconst 0, 1) := bdX8_item_167.2.2.2.1
theorem dX8_item_173 : decode cX8_item 173 = .ok (.bipush 20, 2) := bdX8_item_167.2.2.2.2.1
theorem dX8_item_175 : decode cX8_item 175 = .ok (.invokevirtual 110, 3) := bdX8_item_167.2.2.2.2.2.1
theorem dX8_item_178 : decode cX8_item 178 = .ok (.istore 4, 2) := bdX8_item_167.2.2.2.2.2.2.1
theorem dX8_item_180 : decode cX8_item 180 = .ok (.aload_n 0, 1) := bdX8_item_167.2.2.2.2.2.2.2
theorem bdX8_item_181 : decode cX8_item 181 = .ok (.getfield 96, 3) ∧ decode cX8_item 184 = .ok (.ifCond .ne 11, 3) ∧ decode cX8_item 187 = .ok (.aload_n 0, 1) ∧ decode cX8_item 188 = .ok (.getfield 41, 3) ∧ decode cX8_item 191 = .ok (.iload_n 3, 1) ∧ decode cX8_item 192 = .ok (.iload 4, 2) ∧ decode cX8_item 194 = .ok (.iastore, 1) ∧ decode cX8_item 195 = .ok (.return_, 1) := by decide +kernel
theorem dX8_item_181 : decode cX8_item 181 = .ok (.getfield 96, 3) := bdX8_item_181.1
theorem dX8_item_184 : decode cX8_item 184 = .ok (.ifCond .ne 11, 3) := bdX8_item_181.2.1
theorem dX8_item_187 : decode cX8_item 187 = .ok (.aload_n 0, 1) := bdX8_item_181.2.2.1
theorem dX8_item_188 : decode cX8_item 188 = .ok (.getfield 41, 3) := bdX8_item_181.2.2.2.1
theorem dX8_item_191 : decode cX8_item 191 = .ok (.iload_n 3, 1) := bdX8_item_181.2.2.2.2.1
theorem dX8_item_192 : decode cX8_item 192 = .ok (.iload 4, 2) := bdX8_item_181.2.2.2.2.2.1
theorem dX8_item_194 : decode cX8_item 194 = .ok (.iastore, 1) := bdX8_item_181.2.2.2.2.2.2.1
theorem dX8_item_195 : decode cX8_item 195 = .ok (.return_, 1) := bdX8_item_181.2.2.2.2.2.2.2
theorem bdX8_may_0 : decode cX8_may 0 = .ok (.iload_n 1, 1) ∧ decode cX8_may 1 = .ok (.lookupswitch 82 #[(112, 35), (115, 52), (119, 69)], 35) ∧ decode cX8_may 36 = .ok (.aload_n 0, 1) ∧ decode cX8_may 37 = .ok (.getfield 13, 3) ∧ decode cX8_may 40 = .ok (.iconst 1, 1) ∧ decode cX8_may 41 = .ok (.iaload, 1) ∧ decode cX8_may 42 = .ok (.bipush 6, 2) ∧ decode cX8_may 44 = .ok (.if_icmp .ge 7, 3) := by decide +kernel
theorem dX8_may_0 : decode cX8_may 0 = .ok (.iload_n 1, 1) := bdX8_may_0.1
theorem dX8_may_1 : decode cX8_may 1 = .ok (.lookupswitch 82 #[(112, 35), (115, 52), (119, 69)], 35) := bdX8_may_0.2.1
theorem dX8_may_36 : decode cX8_may 36 = .ok (.aload_n 0, 1) := bdX8_may_0.2.2.1
theorem dX8_may_37 : decode cX8_may 37 = .ok (.getfield 13, 3) := bdX8_may_0.2.2.2.1
theorem dX8_may_40 : decode cX8_may 40 = .ok (.iconst 1, 1) := bdX8_may_0.2.2.2.2.1
theorem dX8_may_41 : decode cX8_may 41 = .ok (.iaload, 1) := bdX8_may_0.2.2.2.2.2.1
theorem dX8_may_42 : decode cX8_may 42 = .ok (.bipush 6, 2) := bdX8_may_0.2.2.2.2.2.2.1
theorem dX8_may_44 : decode cX8_may 44 = .ok (.if_icmp .ge 7, 3) := bdX8_may_0.2.2.2.2.2.2.2
theorem bdX8_may_47 : decode cX8_may 47 = .ok (.iconst 1, 1) ∧ decode cX8_may 48 = .ok (.goto 4, 3) ∧ decode cX8_may 51 = .ok (.iconst 0, 1) ∧ decode cX8_may 52 = .ok (.ireturn, 1) ∧ decode cX8_may 53 = .ok (.aload_n 0, 1) ∧ decode cX8_may 54 = .ok (.getfield 23, 3) ∧ decode cX8_may 57 = .ok (.iconst 1, 1) ∧ decode cX8_may 58 = .ok (.iaload, 1) := by decide +kernel
theorem dX8_may_47 : decode cX8_may 47 = .ok (.iconst 1, 1) := bdX8_may_47.1
theorem dX8_may_48 : decode cX8_may 48 = .ok (.goto 4, 3) := bdX8_may_47.2.1
theorem dX8_may_51 : decode cX8_may 51 = .ok (.iconst 0, 1) := bdX8_may_47.2.2.1
theorem dX8_may_52 : decode cX8_may 52 = .ok (.ireturn, 1) := bdX8_may_47.2.2.2.1
theorem dX8_may_53 : decode cX8_may 53 = .ok (.aload_n 0, 1) := bdX8_may_47.2.2.2.2.1
theorem dX8_may_54 : decode cX8_may 54 = .ok (.getfield 23, 3) := bdX8_may_47.2.2.2.2.2.1
theorem dX8_may_57 : decode cX8_may 57 = .ok (.iconst 1, 1) := bdX8_may_47.2.2.2.2.2.2.1
theorem dX8_may_58 : decode cX8_may 58 = .ok (.iaload, 1) := bdX8_may_47.2.2.2.2.2.2.2
theorem bdX8_may_59 : decode cX8_may 59 = .ok (.bipush 6, 2) ∧ decode cX8_may 61 = .ok (.if_icmp .ge 7, 3) ∧ decode cX8_may 64 = .ok (.iconst 1, 1) ∧ decode cX8_may 65 = .ok (.goto 4, 3) ∧ decode cX8_may 68 = .ok (.iconst 0, 1) ∧ decode cX8_may 69 = .ok (.ireturn, 1) ∧ decode cX8_may 70 = .ok (.aload_n 0, 1) ∧ decode cX8_may 71 = .ok (.getfield 107, 3) := by decide +kernel
theorem dX8_may_59 : decode cX8_may 59 = .ok (.bipush 6, 2) := bdX8_may_59.1
theorem dX8_may_61 : decode cX8_may 61 = .ok (.if_icmp .ge 7, 3) := bdX8_may_59.2.1
theorem dX8_may_64 : decode cX8_may 64 = .ok (.iconst 1, 1) := bdX8_may_59.2.2.1
theorem dX8_may_65 : decode cX8_may 65 = .ok (.goto 4, 3) := bdX8_may_59.2.2.2.1
theorem dX8_may_68 : decode cX8_may 68 = .ok (.iconst 0, 1) := bdX8_may_59.2.2.2.2.1
theorem dX8_may_69 : decode cX8_may 69 = .ok (.ireturn, 1) := bdX8_may_59.2.2.2.2.2.1
theorem dX8_may_70 : decode cX8_may 70 = .ok (.aload_n 0, 1) := bdX8_may_59.2.2.2.2.2.2.1
theorem dX8_may_71 : decode cX8_may 71 = .ok (.getfield 107, 3) := bdX8_may_59.2.2.2.2.2.2.2
theorem bdX8_may_74 : decode cX8_may 74 = .ok (.ifCond .ne 7, 3) ∧ decode cX8_may 77 = .ok (.iconst 1, 1) ∧ decode cX8_may 78 = .ok (.goto 4, 3) ∧ decode cX8_may 81 = .ok (.iconst 0, 1) ∧ decode cX8_may 82 = .ok (.ireturn, 1) ∧ decode cX8_may 83 = .ok (.iload_n 1, 1) ∧ decode cX8_may 84 = .ok (.bipush 102, 2) ∧ decode cX8_may 86 = .ok (.if_icmp .ne 7, 3) := by decide +kernel
theorem dX8_may_74 : decode cX8_may 74 = .ok (.ifCond .ne 7, 3) := bdX8_may_74.1
theorem dX8_may_77 : decode cX8_may 77 = .ok (.iconst 1, 1) := bdX8_may_74.2.1
theorem dX8_may_78 : decode cX8_may 78 = .ok (.goto 4, 3) := bdX8_may_74.2.2.1
theorem dX8_may_81 : decode cX8_may 81 = .ok (.iconst 0, 1) := bdX8_may_74.2.2.2.1
theorem dX8_may_82 : decode cX8_may 82 = .ok (.ireturn, 1) := bdX8_may_74.2.2.2.2.1
theorem dX8_may_83 : decode cX8_may 83 = .ok (.iload_n 1, 1) := bdX8_may_74.2.2.2.2.2.1
theorem dX8_may_84 : decode cX8_may 84 = .ok (.bipush 102, 2) := bdX8_may_74.2.2.2.2.2.2.1
theorem dX8_may_86 : decode cX8_may 86 = .ok (.if_icmp .ne 7, 3) := bdX8_may_74.2.2.2.2.2.2.2
theorem bdX8_may_89 : decode cX8_may 89 = .ok (.iconst 1, 1) ∧ decode cX8_may 90 = .ok (.goto 4, 3) ∧ decode cX8_may 93 = .ok (.iconst 0, 1) ∧ decode cX8_may 94 = .ok (.ireturn, 1) := by decide +kernel
theorem dX8_may_89 : decode cX8_may 89 = .ok (.iconst 1, 1) := bdX8_may_89.1
theorem dX8_may_90 : decode cX8_may 90 = .ok (.goto 4, 3) := bdX8_may_89.2.1
theorem dX8_may_93 : decode cX8_may 93 = .ok (.iconst 0, 1) := bdX8_may_89.2.2.1
theorem dX8_may_94 : decode cX8_may 94 = .ok (.ireturn, 1) := bdX8_may_89.2.2.2
set_option maxRecDepth 20000 in
set_option maxRecDepth 100000 in
theorem ggX8_read_X8_step : GoodIn wsX8_read wsX8_step := goodIn_hd (goodIn_c ch_X8_read hc_X8_read ([.code yX8_step cX8_step 2 none] : List Cond) [(1, 15)] rfl (by decide +kernel)) (goodIn_app (goodIn_c ch_X8_read hc_X8_read ([.fieldLink RX8 80 "WordFletchersModel" "at" "I", .fieldLink RX8 87 "WordFletchersModel" "stands" "I", .fieldLink RX8 90 "WordFletchersModel" "value" "I", .fieldLink RX8 93 "WordFletchersModel" "sort" "I", .methodLink RX8 83 yX8_here, .instanceMethod yX8_here, .selects RX8 yX8_here yX8_here, .initialized RX8, .code yX8_here cX8_here 1 (some .int), .fieldLink RX8 76 "WordFletchersModel" "typed" "I", .fieldLink RX8 7 "WordFletchersModel" "text" "[B", .methodLink RX8 72 yX8_in, .static yX8_in, .code yX8_in cX8_in 3 (some .boolean)] : List Cond) [(1, 0), (1, 16), (1, 10), (1, 9), (1, 17), (1, 18), (1, 19), (1, 14), (1, 20), (1, 21), (1, 22), (1, 23), (2, 0), (2, 1)] rfl (by decide +kernel)) (goodIn_sub (fun _ h => (List.mem_cons_of_mem _ (List.mem_append_right _ h))) gwX8))
set_option maxRecDepth 20000 in
theorem gX8_read_X8_step : GoodIn wsX8_read (wsV RX8 100 RX8 yX8_step wsX8_step) := goodIn_app (goodIn_of _ (by decide +kernel)) ggX8_read_X8_step
set_option maxRecDepth 20000 in
set_option maxRecDepth 100000 in
theorem ggX8_read_X8_may : GoodIn wsX8_read wsX8_may := goodIn_hd (goodIn_c ch_X8_read hc_X8_read ([.code yX8_may cX8_may 2 (some .boolean)] : List Cond) [(2, 5)] rfl (by decide +kernel)) (goodIn_app (goodIn_c ch_X8_read hc_X8_read ([.fieldLink RX8 13 "WordFletchersModel" "people" "[I", .fieldLink RX8 23 "WordFletchersModel" "sayings" "[I", .fieldLink RX8 107 "WordFletchersModel" "isBlown" "Z"] : List Cond) [(1, 4), (1, 5), (1, 3)] rfl (by decide +kernel)) (goodIn_sub (fun _ h => (List.mem_cons_of_mem _ (List.mem_append_right _ h))) gwX8))
set_option maxRecDepth 20000 in
theorem gX8_read_X8_may : GoodIn wsX8_read (wsV RX8 120 RX8 yX8_may wsX8_may) := goodIn_app (goodIn_of _ (by decide +kernel)) ggX8_read_X8_may
set_option maxRecDepth 20000 in
set_option maxRecDepth 100000 in
theorem ggX8_read_X8_due : GoodIn wsX8_read wsX8_due := goodIn_hd (goodIn_c ch_X8_read hc_X8_read ([.code yX8_due cX8_due 2 none] : List Cond) [(2, 9)] rfl (by decide +kernel)) (goodIn_app (goodIn_c ch_X8_read hc_X8_read ([.fieldLink RX8 96 "WordFletchersModel" "isWrong" "Z", .methodLink RX8 100 yX8_step, .instanceMethod yX8_step, .selects RX8 yX8_step yX8_step, .initialized RX8, .code yX8_step cX8_step 2 none, .fieldLink RX8 80 "WordFletchersModel" "at" "I", .fieldLink RX8 87 "WordFletchersModel" "stands" "I", .fieldLink RX8 90 "WordFletchersModel" "value" "I", .fieldLink RX8 93 "WordFletchersModel" "sort" "I", .methodLink RX8 83 yX8_here, .instanceMethod yX8_here, .selects RX8 yX8_here yX8_here, .code yX8_here cX8_here 1 (some .int), .fieldLink RX8 76 "WordFletchersModel" "typed" "I", .fieldLink RX8 7 "WordFletchersModel" "text" "[B", .methodLink RX8 72 yX8_in, .static yX8_in, .code yX8_in cX8_in 3 (some .boolean)] : List Cond) [(1, 1), (1, 11), (1, 12), (1, 13), (1, 14), (1, 15), (1, 0), (1, 16), (1, 10), (1, 9), (1, 17), (1, 18), (1, 19), (1, 20), (1, 21), (1, 22), (1, 23), (2, 0), (2, 1)] rfl (by decide +kernel)) (goodIn_sub (fun _ h => (List.mem_cons_of_mem _ (List.mem_append_right _ h))) gwX8))
set_option maxRecDepth 20000 in
theorem gX8_read_X8_due : GoodIn wsX8_read (wsV RX8 103 RX8 yX8_due wsX8_due) := goodIn_app (goodIn_of _ (by decide +kernel)) ggX8_read_X8_due
set_option maxRecDepth 20000 in
set_option maxRecDepth 100000 in
theorem ggX8_read_X8_item : GoodIn wsX8_read wsX8_item := goodIn_hd (goodIn_c ch_X8_read hc_X8_read ([.code yX8_item cX8_item 5 none] : List Cond) [(2, 13)] rfl (by decide +kernel)) (goodIn_app (goodIn_app (goodIn_c ch_X8_read hc_X8_read wsX8_item_r1 [(2, 14), (1, 4), (2, 15), (1, 5), (2, 16), (2, 17), (2, 18), (1, 1), (1, 8), (2, 19), (2, 20), (2, 21), (1, 14), (2, 22), (1, 10), (1, 9), (1, 23), (2, 0), (2, 1), (2, 6), (2, 7), (2, 8), (2, 9), (1, 11)] rfl (by decide +kernel)) (goodIn_c ch_X8_read hc_X8_read wsX8_item_r2 [(1, 12), (1, 13), (1, 15), (1, 0), (1, 16), (1, 17), (1, 18), (1, 19), (1, 20), (1, 21), (1, 22), (2, 23), (3, 0), (3, 1), (3, 2), (1, 6), (1, 3), (1, 7)] rfl (by decide +kernel))) (goodIn_sub (fun _ h => (List.mem_cons_of_mem _ (List.mem_append_right _ h))) gwX8))
set_option maxRecDepth 20000 in
theorem gX8_read_X8_item : GoodIn wsX8_read (wsV RX8 124 RX8 yX8_item wsX8_item) := goodIn_app (goodIn_of _ (by decide +kernel)) ggX8_read_X8_item
theorem bdX8_read_0 : decode cX8_read 0 = .ok (.aload_n 0, 1) ∧ decode cX8_read 1 = .ok (.iconst 0, 1) ∧ decode cX8_read 2 = .ok (.putfield 80, 3) ∧ decode cX8_read 5 = .ok (.aload_n 0, 1) ∧ decode cX8_read 6 = .ok (.iconst 0, 1) ∧ decode cX8_read 7 = .ok (.putfield 96, 3) ∧ decode cX8_read 10 = .ok (.aload_n 0, 1) ∧ decode cX8_read 11 = .ok (.iconst 0, 1) := by decide +kernel
theorem dX8_read_0 : decode cX8_read 0 = .ok (.aload_n 0, 1) := bdX8_read_0.1
theorem dX8_read_1 : decode cX8_read 1 = .ok (.iconst 0, 1) := bdX8_read_0.2.1
theorem dX8_read_2 : decode cX8_read 2 = .ok (.putfield 80, 3) := bdX8_read_0.2.2.1
theorem dX8_read_5 : decode cX8_read 5 = .ok (.aload_n 0, 1) := bdX8_read_0.2.2.2.1
theorem dX8_read_6 : decode cX8_read 6 = .ok (.iconst 0, 1) := bdX8_read_0.2.2.2.2.1
theorem dX8_read_7 : decode cX8_read 7 = .ok (.putfield 96, 3) := bdX8_read_0.2.2.2.2.2.1
theorem dX8_read_10 : decode cX8_read 10 = .ok (.aload_n 0, 1) := bdX8_read_0.2.2.2.2.2.2.1
theorem dX8_read_11 : decode cX8_read 11 = .ok (.iconst 0, 1) := bdX8_read_0.2.2.2.2.2.2.2
theorem bdX8_read_12 : decode cX8_read 12 = .ok (.putfield 117, 3) ∧ decode cX8_read 15 = .ok (.aload_n 0, 1) ∧ decode cX8_read 16 = .ok (.iconst 0, 1) ∧ decode cX8_read 17 = .ok (.putfield 107, 3) ∧ decode cX8_read 20 = .ok (.aload_n 0, 1) ∧ decode cX8_read 21 = .ok (.getfield 13, 3) ∧ decode cX8_read 24 = .ok (.iconst 1, 1) ∧ decode cX8_read 25 = .ok (.iconst 0, 1) := by decide +kernel
theorem dX8_read_12 : decode cX8_read 12 = .ok (.putfield 117, 3) := bdX8_read_12.1
theorem dX8_read_15 : decode cX8_read 15 = .ok (.aload_n 0, 1) := bdX8_read_12.2.1
theorem dX8_read_16 : decode cX8_read 16 = .ok (.iconst 0, 1) := bdX8_read_12.2.2.1
theorem dX8_read_17 : decode cX8_read 17 = .ok (.putfield 107, 3) := bdX8_read_12.2.2.2.1
theorem dX8_read_20 : decode cX8_read 20 = .ok (.aload_n 0, 1) := bdX8_read_12.2.2.2.2.1
theorem dX8_read_21 : decode cX8_read 21 = .ok (.getfield 13, 3) := bdX8_read_12.2.2.2.2.2.1
theorem dX8_read_24 : decode cX8_read 24 = .ok (.iconst 1, 1) := bdX8_read_12.2.2.2.2.2.2.1
theorem dX8_read_25 : decode cX8_read 25 = .ok (.iconst 0, 1) := bdX8_read_12.2.2.2.2.2.2.2
theorem bdX8_read_26 : decode cX8_read 26 = .ok (.iastore, 1) ∧ decode cX8_read 27 = .ok (.aload_n 0, 1) ∧ decode cX8_read 28 = .ok (.getfield 23, 3) ∧ decode cX8_read 31 = .ok (.iconst 1, 1) ∧ decode cX8_read 32 = .ok (.iconst 0, 1) ∧ decode cX8_read 33 = .ok (.iastore, 1) ∧ decode cX8_read 34 = .ok (.aload_n 0, 1) ∧ decode cX8_read 35 = .ok (.getfield 35, 3) := by decide +kernel
theorem dX8_read_26 : decode cX8_read 26 = .ok (.iastore, 1) := bdX8_read_26.1
theorem dX8_read_27 : decode cX8_read 27 = .ok (.aload_n 0, 1) := bdX8_read_26.2.1
theorem dX8_read_28 : decode cX8_read 28 = .ok (.getfield 23, 3) := bdX8_read_26.2.2.1
theorem dX8_read_31 : decode cX8_read 31 = .ok (.iconst 1, 1) := bdX8_read_26.2.2.2.1
theorem dX8_read_32 : decode cX8_read 32 = .ok (.iconst 0, 1) := bdX8_read_26.2.2.2.2.1
theorem dX8_read_33 : decode cX8_read 33 = .ok (.iastore, 1) := bdX8_read_26.2.2.2.2.2.1
theorem dX8_read_34 : decode cX8_read 34 = .ok (.aload_n 0, 1) := bdX8_read_26.2.2.2.2.2.2.1
theorem dX8_read_35 : decode cX8_read 35 = .ok (.getfield 35, 3) := bdX8_read_26.2.2.2.2.2.2.2
theorem bdX8_read_38 : decode cX8_read 38 = .ok (.iconst 1, 1) ∧ decode cX8_read 39 = .ok (.iconst 1, 1) ∧ decode cX8_read 40 = .ok (.iastore, 1) ∧ decode cX8_read 41 = .ok (.aload_n 0, 1) ∧ decode cX8_read 42 = .ok (.getfield 38, 3) ∧ decode cX8_read 45 = .ok (.bipush 6, 2) ∧ decode cX8_read 47 = .ok (.iconst 0, 1) ∧ decode cX8_read 48 = .ok (.iastore, 1) := by decide +kernel
theorem dX8_read_38 : decode cX8_read 38 = .ok (.iconst 1, 1) := bdX8_read_38.1
theorem dX8_read_39 : decode cX8_read 39 = .ok (.iconst 1, 1) := bdX8_read_38.2.1
theorem dX8_read_40 : decode cX8_read 40 = .ok (.iastore, 1) := bdX8_read_38.2.2.1
theorem dX8_read_41 : decode cX8_read 41 = .ok (.aload_n 0, 1) := bdX8_read_38.2.2.2.1
theorem dX8_read_42 : decode cX8_read 42 = .ok (.getfield 38, 3) := bdX8_read_38.2.2.2.2.1
theorem dX8_read_45 : decode cX8_read 45 = .ok (.bipush 6, 2) := bdX8_read_38.2.2.2.2.2.1
theorem dX8_read_47 : decode cX8_read 47 = .ok (.iconst 0, 1) := bdX8_read_38.2.2.2.2.2.2.1
theorem dX8_read_48 : decode cX8_read 48 = .ok (.iastore, 1) := bdX8_read_38.2.2.2.2.2.2.2
theorem bdX8_read_49 : decode cX8_read 49 = .ok (.iconst 0, 1) ∧ decode cX8_read 50 = .ok (.istore_n 1, 1) ∧ decode cX8_read 51 = .ok (.iload_n 1, 1) ∧ decode cX8_read 52 = .ok (.iconst 4, 1) ∧ decode cX8_read 53 = .ok (.if_icmp .ge 17, 3) ∧ decode cX8_read 56 = .ok (.aload_n 0, 1) ∧ decode cX8_read 57 = .ok (.getfield 41, 3) ∧ decode cX8_read 60 = .ok (.iload_n 1, 1) := by decide +kernel
theorem dX8_read_49 : decode cX8_read 49 = .ok (.iconst 0, 1) := bdX8_read_49.1
theorem dX8_read_50 : decode cX8_read 50 = .ok (.istore_n 1, 1) := bdX8_read_49.2.1
theorem dX8_read_51 : decode cX8_read 51 = .ok (.iload_n 1, 1) := bdX8_read_49.2.2.1
theorem dX8_read_52 : decode cX8_read 52 = .ok (.iconst 4, 1) := bdX8_read_49.2.2.2.1
theorem dX8_read_53 : decode cX8_read 53 = .ok (.if_icmp .ge 17, 3) := bdX8_read_49.2.2.2.2.1
theorem dX8_read_56 : decode cX8_read 56 = .ok (.aload_n 0, 1) := bdX8_read_49.2.2.2.2.2.1
theorem dX8_read_57 : decode cX8_read 57 = .ok (.getfield 41, 3) := bdX8_read_49.2.2.2.2.2.2.1
theorem dX8_read_60 : decode cX8_read 60 = .ok (.iload_n 1, 1) := bdX8_read_49.2.2.2.2.2.2.2
theorem bdX8_read_61 : decode cX8_read 61 = .ok (.bipush 9, 2) ∧ decode cX8_read 63 = .ok (.iastore, 1) ∧ decode cX8_read 64 = .ok (.iinc 1 1, 3) ∧ decode cX8_read 67 = .ok (.goto (-16), 3) ∧ decode cX8_read 70 = .ok (.aload_n 0, 1) ∧ decode cX8_read 71 = .ok (.invokevirtual 100, 3) ∧ decode cX8_read 74 = .ok (.aload_n 0, 1) ∧ decode cX8_read 75 = .ok (.getfield 93, 3) := by decide +kernel
theorem dX8_read_61 : decode cX8_read 61 = .ok (.bipush 9, 2) := bdX8_read_61.1
theorem dX8_read_63 : decode cX8_read 63 = .ok (.iastore, 1) := bdX8_read_61.2.1
theorem dX8_read_64 : decode cX8_read 64 = .ok (.iinc 1 1, 3) := bdX8_read_61.2.2.1
theorem dX8_read_67 : decode cX8_read 67 = .ok (.goto (-16), 3) := bdX8_read_61.2.2.2.1
theorem dX8_read_70 : decode cX8_read 70 = .ok (.aload_n 0, 1) := bdX8_read_61.2.2.2.2.1
theorem dX8_read_71 : decode cX8_read 71 = .ok (.invokevirtual 100, 3) := bdX8_read_61.2.2.2.2.2.1
theorem dX8_read_74 : decode cX8_read 74 = .ok (.aload_n 0, 1) := bdX8_read_61.2.2.2.2.2.2.1
theorem dX8_read_75 : decode cX8_read 75 = .ok (.getfield 93, 3) := bdX8_read_61.2.2.2.2.2.2.2
theorem bdX8_read_78 : decode cX8_read 78 = .ok (.iconst 4, 1) ∧ decode cX8_read 79 = .ok (.if_icmp .eq 94, 3) ∧ decode cX8_read 82 = .ok (.aload_n 0, 1) ∧ decode cX8_read 83 = .ok (.getfield 96, 3) ∧ decode cX8_read 86 = .ok (.ifCond .ne 87, 3) ∧ decode cX8_read 89 = .ok (.aload_n 0, 1) ∧ decode cX8_read 90 = .ok (.getfield 93, 3) ∧ decode cX8_read 93 = .ok (.iconst 1, 1) := by decide +kernel
theorem dX8_read_78 : decode cX8_read 78 = .ok (.iconst 4, 1) := bdX8_read_78.1
theorem dX8_read_79 : decode cX8_read 79 = .ok (.if_icmp .eq 94, 3) := bdX8_read_78.2.1
theorem dX8_read_82 : decode cX8_read 82 = .ok (.aload_n 0, 1) := bdX8_read_78.2.2.1
theorem dX8_read_83 : decode cX8_read 83 = .ok (.getfield 96, 3) := bdX8_read_78.2.2.2.1
theorem dX8_read_86 : decode cX8_read 86 = .ok (.ifCond .ne 87, 3) := bdX8_read_78.2.2.2.2.1
theorem dX8_read_89 : decode cX8_read 89 = .ok (.aload_n 0, 1) := bdX8_read_78.2.2.2.2.2.1
theorem dX8_read_90 : decode cX8_read 90 = .ok (.getfield 93, 3) := bdX8_read_78.2.2.2.2.2.2.1
theorem dX8_read_93 : decode cX8_read 93 = .ok (.iconst 1, 1) := bdX8_read_78.2.2.2.2.2.2.2
theorem bdX8_read_94 : decode cX8_read 94 = .ok (.if_icmp .ne 10, 3) ∧ decode cX8_read 97 = .ok (.aload_n 0, 1) ∧ decode cX8_read 98 = .ok (.getfield 90, 3) ∧ decode cX8_read 101 = .ok (.goto 4, 3) ∧ decode cX8_read 104 = .ok (.iconst 0, 1) ∧ decode cX8_read 105 = .ok (.istore_n 1, 1) ∧ decode cX8_read 106 = .ok (.aload_n 0, 1) ∧ decode cX8_read 107 = .ok (.aload_n 0, 1) := by decide +kernel
theorem dX8_read_94 : decode cX8_read 94 = .ok (.if_icmp .ne 10, 3) := bdX8_read_94.1
theorem dX8_read_97 : decode cX8_read 97 = .ok (.aload_n 0, 1) := bdX8_read_94.2.1
theorem dX8_read_98 : decode cX8_read 98 = .ok (.getfield 90, 3) := bdX8_read_94.2.2.1
theorem dX8_read_101 : decode cX8_read 101 = .ok (.goto 4, 3) := bdX8_read_94.2.2.2.1
theorem dX8_read_104 : decode cX8_read 104 = .ok (.iconst 0, 1) := bdX8_read_94.2.2.2.2.1
theorem dX8_read_105 : decode cX8_read 105 = .ok (.istore_n 1, 1) := bdX8_read_94.2.2.2.2.2.1
theorem dX8_read_106 : decode cX8_read 106 = .ok (.aload_n 0, 1) := bdX8_read_94.2.2.2.2.2.2.1
theorem dX8_read_107 : decode cX8_read 107 = .ok (.aload_n 0, 1) := bdX8_read_94.2.2.2.2.2.2.2
theorem bdX8_read_108 : decode cX8_read 108 = .ok (.getfield 93, 3) ∧ decode cX8_read 111 = .ok (.iconst 1, 1) ∧ decode cX8_read 112 = .ok (.if_icmp .ne 15, 3) ∧ decode cX8_read 115 = .ok (.aload_n 0, 1) ∧ decode cX8_read 116 = .ok (.iload_n 1, 1) ∧ decode cX8_read 117 = .ok (.invokevirtual 120, 3) ∧ decode cX8_read 120 = .ok (.ifCond .eq 7, 3) ∧ decode cX8_read 123 = .ok (.iconst 1, 1) := by decide +kernel
theorem dX8_read_108 : decode cX8_read 108 = .ok (.getfield 93, 3) := bdX8_read_108.1
theorem dX8_read_111 : decode cX8_read 111 = .ok (.iconst 1, 1) := bdX8_read_108.2.1
theorem dX8_read_112 : decode cX8_read 112 = .ok (.if_icmp .ne 15, 3) := bdX8_read_108.2.2.1
theorem dX8_read_115 : decode cX8_read 115 = .ok (.aload_n 0, 1) := bdX8_read_108.2.2.2.1
theorem dX8_read_116 : decode cX8_read 116 = .ok (.iload_n 1, 1) := bdX8_read_108.2.2.2.2.1
theorem dX8_read_117 : decode cX8_read 117 = .ok (.invokevirtual 120, 3) := bdX8_read_108.2.2.2.2.2.1
theorem dX8_read_120 : decode cX8_read 120 = .ok (.ifCond .eq 7, 3) := bdX8_read_108.2.2.2.2.2.2.1
theorem dX8_read_123 : decode cX8_read 123 = .ok (.iconst 1, 1) := bdX8_read_108.2.2.2.2.2.2.2
theorem bdX8_read_124 : decode cX8_read 124 = .ok (.goto 4, 3) ∧ decode cX8_read 127 = .ok (.iconst 0, 1) ∧ decode cX8_read 128 = .ok (.invokevirtual 103, 3) ∧ decode cX8_read 131 = .ok (.aload_n 0, 1) ∧ decode cX8_read 132 = .ok (.getfield 96, 3) ∧ decode cX8_read 135 = .ok (.ifCond .ne 35, 3) ∧ decode cX8_read 138 = .ok (.aload_n 0, 1) ∧ decode cX8_read 139 = .ok (.iload_n 1, 1) := by decide +kernel
theorem dX8_read_124 : decode cX8_read 124 = .ok (.goto 4, 3) := bdX8_read_124.1
theorem dX8_read_127 : decode cX8_read 127 = .ok (.iconst 0, 1) := bdX8_read_124.2.1
theorem dX8_read_128 : decode cX8_read 128 = .ok (.invokevirtual 103, 3) := bdX8_read_124.2.2.1
theorem dX8_read_131 : decode cX8_read 131 = .ok (.aload_n 0, 1) := bdX8_read_124.2.2.2.1
theorem dX8_read_132 : decode cX8_read 132 = .ok (.getfield 96, 3) := bdX8_read_124.2.2.2.2.1
theorem dX8_read_135 : decode cX8_read 135 = .ok (.ifCond .ne 35, 3) := bdX8_read_124.2.2.2.2.2.1
theorem dX8_read_138 : decode cX8_read 138 = .ok (.aload_n 0, 1) := bdX8_read_124.2.2.2.2.2.2.1
theorem dX8_read_139 : decode cX8_read 139 = .ok (.iload_n 1, 1) := bdX8_read_124.2.2.2.2.2.2.2
theorem bdX8_read_140 : decode cX8_read 140 = .ok (.invokevirtual 124, 3) ∧ decode cX8_read 143 = .ok (.aload_n 0, 1) ∧ decode cX8_read 144 = .ok (.aload_n 0, 1) ∧ decode cX8_read 145 = .ok (.getfield 93, 3) ∧ decode cX8_read 148 = .ok (.iconst 3, 1) ∧ decode cX8_read 149 = .ok (.if_icmp .ne 7, 3) ∧ decode cX8_read 152 = .ok (.iconst 1, 1) ∧ decode cX8_read 153 = .ok (.goto 4, 3) := by decide +kernel
theorem dX8_read_140 : decode cX8_read 140 = .ok (.invokevirtual 124, 3) := bdX8_read_140.1
theorem dX8_read_143 : decode cX8_read 143 = .ok (.aload_n 0, 1) := bdX8_read_140.2.1
theorem dX8_read_144 : decode cX8_read 144 = .ok (.aload_n 0, 1) := bdX8_read_140.2.2.1
theorem dX8_read_145 : decode cX8_read 145 = .ok (.getfield 93, 3) := bdX8_read_140.2.2.2.1
theorem dX8_read_148 : decode cX8_read 148 = .ok (.iconst 3, 1) := bdX8_read_140.2.2.2.2.1
theorem dX8_read_149 : decode cX8_read 149 = .ok (.if_icmp .ne 7, 3) := bdX8_read_140.2.2.2.2.2.1
theorem dX8_read_152 : decode cX8_read 152 = .ok (.iconst 1, 1) := bdX8_read_140.2.2.2.2.2.2.1
theorem dX8_read_153 : decode cX8_read 153 = .ok (.goto 4, 3) := bdX8_read_140.2.2.2.2.2.2.2
theorem bdX8_read_156 : decode cX8_read 156 = .ok (.iconst 0, 1) ∧ decode cX8_read 157 = .ok (.invokevirtual 103, 3) ∧ decode cX8_read 160 = .ok (.aload_n 0, 1) ∧ decode cX8_read 161 = .ok (.dup, 1) ∧ decode cX8_read 162 = .ok (.getfield 117, 3) ∧ decode cX8_read 165 = .ok (.iconst 1, 1) ∧ decode cX8_read 166 = .ok (.iadd, 1) ∧ decode cX8_read 167 = .ok (.putfield 117, 3) := by decide +kernel
theorem dX8_read_156 : decode cX8_read 156 = .ok (.iconst 0, 1) := bdX8_read_156.1
theorem dX8_read_157 : decode cX8_read 157 = .ok (.invokevirtual 103, 3) := bdX8_read_156.2.1
theorem dX8_read_160 : decode cX8_read 160 = .ok (.aload_n 0, 1) := bdX8_read_156.2.2.1
theorem dX8_read_161 : decode cX8_read 161 = .ok (.dup, 1) := bdX8_read_156.2.2.2.1
theorem dX8_read_162 : decode cX8_read 162 = .ok (.getfield 117, 3) := bdX8_read_156.2.2.2.2.1
theorem dX8_read_165 : decode cX8_read 165 = .ok (.iconst 1, 1) := bdX8_read_156.2.2.2.2.2.1
theorem dX8_read_166 : decode cX8_read 166 = .ok (.iadd, 1) := bdX8_read_156.2.2.2.2.2.2.1
theorem dX8_read_167 : decode cX8_read 167 = .ok (.putfield 117, 3) := bdX8_read_156.2.2.2.2.2.2.2
theorem bdX8_read_170 : decode cX8_read 170 = .ok (.goto (-96), 3) ∧ decode cX8_read 173 = .ok (.return_, 1) := by decide +kernel
theorem dX8_read_170 : decode cX8_read 170 = .ok (.goto (-96), 3) := bdX8_read_170.1
theorem dX8_read_173 : decode cX8_read 173 = .ok (.return_, 1) := bdX8_read_170.2
set_option maxRecDepth 20000 in
set_option maxRecDepth 100000 in
theorem ggX8_uplands_X8_read : GoodIn wsX8_uplands wsX8_read := goodIn_hd (goodIn_c ch_X8_uplands hc_X8_uplands ([.code yX8_read cX8_read 2 none] : List Cond) [(1, 22)] rfl (by decide +kernel)) (goodIn_app (goodIn_app (goodIn_c ch_X8_uplands hc_X8_uplands wsX8_read_r1 [(1, 23), (1, 0), (1, 17), (2, 0), (1, 2), (1, 3), (1, 4), (1, 11), (1, 12), (2, 1), (2, 2), (2, 3), (2, 4), (2, 5), (1, 21), (2, 6), (1, 1), (2, 7), (2, 8), (2, 9), (2, 10), (1, 16), (2, 11), (2, 12)] rfl (by decide +kernel)) (goodIn_app (goodIn_c ch_X8_uplands hc_X8_uplands wsX8_read_r2 [(2, 13), (2, 14), (2, 15), (2, 16), (2, 17), (2, 18), (2, 19), (2, 20), (2, 21), (2, 22), (2, 23), (3, 0), (3, 1), (3, 2), (1, 6), (1, 7), (1, 8), (1, 9), (1, 10), (3, 3), (3, 4), (3, 5), (3, 6), (3, 7)] rfl (by decide +kernel)) (goodIn_c ch_X8_uplands hc_X8_uplands wsX8_read_r3 [(3, 8), (3, 9), (3, 10)] rfl (by decide +kernel)))) (goodIn_sub (fun _ h => (List.mem_cons_of_mem _ (List.mem_append_right _ h))) gwX8))
set_option maxRecDepth 20000 in
theorem gX8_uplands_X8_read : GoodIn wsX8_uplands (wsV RX8 128 RX8 yX8_read wsX8_read) := goodIn_app (goodIn_of _ (by decide +kernel)) ggX8_uplands_X8_read
theorem bdX8_uplands_0 : decode cX8_uplands 0 = .ok (.aload_n 0, 1) ∧ decode cX8_uplands 1 = .ok (.invokevirtual 128, 3) ∧ decode cX8_uplands 4 = .ok (.aload_n 0, 1) ∧ decode cX8_uplands 5 = .ok (.getfield 96, 3) ∧ decode cX8_uplands 8 = .ok (.ifCond .eq 11, 3) ∧ decode cX8_uplands 11 = .ok (.bipush (-10), 2) ∧ decode cX8_uplands 13 = .ok (.aload_n 0, 1) ∧ decode cX8_uplands 14 = .ok (.getfield 87, 3) := by decide +kernel
theorem dX8_uplands_0 : decode cX8_uplands 0 = .ok (.aload_n 0, 1) := bdX8_uplands_0.1
theorem dX8_uplands_1 : decode cX8_uplands 1 = .ok (.invokevirtual 128, 3) := bdX8_uplands_0.2.1
theorem dX8_uplands_4 : decode cX8_uplands 4 = .ok (.aload_n 0, 1) := bdX8_uplands_0.2.2.1
theorem dX8_uplands_5 : decode cX8_uplands 5 = .ok (.getfield 96, 3) := bdX8_uplands_0.2.2.2.1
theorem dX8_uplands_8 : decode cX8_uplands 8 = .ok (.ifCond .eq 11, 3) := bdX8_uplands_0.2.2.2.2.1
theorem dX8_uplands_11 : decode cX8_uplands 11 = .ok (.bipush (-10), 2) := bdX8_uplands_0.2.2.2.2.2.1
theorem dX8_uplands_13 : decode cX8_uplands 13 = .ok (.aload_n 0, 1) := bdX8_uplands_0.2.2.2.2.2.2.1
theorem dX8_uplands_14 : decode cX8_uplands 14 = .ok (.getfield 87, 3) := bdX8_uplands_0.2.2.2.2.2.2.2
theorem bdX8_uplands_17 : decode cX8_uplands 17 = .ok (.isub, 1) ∧ decode cX8_uplands 18 = .ok (.ireturn, 1) ∧ decode cX8_uplands 19 = .ok (.aload_n 0, 1) ∧ decode cX8_uplands 20 = .ok (.getfield 13, 3) ∧ decode cX8_uplands 23 = .ok (.iconst 0, 1) ∧ decode cX8_uplands 24 = .ok (.aload_n 0, 1) ∧ decode cX8_uplands 25 = .ok (.getfield 13, 3) ∧ decode cX8_uplands 28 = .ok (.iconst 1, 1) := by decide +kernel
theorem dX8_uplands_17 : decode cX8_uplands 17 = .ok (.isub, 1) := bdX8_uplands_17.1
theorem dX8_uplands_18 : decode cX8_uplands 18 = .ok (.ireturn, 1) := bdX8_uplands_17.2.1
theorem dX8_uplands_19 : decode cX8_uplands 19 = .ok (.aload_n 0, 1) := bdX8_uplands_17.2.2.1
theorem dX8_uplands_20 : decode cX8_uplands 20 = .ok (.getfield 13, 3) := bdX8_uplands_17.2.2.2.1
theorem dX8_uplands_23 : decode cX8_uplands 23 = .ok (.iconst 0, 1) := bdX8_uplands_17.2.2.2.2.1
theorem dX8_uplands_24 : decode cX8_uplands 24 = .ok (.aload_n 0, 1) := bdX8_uplands_17.2.2.2.2.2.1
theorem dX8_uplands_25 : decode cX8_uplands 25 = .ok (.getfield 13, 3) := bdX8_uplands_17.2.2.2.2.2.2.1
theorem dX8_uplands_28 : decode cX8_uplands 28 = .ok (.iconst 1, 1) := bdX8_uplands_17.2.2.2.2.2.2.2
theorem bdX8_uplands_29 : decode cX8_uplands 29 = .ok (.iaload, 1) ∧ decode cX8_uplands 30 = .ok (.iastore, 1) ∧ decode cX8_uplands 31 = .ok (.aload_n 0, 1) ∧ decode cX8_uplands 32 = .ok (.getfield 23, 3) ∧ decode cX8_uplands 35 = .ok (.iconst 0, 1) ∧ decode cX8_uplands 36 = .ok (.aload_n 0, 1) ∧ decode cX8_uplands 37 = .ok (.getfield 23, 3) ∧ decode cX8_uplands 40 = .ok (.iconst 1, 1) := by decide +kernel
theorem dX8_uplands_29 : decode cX8_uplands 29 = .ok (.iaload, 1) := bdX8_uplands_29.1
theorem dX8_uplands_30 : decode cX8_uplands 30 = .ok (.iastore, 1) := bdX8_uplands_29.2.1
theorem dX8_uplands_31 : decode cX8_uplands 31 = .ok (.aload_n 0, 1) := bdX8_uplands_29.2.2.1
theorem dX8_uplands_32 : decode cX8_uplands 32 = .ok (.getfield 23, 3) := bdX8_uplands_29.2.2.2.1
theorem dX8_uplands_35 : decode cX8_uplands 35 = .ok (.iconst 0, 1) := bdX8_uplands_29.2.2.2.2.1
theorem dX8_uplands_36 : decode cX8_uplands 36 = .ok (.aload_n 0, 1) := bdX8_uplands_29.2.2.2.2.2.1
theorem dX8_uplands_37 : decode cX8_uplands 37 = .ok (.getfield 23, 3) := bdX8_uplands_29.2.2.2.2.2.2.1
theorem dX8_uplands_40 : decode cX8_uplands 40 = .ok (.iconst 1, 1) := bdX8_uplands_29.2.2.2.2.2.2.2
theorem bdX8_uplands_41 : decode cX8_uplands 41 = .ok (.iaload, 1) ∧ decode cX8_uplands 42 = .ok (.iastore, 1) ∧ decode cX8_uplands 43 = .ok (.aload_n 0, 1) ∧ decode cX8_uplands 44 = .ok (.getfield 35, 3) ∧ decode cX8_uplands 47 = .ok (.iconst 0, 1) ∧ decode cX8_uplands 48 = .ok (.aload_n 0, 1) ∧ decode cX8_uplands 49 = .ok (.getfield 35, 3) ∧ decode cX8_uplands 52 = .ok (.iconst 1, 1) := by decide +kernel
theorem dX8_uplands_41 : decode cX8_uplands 41 = .ok (.iaload, 1) := bdX8_uplands_41.1
theorem dX8_uplands_42 : decode cX8_uplands 42 = .ok (.iastore, 1) := bdX8_uplands_41.2.1
theorem dX8_uplands_43 : decode cX8_uplands 43 = .ok (.aload_n 0, 1) := bdX8_uplands_41.2.2.1
theorem dX8_uplands_44 : decode cX8_uplands 44 = .ok (.getfield 35, 3) := bdX8_uplands_41.2.2.2.1
theorem dX8_uplands_47 : decode cX8_uplands 47 = .ok (.iconst 0, 1) := bdX8_uplands_41.2.2.2.2.1
theorem dX8_uplands_48 : decode cX8_uplands 48 = .ok (.aload_n 0, 1) := bdX8_uplands_41.2.2.2.2.2.1
theorem dX8_uplands_49 : decode cX8_uplands 49 = .ok (.getfield 35, 3) := bdX8_uplands_41.2.2.2.2.2.2.1
theorem dX8_uplands_52 : decode cX8_uplands 52 = .ok (.iconst 1, 1) := bdX8_uplands_41.2.2.2.2.2.2.2
theorem bdX8_uplands_53 : decode cX8_uplands 53 = .ok (.iaload, 1) ∧ decode cX8_uplands 54 = .ok (.iastore, 1) ∧ decode cX8_uplands 55 = .ok (.iconst 0, 1) ∧ decode cX8_uplands 56 = .ok (.istore_n 1, 1) ∧ decode cX8_uplands 57 = .ok (.iload_n 1, 1) ∧ decode cX8_uplands 58 = .ok (.bipush 29, 2) ∧ decode cX8_uplands 60 = .ok (.if_icmp .ge 16, 3) ∧ decode cX8_uplands 63 = .ok (.aload_n 0, 1) := by decide +kernel
theorem dX8_uplands_53 : decode cX8_uplands 53 = .ok (.iaload, 1) := bdX8_uplands_53.1
theorem dX8_uplands_54 : decode cX8_uplands 54 = .ok (.iastore, 1) := bdX8_uplands_53.2.1
theorem dX8_uplands_55 : decode cX8_uplands 55 = .ok (.iconst 0, 1) := bdX8_uplands_53.2.2.1
theorem dX8_uplands_56 : decode cX8_uplands 56 = .ok (.istore_n 1, 1) := bdX8_uplands_53.2.2.2.1
theorem dX8_uplands_57 : decode cX8_uplands 57 = .ok (.iload_n 1, 1) := bdX8_uplands_53.2.2.2.2.1
theorem dX8_uplands_58 : decode cX8_uplands 58 = .ok (.bipush 29, 2) := bdX8_uplands_53.2.2.2.2.2.1
theorem dX8_uplands_60 : decode cX8_uplands 60 = .ok (.if_icmp .ge 16, 3) := bdX8_uplands_53.2.2.2.2.2.2.1
theorem dX8_uplands_63 : decode cX8_uplands 63 = .ok (.aload_n 0, 1) := bdX8_uplands_53.2.2.2.2.2.2.2
theorem bdX8_uplands_64 : decode cX8_uplands 64 = .ok (.getfield 44, 3) ∧ decode cX8_uplands 67 = .ok (.iload_n 1, 1) ∧ decode cX8_uplands 68 = .ok (.iconst 0, 1) ∧ decode cX8_uplands 69 = .ok (.iastore, 1) ∧ decode cX8_uplands 70 = .ok (.iinc 1 1, 3) ∧ decode cX8_uplands 73 = .ok (.goto (-16), 3) ∧ decode cX8_uplands 76 = .ok (.iconst 0, 1) ∧ decode cX8_uplands 77 = .ok (.istore_n 1, 1) := by decide +kernel
theorem dX8_uplands_64 : decode cX8_uplands 64 = .ok (.getfield 44, 3) := bdX8_uplands_64.1
theorem dX8_uplands_67 : decode cX8_uplands 67 = .ok (.iload_n 1, 1) := bdX8_uplands_64.2.1
theorem dX8_uplands_68 : decode cX8_uplands 68 = .ok (.iconst 0, 1) := bdX8_uplands_64.2.2.1
theorem dX8_uplands_69 : decode cX8_uplands 69 = .ok (.iastore, 1) := bdX8_uplands_64.2.2.2.1
theorem dX8_uplands_70 : decode cX8_uplands 70 = .ok (.iinc 1 1, 3) := bdX8_uplands_64.2.2.2.2.1
theorem dX8_uplands_73 : decode cX8_uplands 73 = .ok (.goto (-16), 3) := bdX8_uplands_64.2.2.2.2.2.1
theorem dX8_uplands_76 : decode cX8_uplands 76 = .ok (.iconst 0, 1) := bdX8_uplands_64.2.2.2.2.2.2.1
theorem dX8_uplands_77 : decode cX8_uplands 77 = .ok (.istore_n 1, 1) := bdX8_uplands_64.2.2.2.2.2.2.2
theorem bdX8_uplands_78 : decode cX8_uplands 78 = .ok (.iload_n 1, 1) ∧ decode cX8_uplands 79 = .ok (.bipush 6, 2) ∧ decode cX8_uplands 81 = .ok (.if_icmp .ge 39, 3) ∧ decode cX8_uplands 84 = .ok (.aload_n 0, 1) ∧ decode cX8_uplands 85 = .ok (.getfield 17, 3) ∧ decode cX8_uplands 88 = .ok (.iload_n 1, 1) ∧ decode cX8_uplands 89 = .ok (.aload_n 0, 1) ∧ decode cX8_uplands 90 = .ok (.getfield 17, 3) := by decide +kernel
theorem dX8_uplands_78 : decode cX8_uplands 78 = .ok (.iload_n 1, 1) := bdX8_uplands_78.1
theorem dX8_uplands_79 : decode cX8_uplands 79 = .ok (.bipush 6, 2) := bdX8_uplands_78.2.1
theorem dX8_uplands_81 : decode cX8_uplands 81 = .ok (.if_icmp .ge 39, 3) := bdX8_uplands_78.2.2.1
theorem dX8_uplands_84 : decode cX8_uplands 84 = .ok (.aload_n 0, 1) := bdX8_uplands_78.2.2.2.1
theorem dX8_uplands_85 : decode cX8_uplands 85 = .ok (.getfield 17, 3) := bdX8_uplands_78.2.2.2.2.1
theorem dX8_uplands_88 : decode cX8_uplands 88 = .ok (.iload_n 1, 1) := bdX8_uplands_78.2.2.2.2.2.1
theorem dX8_uplands_89 : decode cX8_uplands 89 = .ok (.aload_n 0, 1) := bdX8_uplands_78.2.2.2.2.2.2.1
theorem dX8_uplands_90 : decode cX8_uplands 90 = .ok (.getfield 17, 3) := bdX8_uplands_78.2.2.2.2.2.2.2
theorem bdX8_uplands_93 : decode cX8_uplands 93 = .ok (.bipush 6, 2) ∧ decode cX8_uplands 95 = .ok (.iload_n 1, 1) ∧ decode cX8_uplands 96 = .ok (.iadd, 1) ∧ decode cX8_uplands 97 = .ok (.iaload, 1) ∧ decode cX8_uplands 98 = .ok (.iastore, 1) ∧ decode cX8_uplands 99 = .ok (.aload_n 0, 1) ∧ decode cX8_uplands 100 = .ok (.getfield 20, 3) ∧ decode cX8_uplands 103 = .ok (.iload_n 1, 1) := by decide +kernel
theorem dX8_uplands_93 : decode cX8_uplands 93 = .ok (.bipush 6, 2) := bdX8_uplands_93.1
theorem dX8_uplands_95 : decode cX8_uplands 95 = .ok (.iload_n 1, 1) := bdX8_uplands_93.2.1
theorem dX8_uplands_96 : decode cX8_uplands 96 = .ok (.iadd, 1) := bdX8_uplands_93.2.2.1
theorem dX8_uplands_97 : decode cX8_uplands 97 = .ok (.iaload, 1) := bdX8_uplands_93.2.2.2.1
theorem dX8_uplands_98 : decode cX8_uplands 98 = .ok (.iastore, 1) := bdX8_uplands_93.2.2.2.2.1
theorem dX8_uplands_99 : decode cX8_uplands 99 = .ok (.aload_n 0, 1) := bdX8_uplands_93.2.2.2.2.2.1
theorem dX8_uplands_100 : decode cX8_uplands 100 = .ok (.getfield 20, 3) := bdX8_uplands_93.2.2.2.2.2.2.1
theorem dX8_uplands_103 : decode cX8_uplands 103 = .ok (.iload_n 1, 1) := bdX8_uplands_93.2.2.2.2.2.2.2
theorem bdX8_uplands_104 : decode cX8_uplands 104 = .ok (.aload_n 0, 1) ∧ decode cX8_uplands 105 = .ok (.getfield 20, 3) ∧ decode cX8_uplands 108 = .ok (.bipush 6, 2) ∧ decode cX8_uplands 110 = .ok (.iload_n 1, 1) ∧ decode cX8_uplands 111 = .ok (.iadd, 1) ∧ decode cX8_uplands 112 = .ok (.iaload, 1) ∧ decode cX8_uplands 113 = .ok (.iastore, 1) ∧ decode cX8_uplands 114 = .ok (.iinc 1 1, 3) := by decide +kernel
theorem dX8_uplands_104 : decode cX8_uplands 104 = .ok (.aload_n 0, 1) := bdX8_uplands_104.1
theorem dX8_uplands_105 : decode cX8_uplands 105 = .ok (.getfield 20, 3) := bdX8_uplands_104.2.1
theorem dX8_uplands_108 : decode cX8_uplands 108 = .ok (.bipush 6, 2) := bdX8_uplands_104.2.2.1
theorem dX8_uplands_110 : decode cX8_uplands 110 = .ok (.iload_n 1, 1) := bdX8_uplands_104.2.2.2.1
theorem dX8_uplands_111 : decode cX8_uplands 111 = .ok (.iadd, 1) := bdX8_uplands_104.2.2.2.2.1
theorem dX8_uplands_112 : decode cX8_uplands 112 = .ok (.iaload, 1) := bdX8_uplands_104.2.2.2.2.2.1
theorem dX8_uplands_113 : decode cX8_uplands 113 = .ok (.iastore, 1) := bdX8_uplands_104.2.2.2.2.2.2.1
theorem dX8_uplands_114 : decode cX8_uplands 114 = .ok (.iinc 1 1, 3) := bdX8_uplands_104.2.2.2.2.2.2.2
theorem bdX8_uplands_117 : decode cX8_uplands 117 = .ok (.goto (-39), 3) ∧ decode cX8_uplands 120 = .ok (.iconst 0, 1) ∧ decode cX8_uplands 121 = .ok (.istore_n 1, 1) ∧ decode cX8_uplands 122 = .ok (.iload_n 1, 1) ∧ decode cX8_uplands 123 = .ok (.bipush 6, 2) ∧ decode cX8_uplands 125 = .ok (.if_icmp .ge 85, 3) ∧ decode cX8_uplands 128 = .ok (.aload_n 0, 1) ∧ decode cX8_uplands 129 = .ok (.getfield 26, 3) := by decide +kernel
theorem dX8_uplands_117 : decode cX8_uplands 117 = .ok (.goto (-39), 3) := bdX8_uplands_117.1
theorem dX8_uplands_120 : decode cX8_uplands 120 = .ok (.iconst 0, 1) := bdX8_uplands_117.2.1
theorem dX8_uplands_121 : decode cX8_uplands 121 = .ok (.istore_n 1, 1) := bdX8_uplands_117.2.2.1
theorem dX8_uplands_122 : decode cX8_uplands 122 = .ok (.iload_n 1, 1) := bdX8_uplands_117.2.2.2.1
theorem dX8_uplands_123 : decode cX8_uplands 123 = .ok (.bipush 6, 2) := bdX8_uplands_117.2.2.2.2.1
theorem dX8_uplands_125 : decode cX8_uplands 125 = .ok (.if_icmp .ge 85, 3) := bdX8_uplands_117.2.2.2.2.2.1
theorem dX8_uplands_128 : decode cX8_uplands 128 = .ok (.aload_n 0, 1) := bdX8_uplands_117.2.2.2.2.2.2.1
theorem dX8_uplands_129 : decode cX8_uplands 129 = .ok (.getfield 26, 3) := bdX8_uplands_117.2.2.2.2.2.2.2
theorem bdX8_uplands_132 : decode cX8_uplands 132 = .ok (.iload_n 1, 1) ∧ decode cX8_uplands 133 = .ok (.aload_n 0, 1) ∧ decode cX8_uplands 134 = .ok (.getfield 26, 3) ∧ decode cX8_uplands 137 = .ok (.bipush 6, 2) ∧ decode cX8_uplands 139 = .ok (.iload_n 1, 1) ∧ decode cX8_uplands 140 = .ok (.iadd, 1) ∧ decode cX8_uplands 141 = .ok (.iaload, 1) ∧ decode cX8_uplands 142 = .ok (.iastore, 1) := by decide +kernel
theorem dX8_uplands_132 : decode cX8_uplands 132 = .ok (.iload_n 1, 1) := bdX8_uplands_132.1
theorem dX8_uplands_133 : decode cX8_uplands 133 = .ok (.aload_n 0, 1) := bdX8_uplands_132.2.1
theorem dX8_uplands_134 : decode cX8_uplands 134 = .ok (.getfield 26, 3) := bdX8_uplands_132.2.2.1
theorem dX8_uplands_137 : decode cX8_uplands 137 = .ok (.bipush 6, 2) := bdX8_uplands_132.2.2.2.1
theorem dX8_uplands_139 : decode cX8_uplands 139 = .ok (.iload_n 1, 1) := bdX8_uplands_132.2.2.2.2.1
theorem dX8_uplands_140 : decode cX8_uplands 140 = .ok (.iadd, 1) := bdX8_uplands_132.2.2.2.2.2.1
theorem dX8_uplands_141 : decode cX8_uplands 141 = .ok (.iaload, 1) := bdX8_uplands_132.2.2.2.2.2.2.1
theorem dX8_uplands_142 : decode cX8_uplands 142 = .ok (.iastore, 1) := bdX8_uplands_132.2.2.2.2.2.2.2
theorem bdX8_uplands_143 : decode cX8_uplands 143 = .ok (.aload_n 0, 1) ∧ decode cX8_uplands 144 = .ok (.getfield 29, 3) ∧ decode cX8_uplands 147 = .ok (.iload_n 1, 1) ∧ decode cX8_uplands 148 = .ok (.aload_n 0, 1) ∧ decode cX8_uplands 149 = .ok (.getfield 29, 3) ∧ decode cX8_uplands 152 = .ok (.bipush 6, 2) ∧ decode cX8_uplands 154 = .ok (.iload_n 1, 1) ∧ decode cX8_uplands 155 = .ok (.iadd, 1) := by decide +kernel
theorem dX8_uplands_143 : decode cX8_uplands 143 = .ok (.aload_n 0, 1) := bdX8_uplands_143.1
theorem dX8_uplands_144 : decode cX8_uplands 144 = .ok (.getfield 29, 3) := bdX8_uplands_143.2.1
theorem dX8_uplands_147 : decode cX8_uplands 147 = .ok (.iload_n 1, 1) := bdX8_uplands_143.2.2.1
theorem dX8_uplands_148 : decode cX8_uplands 148 = .ok (.aload_n 0, 1) := bdX8_uplands_143.2.2.2.1
theorem dX8_uplands_149 : decode cX8_uplands 149 = .ok (.getfield 29, 3) := bdX8_uplands_143.2.2.2.2.1
theorem dX8_uplands_152 : decode cX8_uplands 152 = .ok (.bipush 6, 2) := bdX8_uplands_143.2.2.2.2.2.1
theorem dX8_uplands_154 : decode cX8_uplands 154 = .ok (.iload_n 1, 1) := bdX8_uplands_143.2.2.2.2.2.2.1
theorem dX8_uplands_155 : decode cX8_uplands 155 = .ok (.iadd, 1) := bdX8_uplands_143.2.2.2.2.2.2.2
theorem bdX8_uplands_156 : decode cX8_uplands 156 = .ok (.iaload, 1) ∧ decode cX8_uplands 157 = .ok (.iastore, 1) ∧ decode cX8_uplands 158 = .ok (.aload_n 0, 1) ∧ decode cX8_uplands 159 = .ok (.getfield 32, 3) ∧ decode cX8_uplands 162 = .ok (.iload_n 1, 1) ∧ decode cX8_uplands 163 = .ok (.aload_n 0, 1) ∧ decode cX8_uplands 164 = .ok (.getfield 32, 3) ∧ decode cX8_uplands 167 = .ok (.bipush 6, 2) := by decide +kernel
theorem dX8_uplands_156 : decode cX8_uplands 156 = .ok (.iaload, 1) := bdX8_uplands_156.1
theorem dX8_uplands_157 : decode cX8_uplands 157 = .ok (.iastore, 1) := bdX8_uplands_156.2.1
theorem dX8_uplands_158 : decode cX8_uplands 158 = .ok (.aload_n 0, 1) := bdX8_uplands_156.2.2.1
theorem dX8_uplands_159 : decode cX8_uplands 159 = .ok (.getfield 32, 3) := bdX8_uplands_156.2.2.2.1
theorem dX8_uplands_162 : decode cX8_uplands 162 = .ok (.iload_n 1, 1) := bdX8_uplands_156.2.2.2.2.1
theorem dX8_uplands_163 : decode cX8_uplands 163 = .ok (.aload_n 0, 1) := bdX8_uplands_156.2.2.2.2.2.1
theorem dX8_uplands_164 : decode cX8_uplands 164 = .ok (.getfield 32, 3) := bdX8_uplands_156.2.2.2.2.2.2.1
theorem dX8_uplands_167 : decode cX8_uplands 167 = .ok (.bipush 6, 2) := bdX8_uplands_156.2.2.2.2.2.2.2
theorem bdX8_uplands_169 : decode cX8_uplands 169 = .ok (.iload_n 1, 1) ∧ decode cX8_uplands 170 = .ok (.iadd, 1) ∧ decode cX8_uplands 171 = .ok (.iaload, 1) ∧ decode cX8_uplands 172 = .ok (.iastore, 1) ∧ decode cX8_uplands 173 = .ok (.aload_n 0, 1) ∧ decode cX8_uplands 174 = .ok (.getfield 44, 3) ∧ decode cX8_uplands 177 = .ok (.bipush 6, 2) ∧ decode cX8_uplands 179 = .ok (.iload_n 1, 1) := by decide +kernel
theorem dX8_uplands_169 : decode cX8_uplands 169 = .ok (.iload_n 1, 1) := bdX8_uplands_169.1
theorem dX8_uplands_170 : decode cX8_uplands 170 = .ok (.iadd, 1) := bdX8_uplands_169.2.1
theorem dX8_uplands_171 : decode cX8_uplands 171 = .ok (.iaload, 1) := bdX8_uplands_169.2.2.1
theorem dX8_uplands_172 : decode cX8_uplands 172 = .ok (.iastore, 1) := bdX8_uplands_169.2.2.2.1
theorem dX8_uplands_173 : decode cX8_uplands 173 = .ok (.aload_n 0, 1) := bdX8_uplands_169.2.2.2.2.1
theorem dX8_uplands_174 : decode cX8_uplands 174 = .ok (.getfield 44, 3) := bdX8_uplands_169.2.2.2.2.2.1
theorem dX8_uplands_177 : decode cX8_uplands 177 = .ok (.bipush 6, 2) := bdX8_uplands_169.2.2.2.2.2.2.1
theorem dX8_uplands_179 : decode cX8_uplands 179 = .ok (.iload_n 1, 1) := bdX8_uplands_169.2.2.2.2.2.2.2
theorem bdX8_uplands_180 : decode cX8_uplands 180 = .ok (.iadd, 1) ∧ decode cX8_uplands 181 = .ok (.iload_n 1, 1) ∧ decode cX8_uplands 182 = .ok (.aload_n 0, 1) ∧ decode cX8_uplands 183 = .ok (.getfield 23, 3) ∧ decode cX8_uplands 186 = .ok (.iconst 0, 1) ∧ decode cX8_uplands 187 = .ok (.iaload, 1) ∧ decode cX8_uplands 188 = .ok (.if_icmp .ge 14, 3) ∧ decode cX8_uplands 191 = .ok (.iconst 1, 1) := by decide +kernel
theorem dX8_uplands_180 : decode cX8_uplands 180 = .ok (.iadd, 1) := bdX8_uplands_180.1
theorem dX8_uplands_181 : decode cX8_uplands 181 = .ok (.iload_n 1, 1) := bdX8_uplands_180.2.1
theorem dX8_uplands_182 : decode cX8_uplands 182 = .ok (.aload_n 0, 1) := bdX8_uplands_180.2.2.1
theorem dX8_uplands_183 : decode cX8_uplands 183 = .ok (.getfield 23, 3) := bdX8_uplands_180.2.2.2.1
theorem dX8_uplands_186 : decode cX8_uplands 186 = .ok (.iconst 0, 1) := bdX8_uplands_180.2.2.2.2.1
theorem dX8_uplands_187 : decode cX8_uplands 187 = .ok (.iaload, 1) := bdX8_uplands_180.2.2.2.2.2.1
theorem dX8_uplands_188 : decode cX8_uplands 188 = .ok (.if_icmp .ge 14, 3) := bdX8_uplands_180.2.2.2.2.2.2.1
theorem dX8_uplands_191 : decode cX8_uplands 191 = .ok (.iconst 1, 1) := bdX8_uplands_180.2.2.2.2.2.2.2
theorem bdX8_uplands_192 : decode cX8_uplands 192 = .ok (.aload_n 0, 1) ∧ decode cX8_uplands 193 = .ok (.getfield 32, 3) ∧ decode cX8_uplands 196 = .ok (.iload_n 1, 1) ∧ decode cX8_uplands 197 = .ok (.iaload, 1) ∧ decode cX8_uplands 198 = .ok (.ishl, 1) ∧ decode cX8_uplands 199 = .ok (.goto 4, 3) ∧ decode cX8_uplands 202 = .ok (.iconst 0, 1) ∧ decode cX8_uplands 203 = .ok (.iastore, 1) := by decide +kernel
theorem dX8_uplands_192 : decode cX8_uplands 192 = .ok (.aload_n 0, 1) := bdX8_uplands_192.1
theorem dX8_uplands_193 : decode cX8_uplands 193 = .ok (.getfield 32, 3) := bdX8_uplands_192.2.1
theorem dX8_uplands_196 : decode cX8_uplands 196 = .ok (.iload_n 1, 1) := bdX8_uplands_192.2.2.1
theorem dX8_uplands_197 : decode cX8_uplands 197 = .ok (.iaload, 1) := bdX8_uplands_192.2.2.2.1
theorem dX8_uplands_198 : decode cX8_uplands 198 = .ok (.ishl, 1) := bdX8_uplands_192.2.2.2.2.1
theorem dX8_uplands_199 : decode cX8_uplands 199 = .ok (.goto 4, 3) := bdX8_uplands_192.2.2.2.2.2.1
theorem dX8_uplands_202 : decode cX8_uplands 202 = .ok (.iconst 0, 1) := bdX8_uplands_192.2.2.2.2.2.2.1
theorem dX8_uplands_203 : decode cX8_uplands 203 = .ok (.iastore, 1) := bdX8_uplands_192.2.2.2.2.2.2.2
theorem bdX8_uplands_204 : decode cX8_uplands 204 = .ok (.iinc 1 1, 3) ∧ decode cX8_uplands 207 = .ok (.goto (-85), 3) ∧ decode cX8_uplands 210 = .ok (.iconst 0, 1) ∧ decode cX8_uplands 211 = .ok (.istore_n 1, 1) ∧ decode cX8_uplands 212 = .ok (.iload_n 1, 1) ∧ decode cX8_uplands 213 = .ok (.bipush 6, 2) ∧ decode cX8_uplands 215 = .ok (.if_icmp .ge 24, 3) ∧ decode cX8_uplands 218 = .ok (.aload_n 0, 1) := by decide +kernel
theorem dX8_uplands_204 : decode cX8_uplands 204 = .ok (.iinc 1 1, 3) := bdX8_uplands_204.1
theorem dX8_uplands_207 : decode cX8_uplands 207 = .ok (.goto (-85), 3) := bdX8_uplands_204.2.1
theorem dX8_uplands_210 : decode cX8_uplands 210 = .ok (.iconst 0, 1) := bdX8_uplands_204.2.2.1
theorem dX8_uplands_211 : decode cX8_uplands 211 = .ok (.istore_n 1, 1) := bdX8_uplands_204.2.2.2.1
theorem dX8_uplands_212 : decode cX8_uplands 212 = .ok (.iload_n 1, 1) := bdX8_uplands_204.2.2.2.2.1
theorem dX8_uplands_213 : decode cX8_uplands 213 = .ok (.bipush 6, 2) := bdX8_uplands_204.2.2.2.2.2.1
theorem dX8_uplands_215 : decode cX8_uplands 215 = .ok (.if_icmp .ge 24, 3) := bdX8_uplands_204.2.2.2.2.2.2.1
theorem dX8_uplands_218 : decode cX8_uplands 218 = .ok (.aload_n 0, 1) := bdX8_uplands_204.2.2.2.2.2.2.2
theorem bdX8_uplands_219 : decode cX8_uplands 219 = .ok (.getfield 38, 3) ∧ decode cX8_uplands 222 = .ok (.iload_n 1, 1) ∧ decode cX8_uplands 223 = .ok (.aload_n 0, 1) ∧ decode cX8_uplands 224 = .ok (.getfield 38, 3) ∧ decode cX8_uplands 227 = .ok (.bipush 6, 2) ∧ decode cX8_uplands 229 = .ok (.iload_n 1, 1) ∧ decode cX8_uplands 230 = .ok (.iadd, 1) ∧ decode cX8_uplands 231 = .ok (.iaload, 1) := by decide +kernel
theorem dX8_uplands_219 : decode cX8_uplands 219 = .ok (.getfield 38, 3) := bdX8_uplands_219.1
theorem dX8_uplands_222 : decode cX8_uplands 222 = .ok (.iload_n 1, 1) := bdX8_uplands_219.2.1
theorem dX8_uplands_223 : decode cX8_uplands 223 = .ok (.aload_n 0, 1) := bdX8_uplands_219.2.2.1
theorem dX8_uplands_224 : decode cX8_uplands 224 = .ok (.getfield 38, 3) := bdX8_uplands_219.2.2.2.1
theorem dX8_uplands_227 : decode cX8_uplands 227 = .ok (.bipush 6, 2) := bdX8_uplands_219.2.2.2.2.1
theorem dX8_uplands_229 : decode cX8_uplands 229 = .ok (.iload_n 1, 1) := bdX8_uplands_219.2.2.2.2.2.1
theorem dX8_uplands_230 : decode cX8_uplands 230 = .ok (.iadd, 1) := bdX8_uplands_219.2.2.2.2.2.2.1
theorem dX8_uplands_231 : decode cX8_uplands 231 = .ok (.iaload, 1) := bdX8_uplands_219.2.2.2.2.2.2.2
theorem bdX8_uplands_232 : decode cX8_uplands 232 = .ok (.iastore, 1) ∧ decode cX8_uplands 233 = .ok (.iinc 1 1, 3) ∧ decode cX8_uplands 236 = .ok (.goto (-24), 3) ∧ decode cX8_uplands 239 = .ok (.iconst 0, 1) ∧ decode cX8_uplands 240 = .ok (.istore_n 1, 1) ∧ decode cX8_uplands 241 = .ok (.iload_n 1, 1) ∧ decode cX8_uplands 242 = .ok (.iconst 4, 1) ∧ decode cX8_uplands 243 = .ok (.if_icmp .ge 23, 3) := by decide +kernel
theorem dX8_uplands_232 : decode cX8_uplands 232 = .ok (.iastore, 1) := bdX8_uplands_232.1
theorem dX8_uplands_233 : decode cX8_uplands 233 = .ok (.iinc 1 1, 3) := bdX8_uplands_232.2.1
theorem dX8_uplands_236 : decode cX8_uplands 236 = .ok (.goto (-24), 3) := bdX8_uplands_232.2.2.1
theorem dX8_uplands_239 : decode cX8_uplands 239 = .ok (.iconst 0, 1) := bdX8_uplands_232.2.2.2.1
theorem dX8_uplands_240 : decode cX8_uplands 240 = .ok (.istore_n 1, 1) := bdX8_uplands_232.2.2.2.2.1
theorem dX8_uplands_241 : decode cX8_uplands 241 = .ok (.iload_n 1, 1) := bdX8_uplands_232.2.2.2.2.2.1
theorem dX8_uplands_242 : decode cX8_uplands 242 = .ok (.iconst 4, 1) := bdX8_uplands_232.2.2.2.2.2.2.1
theorem dX8_uplands_243 : decode cX8_uplands 243 = .ok (.if_icmp .ge 23, 3) := bdX8_uplands_232.2.2.2.2.2.2.2
theorem bdX8_uplands_246 : decode cX8_uplands 246 = .ok (.aload_n 0, 1) ∧ decode cX8_uplands 247 = .ok (.getfield 44, 3) ∧ decode cX8_uplands 250 = .ok (.iconst 2, 1) ∧ decode cX8_uplands 251 = .ok (.iload_n 1, 1) ∧ decode cX8_uplands 252 = .ok (.iadd, 1) ∧ decode cX8_uplands 253 = .ok (.aload_n 0, 1) ∧ decode cX8_uplands 254 = .ok (.getfield 41, 3) ∧ decode cX8_uplands 257 = .ok (.iload_n 1, 1) := by decide +kernel
theorem dX8_uplands_246 : decode cX8_uplands 246 = .ok (.aload_n 0, 1) := bdX8_uplands_246.1
theorem dX8_uplands_247 : decode cX8_uplands 247 = .ok (.getfield 44, 3) := bdX8_uplands_246.2.1
theorem dX8_uplands_250 : decode cX8_uplands 250 = .ok (.iconst 2, 1) := bdX8_uplands_246.2.2.1
theorem dX8_uplands_251 : decode cX8_uplands 251 = .ok (.iload_n 1, 1) := bdX8_uplands_246.2.2.2.1
theorem dX8_uplands_252 : decode cX8_uplands 252 = .ok (.iadd, 1) := bdX8_uplands_246.2.2.2.2.1
theorem dX8_uplands_253 : decode cX8_uplands 253 = .ok (.aload_n 0, 1) := bdX8_uplands_246.2.2.2.2.2.1
theorem dX8_uplands_254 : decode cX8_uplands 254 = .ok (.getfield 41, 3) := bdX8_uplands_246.2.2.2.2.2.2.1
theorem dX8_uplands_257 : decode cX8_uplands 257 = .ok (.iload_n 1, 1) := bdX8_uplands_246.2.2.2.2.2.2.2
theorem bdX8_uplands_258 : decode cX8_uplands 258 = .ok (.iaload, 1) ∧ decode cX8_uplands 259 = .ok (.iastore, 1) ∧ decode cX8_uplands 260 = .ok (.iinc 1 1, 3) ∧ decode cX8_uplands 263 = .ok (.goto (-22), 3) ∧ decode cX8_uplands 266 = .ok (.aload_n 0, 1) ∧ decode cX8_uplands 267 = .ok (.getfield 47, 3) ∧ decode cX8_uplands 270 = .ok (.iconst 0, 1) ∧ decode cX8_uplands 271 = .ok (.iconst 0, 1) := by decide +kernel
theorem dX8_uplands_258 : decode cX8_uplands 258 = .ok (.iaload, 1) := bdX8_uplands_258.1
theorem dX8_uplands_259 : decode cX8_uplands 259 = .ok (.iastore, 1) := bdX8_uplands_258.2.1
theorem dX8_uplands_260 : decode cX8_uplands 260 = .ok (.iinc 1 1, 3) := bdX8_uplands_258.2.2.1
theorem dX8_uplands_263 : decode cX8_uplands 263 = .ok (.goto (-22), 3) := bdX8_uplands_258.2.2.2.1
theorem dX8_uplands_266 : decode cX8_uplands 266 = .ok (.aload_n 0, 1) := bdX8_uplands_258.2.2.2.2.1
theorem dX8_uplands_267 : decode cX8_uplands 267 = .ok (.getfield 47, 3) := bdX8_uplands_258.2.2.2.2.2.1
theorem dX8_uplands_270 : decode cX8_uplands 270 = .ok (.iconst 0, 1) := bdX8_uplands_258.2.2.2.2.2.2.1
theorem dX8_uplands_271 : decode cX8_uplands 271 = .ok (.iconst 0, 1) := bdX8_uplands_258.2.2.2.2.2.2.2
theorem bdX8_uplands_272 : decode cX8_uplands 272 = .ok (.iastore, 1) ∧ decode cX8_uplands 273 = .ok (.aload_n 0, 1) ∧ decode cX8_uplands 274 = .ok (.getfield 56, 3) ∧ decode cX8_uplands 277 = .ok (.iconst 0, 1) ∧ decode cX8_uplands 278 = .ok (.iconst 0, 1) ∧ decode cX8_uplands 279 = .ok (.bastore, 1) ∧ decode cX8_uplands 280 = .ok (.aload_n 0, 1) ∧ decode cX8_uplands 281 = .ok (.getfield 56, 3) := by decide +kernel
theorem dX8_uplands_272 : decode cX8_uplands 272 = .ok (.iastore, 1) := bdX8_uplands_272.1
theorem dX8_uplands_273 : decode cX8_uplands 273 = .ok (.aload_n 0, 1) := bdX8_uplands_272.2.1
theorem dX8_uplands_274 : decode cX8_uplands 274 = .ok (.getfield 56, 3) := bdX8_uplands_272.2.2.1
theorem dX8_uplands_277 : decode cX8_uplands 277 = .ok (.iconst 0, 1) := bdX8_uplands_272.2.2.2.1
theorem dX8_uplands_278 : decode cX8_uplands 278 = .ok (.iconst 0, 1) := bdX8_uplands_272.2.2.2.2.1
theorem dX8_uplands_279 : decode cX8_uplands 279 = .ok (.bastore, 1) := bdX8_uplands_272.2.2.2.2.2.1
theorem dX8_uplands_280 : decode cX8_uplands 280 = .ok (.aload_n 0, 1) := bdX8_uplands_272.2.2.2.2.2.2.1
theorem dX8_uplands_281 : decode cX8_uplands 281 = .ok (.getfield 56, 3) := bdX8_uplands_272.2.2.2.2.2.2.2
theorem bdX8_uplands_284 : decode cX8_uplands 284 = .ok (.iconst 1, 1) ∧ decode cX8_uplands 285 = .ok (.iconst 0, 1) ∧ decode cX8_uplands 286 = .ok (.bastore, 1) ∧ decode cX8_uplands 287 = .ok (.aload_n 0, 1) ∧ decode cX8_uplands 288 = .ok (.iconst 0, 1) ∧ decode cX8_uplands 289 = .ok (.putfield 131, 3) ∧ decode cX8_uplands 292 = .ok (.aload_n 0, 1) ∧ decode cX8_uplands 293 = .ok (.iconst 0, 1) := by decide +kernel
theorem dX8_uplands_284 : decode cX8_uplands 284 = .ok (.iconst 1, 1) := bdX8_uplands_284.1
theorem dX8_uplands_285 : decode cX8_uplands 285 = .ok (.iconst 0, 1) := bdX8_uplands_284.2.1
theorem dX8_uplands_286 : decode cX8_uplands 286 = .ok (.bastore, 1) := bdX8_uplands_284.2.2.1
theorem dX8_uplands_287 : decode cX8_uplands 287 = .ok (.aload_n 0, 1) := bdX8_uplands_284.2.2.2.1
theorem dX8_uplands_288 : decode cX8_uplands 288 = .ok (.iconst 0, 1) := bdX8_uplands_284.2.2.2.2.1
theorem dX8_uplands_289 : decode cX8_uplands 289 = .ok (.putfield 131, 3) := bdX8_uplands_284.2.2.2.2.2.1
theorem dX8_uplands_292 : decode cX8_uplands 292 = .ok (.aload_n 0, 1) := bdX8_uplands_284.2.2.2.2.2.2.1
theorem dX8_uplands_293 : decode cX8_uplands 293 = .ok (.iconst 0, 1) := bdX8_uplands_284.2.2.2.2.2.2.2
theorem bdX8_uplands_294 : decode cX8_uplands 294 = .ok (.putfield 76, 3) ∧ decode cX8_uplands 297 = .ok (.aload_n 0, 1) ∧ decode cX8_uplands 298 = .ok (.getfield 117, 3) ∧ decode cX8_uplands 301 = .ok (.ireturn, 1) := by decide +kernel
theorem dX8_uplands_294 : decode cX8_uplands 294 = .ok (.putfield 76, 3) := bdX8_uplands_294.1
theorem dX8_uplands_297 : decode cX8_uplands 297 = .ok (.aload_n 0, 1) := bdX8_uplands_294.2.1
theorem dX8_uplands_298 : decode cX8_uplands 298 = .ok (.getfield 117, 3) := bdX8_uplands_294.2.2.1
theorem dX8_uplands_301 : decode cX8_uplands 301 = .ok (.ireturn, 1) := bdX8_uplands_294.2.2.2
set_option maxRecDepth 20000 in
set_option maxRecDepth 100000 in
theorem ggX8_isOne_X8_in : GoodIn wsX8_isOne wsX8_in := goodIn_hd (goodIn_c ch_X8_isOne hc_X8_isOne ([.code yX8_in cX8_in 3 (some .boolean)] : List Cond) [(1, 4)] rfl (by decide +kernel)) (goodIn_c ch_X8_isOne hc_X8_isOne ([] : List Cond) [] rfl (by decide +kernel))
set_option maxRecDepth 20000 in
theorem gX8_isOne_X8_in : GoodIn wsX8_isOne (va_wsS RX8 72 yX8_in wsX8_in) := goodIn_app (goodIn_of _ (by decide +kernel)) ggX8_isOne_X8_in
theorem bdX8_isOne_0 : decode cX8_isOne 0 = .ok (.iload_n 1, 1) ∧ decode cX8_isOne 1 = .ok (.iconst 0, 1) ∧ decode cX8_isOne 2 = .ok (.aload_n 0, 1) ∧ decode cX8_isOne 3 = .ok (.getfield 13, 3) ∧ decode cX8_isOne 6 = .ok (.iconst 0, 1) ∧ decode cX8_isOne 7 = .ok (.iaload, 1) ∧ decode cX8_isOne 8 = .ok (.iconst 1, 1) ∧ decode cX8_isOne 9 = .ok (.isub, 1) := by decide +kernel
theorem dX8_isOne_0 : decode cX8_isOne 0 = .ok (.iload_n 1, 1) := bdX8_isOne_0.1
theorem dX8_isOne_1 : decode cX8_isOne 1 = .ok (.iconst 0, 1) := bdX8_isOne_0.2.1
theorem dX8_isOne_2 : decode cX8_isOne 2 = .ok (.aload_n 0, 1) := bdX8_isOne_0.2.2.1
theorem dX8_isOne_3 : decode cX8_isOne 3 = .ok (.getfield 13, 3) := bdX8_isOne_0.2.2.2.1
theorem dX8_isOne_6 : decode cX8_isOne 6 = .ok (.iconst 0, 1) := bdX8_isOne_0.2.2.2.2.1
theorem dX8_isOne_7 : decode cX8_isOne 7 = .ok (.iaload, 1) := bdX8_isOne_0.2.2.2.2.2.1
theorem dX8_isOne_8 : decode cX8_isOne 8 = .ok (.iconst 1, 1) := bdX8_isOne_0.2.2.2.2.2.2.1
theorem dX8_isOne_9 : decode cX8_isOne 9 = .ok (.isub, 1) := bdX8_isOne_0.2.2.2.2.2.2.2
theorem bdX8_isOne_10 : decode cX8_isOne 10 = .ok (.invokestatic 72, 3) ∧ decode cX8_isOne 13 = .ok (.ireturn, 1) := by decide +kernel
theorem dX8_isOne_10 : decode cX8_isOne 10 = .ok (.invokestatic 72, 3) := bdX8_isOne_10.1
theorem dX8_isOne_13 : decode cX8_isOne 13 = .ok (.ireturn, 1) := bdX8_isOne_10.2
set_option maxRecDepth 20000 in
set_option maxRecDepth 100000 in
theorem ggX8_isSaying_X8_in : GoodIn wsX8_isSaying wsX8_in := goodIn_hd (goodIn_c ch_X8_isSaying hc_X8_isSaying ([.code yX8_in cX8_in 3 (some .boolean)] : List Cond) [(1, 4)] rfl (by decide +kernel)) (goodIn_c ch_X8_isSaying hc_X8_isSaying ([] : List Cond) [] rfl (by decide +kernel))
set_option maxRecDepth 20000 in
theorem gX8_isSaying_X8_in : GoodIn wsX8_isSaying (va_wsS RX8 72 yX8_in wsX8_in) := goodIn_app (goodIn_of _ (by decide +kernel)) ggX8_isSaying_X8_in
theorem bdX8_isSaying_0 : decode cX8_isSaying 0 = .ok (.iload_n 1, 1) ∧ decode cX8_isSaying 1 = .ok (.iconst 0, 1) ∧ decode cX8_isSaying 2 = .ok (.aload_n 0, 1) ∧ decode cX8_isSaying 3 = .ok (.getfield 23, 3) ∧ decode cX8_isSaying 6 = .ok (.iconst 0, 1) ∧ decode cX8_isSaying 7 = .ok (.iaload, 1) ∧ decode cX8_isSaying 8 = .ok (.iconst 1, 1) ∧ decode cX8_isSaying 9 = .ok (.isub, 1) := by decide +kernel
theorem dX8_isSaying_0 : decode cX8_isSaying 0 = .ok (.iload_n 1, 1) := bdX8_isSaying_0.1
theorem dX8_isSaying_1 : decode cX8_isSaying 1 = .ok (.iconst 0, 1) := bdX8_isSaying_0.2.1
theorem dX8_isSaying_2 : decode cX8_isSaying 2 = .ok (.aload_n 0, 1) := bdX8_isSaying_0.2.2.1
theorem dX8_isSaying_3 : decode cX8_isSaying 3 = .ok (.getfield 23, 3) := bdX8_isSaying_0.2.2.2.1
theorem dX8_isSaying_6 : decode cX8_isSaying 6 = .ok (.iconst 0, 1) := bdX8_isSaying_0.2.2.2.2.1
theorem dX8_isSaying_7 : decode cX8_isSaying 7 = .ok (.iaload, 1) := bdX8_isSaying_0.2.2.2.2.2.1
theorem dX8_isSaying_8 : decode cX8_isSaying 8 = .ok (.iconst 1, 1) := bdX8_isSaying_0.2.2.2.2.2.2.1
theorem dX8_isSaying_9 : decode cX8_isSaying 9 = .ok (.isub, 1) := bdX8_isSaying_0.2.2.2.2.2.2.2
theorem bdX8_isSaying_10 : decode cX8_isSaying 10 = .ok (.invokestatic 72, 3) ∧ decode cX8_isSaying 13 = .ok (.ireturn, 1) := by decide +kernel
theorem dX8_isSaying_10 : decode cX8_isSaying 10 = .ok (.invokestatic 72, 3) := bdX8_isSaying_10.1
theorem dX8_isSaying_13 : decode cX8_isSaying 13 = .ok (.ireturn, 1) := bdX8_isSaying_10.2
set_option maxRecDepth 20000 in
set_option maxRecDepth 100000 in
theorem ggX8_isShot_X8_in : GoodIn wsX8_isShot wsX8_in := goodIn_hd (goodIn_c ch_X8_isShot hc_X8_isShot ([.code yX8_in cX8_in 3 (some .boolean)] : List Cond) [(1, 3)] rfl (by decide +kernel)) (goodIn_c ch_X8_isShot hc_X8_isShot ([] : List Cond) [] rfl (by decide +kernel))
set_option maxRecDepth 20000 in
theorem gX8_isShot_X8_in : GoodIn wsX8_isShot (va_wsS RX8 72 yX8_in wsX8_in) := goodIn_app (goodIn_of _ (by decide +kernel)) ggX8_isShot_X8_in
theorem bdX8_isShot_0 : decode cX8_isShot 0 = .ok (.iload_n 0, 1) ∧ decode cX8_isShot 1 = .ok (.iconst 0, 1) ∧ decode cX8_isShot 2 = .ok (.iconst 3, 1) ∧ decode cX8_isShot 3 = .ok (.invokestatic 72, 3) ∧ decode cX8_isShot 6 = .ok (.ifCond .eq 25, 3) ∧ decode cX8_isShot 9 = .ok (.iload_n 1, 1) ∧ decode cX8_isShot 10 = .ok (.iconst 0, 1) ∧ decode cX8_isShot 11 = .ok (.iconst 3, 1) := by decide +kernel
theorem dX8_isShot_0 : decode cX8_isShot 0 = .ok (.iload_n 0, 1) := bdX8_isShot_0.1
theorem dX8_isShot_1 : decode cX8_isShot 1 = .ok (.iconst 0, 1) := bdX8_isShot_0.2.1
theorem dX8_isShot_2 : decode cX8_isShot 2 = .ok (.iconst 3, 1) := bdX8_isShot_0.2.2.1
theorem dX8_isShot_3 : decode cX8_isShot 3 = .ok (.invokestatic 72, 3) := bdX8_isShot_0.2.2.2.1
theorem dX8_isShot_6 : decode cX8_isShot 6 = .ok (.ifCond .eq 25, 3) := bdX8_isShot_0.2.2.2.2.1
theorem dX8_isShot_9 : decode cX8_isShot 9 = .ok (.iload_n 1, 1) := bdX8_isShot_0.2.2.2.2.2.1
theorem dX8_isShot_10 : decode cX8_isShot 10 = .ok (.iconst 0, 1) := bdX8_isShot_0.2.2.2.2.2.2.1
theorem dX8_isShot_11 : decode cX8_isShot 11 = .ok (.iconst 3, 1) := bdX8_isShot_0.2.2.2.2.2.2.2
theorem bdX8_isShot_12 : decode cX8_isShot 12 = .ok (.invokestatic 72, 3) ∧ decode cX8_isShot 15 = .ok (.ifCond .eq 16, 3) ∧ decode cX8_isShot 18 = .ok (.iload_n 2, 1) ∧ decode cX8_isShot 19 = .ok (.iconst 0, 1) ∧ decode cX8_isShot 20 = .ok (.iconst 1, 1) ∧ decode cX8_isShot 21 = .ok (.invokestatic 72, 3) ∧ decode cX8_isShot 24 = .ok (.ifCond .eq 7, 3) ∧ decode cX8_isShot 27 = .ok (.iconst 1, 1) := by decide +kernel
theorem dX8_isShot_12 : decode cX8_isShot 12 = .ok (.invokestatic 72, 3) := bdX8_isShot_12.1
theorem dX8_isShot_15 : decode cX8_isShot 15 = .ok (.ifCond .eq 16, 3) := bdX8_isShot_12.2.1
theorem dX8_isShot_18 : decode cX8_isShot 18 = .ok (.iload_n 2, 1) := bdX8_isShot_12.2.2.1
theorem dX8_isShot_19 : decode cX8_isShot 19 = .ok (.iconst 0, 1) := bdX8_isShot_12.2.2.2.1
theorem dX8_isShot_20 : decode cX8_isShot 20 = .ok (.iconst 1, 1) := bdX8_isShot_12.2.2.2.2.1
theorem dX8_isShot_21 : decode cX8_isShot 21 = .ok (.invokestatic 72, 3) := bdX8_isShot_12.2.2.2.2.2.1
theorem dX8_isShot_24 : decode cX8_isShot 24 = .ok (.ifCond .eq 7, 3) := bdX8_isShot_12.2.2.2.2.2.2.1
theorem dX8_isShot_27 : decode cX8_isShot 27 = .ok (.iconst 1, 1) := bdX8_isShot_12.2.2.2.2.2.2.2
theorem bdX8_isShot_28 : decode cX8_isShot 28 = .ok (.goto 4, 3) ∧ decode cX8_isShot 31 = .ok (.iconst 0, 1) ∧ decode cX8_isShot 32 = .ok (.ireturn, 1) := by decide +kernel
theorem dX8_isShot_28 : decode cX8_isShot 28 = .ok (.goto 4, 3) := bdX8_isShot_28.1
theorem dX8_isShot_31 : decode cX8_isShot 31 = .ok (.iconst 0, 1) := bdX8_isShot_28.2.1
theorem dX8_isShot_32 : decode cX8_isShot 32 = .ok (.ireturn, 1) := bdX8_isShot_28.2.2
theorem bdX8_liftOf_0 : decode cX8_liftOf 0 = .ok (.iload_n 0, 1) ∧ decode cX8_liftOf 1 = .ok (.ifCond .ne 7, 3) ∧ decode cX8_liftOf 4 = .ok (.iconst 3, 1) ∧ decode cX8_liftOf 5 = .ok (.goto 23, 3) ∧ decode cX8_liftOf 8 = .ok (.iload_n 0, 1) ∧ decode cX8_liftOf 9 = .ok (.iconst 1, 1) ∧ decode cX8_liftOf 10 = .ok (.if_icmp .ne 8, 3) ∧ decode cX8_liftOf 13 = .ok (.bipush 6, 2) := by decide +kernel
theorem dX8_liftOf_0 : decode cX8_liftOf 0 = .ok (.iload_n 0, 1) := bdX8_liftOf_0.1
theorem dX8_liftOf_1 : decode cX8_liftOf 1 = .ok (.ifCond .ne 7, 3) := bdX8_liftOf_0.2.1
theorem dX8_liftOf_4 : decode cX8_liftOf 4 = .ok (.iconst 3, 1) := bdX8_liftOf_0.2.2.1
theorem dX8_liftOf_5 : decode cX8_liftOf 5 = .ok (.goto 23, 3) := bdX8_liftOf_0.2.2.2.1
theorem dX8_liftOf_8 : decode cX8_liftOf 8 = .ok (.iload_n 0, 1) := bdX8_liftOf_0.2.2.2.2.1
theorem dX8_liftOf_9 : decode cX8_liftOf 9 = .ok (.iconst 1, 1) := bdX8_liftOf_0.2.2.2.2.2.1
theorem dX8_liftOf_10 : decode cX8_liftOf 10 = .ok (.if_icmp .ne 8, 3) := bdX8_liftOf_0.2.2.2.2.2.2.1
theorem dX8_liftOf_13 : decode cX8_liftOf 13 = .ok (.bipush 6, 2) := bdX8_liftOf_0.2.2.2.2.2.2.2
theorem bdX8_liftOf_15 : decode cX8_liftOf 15 = .ok (.goto 13, 3) ∧ decode cX8_liftOf 18 = .ok (.iload_n 0, 1) ∧ decode cX8_liftOf 19 = .ok (.iconst 2, 1) ∧ decode cX8_liftOf 20 = .ok (.if_icmp .ne 7, 3) ∧ decode cX8_liftOf 23 = .ok (.iconst 4, 1) ∧ decode cX8_liftOf 24 = .ok (.goto 4, 3) ∧ decode cX8_liftOf 27 = .ok (.iconst 2, 1) ∧ decode cX8_liftOf 28 = .ok (.ireturn, 1) := by decide +kernel
theorem dX8_liftOf_15 : decode cX8_liftOf 15 = .ok (.goto 13, 3) := bdX8_liftOf_15.1
theorem dX8_liftOf_18 : decode cX8_liftOf 18 = .ok (.iload_n 0, 1) := bdX8_liftOf_15.2.1
theorem dX8_liftOf_19 : decode cX8_liftOf 19 = .ok (.iconst 2, 1) := bdX8_liftOf_15.2.2.1
theorem dX8_liftOf_20 : decode cX8_liftOf 20 = .ok (.if_icmp .ne 7, 3) := bdX8_liftOf_15.2.2.2.1
theorem dX8_liftOf_23 : decode cX8_liftOf 23 = .ok (.iconst 4, 1) := bdX8_liftOf_15.2.2.2.2.1
theorem dX8_liftOf_24 : decode cX8_liftOf 24 = .ok (.goto 4, 3) := bdX8_liftOf_15.2.2.2.2.2.1
theorem dX8_liftOf_27 : decode cX8_liftOf 27 = .ok (.iconst 2, 1) := bdX8_liftOf_15.2.2.2.2.2.2.1
theorem dX8_liftOf_28 : decode cX8_liftOf 28 = .ok (.ireturn, 1) := bdX8_liftOf_15.2.2.2.2.2.2.2
set_option maxRecDepth 20000 in
set_option maxRecDepth 100000 in
theorem ggX8_landsBy_X8_liftOf : GoodIn wsX8_landsBy wsX8_liftOf := goodIn_hd (goodIn_c ch_X8_landsBy hc_X8_landsBy ([.code yX8_liftOf cX8_liftOf 1 (some .int)] : List Cond) [(1, 7)] rfl (by decide +kernel)) (goodIn_c ch_X8_landsBy hc_X8_landsBy ([] : List Cond) [] rfl (by decide +kernel))
set_option maxRecDepth 20000 in
theorem gX8_landsBy_X8_liftOf : GoodIn wsX8_landsBy (va_wsS RX8 134 yX8_liftOf wsX8_liftOf) := goodIn_app (goodIn_of _ (by decide +kernel)) ggX8_landsBy_X8_liftOf
set_option maxRecDepth 20000 in
set_option maxRecDepth 100000 in
theorem ggX8_landsBy_X8_in : GoodIn wsX8_landsBy wsX8_in := goodIn_hd (goodIn_c ch_X8_landsBy hc_X8_landsBy ([.code yX8_in cX8_in 3 (some .boolean)] : List Cond) [(1, 10)] rfl (by decide +kernel)) (goodIn_c ch_X8_landsBy hc_X8_landsBy ([] : List Cond) [] rfl (by decide +kernel))
set_option maxRecDepth 20000 in
theorem gX8_landsBy_X8_in : GoodIn wsX8_landsBy (va_wsS RX8 72 yX8_in wsX8_in) := goodIn_app (goodIn_of _ (by decide +kernel)) ggX8_landsBy_X8_in
theorem bdX8_landsBy_0 : decode cX8_landsBy 0 = .ok (.iload 4, 2) ∧ decode cX8_landsBy 2 = .ok (.iload_n 3, 1) ∧ decode cX8_landsBy 3 = .ok (.invokestatic 134, 3) ∧ decode cX8_landsBy 6 = .ok (.imul, 1) ∧ decode cX8_landsBy 7 = .ok (.aload_n 0, 1) ∧ decode cX8_landsBy 8 = .ok (.getfield 29, 3) ∧ decode cX8_landsBy 11 = .ok (.iload_n 2, 1) ∧ decode cX8_landsBy 12 = .ok (.iaload, 1) := by decide +kernel
theorem dX8_landsBy_0 : decode cX8_landsBy 0 = .ok (.iload 4, 2) := bdX8_landsBy_0.1
theorem dX8_landsBy_2 : decode cX8_landsBy 2 = .ok (.iload_n 3, 1) := bdX8_landsBy_0.2.1
theorem dX8_landsBy_3 : decode cX8_landsBy 3 = .ok (.invokestatic 134, 3) := bdX8_landsBy_0.2.2.1
theorem dX8_landsBy_6 : decode cX8_landsBy 6 = .ok (.imul, 1) := bdX8_landsBy_0.2.2.2.1
theorem dX8_landsBy_7 : decode cX8_landsBy 7 = .ok (.aload_n 0, 1) := bdX8_landsBy_0.2.2.2.2.1
theorem dX8_landsBy_8 : decode cX8_landsBy 8 = .ok (.getfield 29, 3) := bdX8_landsBy_0.2.2.2.2.2.1
theorem dX8_landsBy_11 : decode cX8_landsBy 11 = .ok (.iload_n 2, 1) := bdX8_landsBy_0.2.2.2.2.2.2.1
theorem dX8_landsBy_12 : decode cX8_landsBy 12 = .ok (.iaload, 1) := bdX8_landsBy_0.2.2.2.2.2.2.2
theorem bdX8_landsBy_13 : decode cX8_landsBy 13 = .ok (.iadd, 1) ∧ decode cX8_landsBy 14 = .ok (.aload_n 0, 1) ∧ decode cX8_landsBy 15 = .ok (.getfield 26, 3) ∧ decode cX8_landsBy 18 = .ok (.iload_n 2, 1) ∧ decode cX8_landsBy 19 = .ok (.iaload, 1) ∧ decode cX8_landsBy 20 = .ok (.isub, 1) ∧ decode cX8_landsBy 21 = .ok (.iload_n 3, 1) ∧ decode cX8_landsBy 22 = .ok (.iconst 2, 1) := by decide +kernel
theorem dX8_landsBy_13 : decode cX8_landsBy 13 = .ok (.iadd, 1) := bdX8_landsBy_13.1
theorem dX8_landsBy_14 : decode cX8_landsBy 14 = .ok (.aload_n 0, 1) := bdX8_landsBy_13.2.1
theorem dX8_landsBy_15 : decode cX8_landsBy 15 = .ok (.getfield 26, 3) := bdX8_landsBy_13.2.2.1
theorem dX8_landsBy_18 : decode cX8_landsBy 18 = .ok (.iload_n 2, 1) := bdX8_landsBy_13.2.2.2.1
theorem dX8_landsBy_19 : decode cX8_landsBy 19 = .ok (.iaload, 1) := bdX8_landsBy_13.2.2.2.2.1
theorem dX8_landsBy_20 : decode cX8_landsBy 20 = .ok (.isub, 1) := bdX8_landsBy_13.2.2.2.2.2.1
theorem dX8_landsBy_21 : decode cX8_landsBy 21 = .ok (.iload_n 3, 1) := bdX8_landsBy_13.2.2.2.2.2.2.1
theorem dX8_landsBy_22 : decode cX8_landsBy 22 = .ok (.iconst 2, 1) := bdX8_landsBy_13.2.2.2.2.2.2.2
theorem bdX8_landsBy_23 : decode cX8_landsBy 23 = .ok (.if_icmp .ne 7, 3) ∧ decode cX8_landsBy 26 = .ok (.iconst 0, 1) ∧ decode cX8_landsBy 27 = .ok (.goto 9, 3) ∧ decode cX8_landsBy 30 = .ok (.aload_n 0, 1) ∧ decode cX8_landsBy 31 = .ok (.getfield 44, 3) ∧ decode cX8_landsBy 34 = .ok (.iconst 1, 1) ∧ decode cX8_landsBy 35 = .ok (.iaload, 1) ∧ decode cX8_landsBy 36 = .ok (.isub, 1) := by decide +kernel
theorem dX8_landsBy_23 : decode cX8_landsBy 23 = .ok (.if_icmp .ne 7, 3) := bdX8_landsBy_23.1
theorem dX8_landsBy_26 : decode cX8_landsBy 26 = .ok (.iconst 0, 1) := bdX8_landsBy_23.2.1
theorem dX8_landsBy_27 : decode cX8_landsBy 27 = .ok (.goto 9, 3) := bdX8_landsBy_23.2.2.1
theorem dX8_landsBy_30 : decode cX8_landsBy 30 = .ok (.aload_n 0, 1) := bdX8_landsBy_23.2.2.2.1
theorem dX8_landsBy_31 : decode cX8_landsBy 31 = .ok (.getfield 44, 3) := bdX8_landsBy_23.2.2.2.2.1
theorem dX8_landsBy_34 : decode cX8_landsBy 34 = .ok (.iconst 1, 1) := bdX8_landsBy_23.2.2.2.2.2.1
theorem dX8_landsBy_35 : decode cX8_landsBy 35 = .ok (.iaload, 1) := bdX8_landsBy_23.2.2.2.2.2.2.1
theorem dX8_landsBy_36 : decode cX8_landsBy 36 = .ok (.isub, 1) := bdX8_landsBy_23.2.2.2.2.2.2.2
theorem bdX8_landsBy_37 : decode cX8_landsBy 37 = .ok (.istore 7, 2) ∧ decode cX8_landsBy 39 = .ok (.iload 4, 2) ∧ decode cX8_landsBy 41 = .ok (.ifCond .ne 12, 3) ∧ decode cX8_landsBy 44 = .ok (.aload_n 0, 1) ∧ decode cX8_landsBy 45 = .ok (.getfield 29, 3) ∧ decode cX8_landsBy 48 = .ok (.iload_n 2, 1) ∧ decode cX8_landsBy 49 = .ok (.iaload, 1) ∧ decode cX8_landsBy 50 = .ok (.goto 14, 3) := by decide +kernel
theorem dX8_landsBy_37 : decode cX8_landsBy 37 = .ok (.istore 7, 2) := bdX8_landsBy_37.1
theorem dX8_landsBy_39 : decode cX8_landsBy 39 = .ok (.iload 4, 2) := bdX8_landsBy_37.2.1
theorem dX8_landsBy_41 : decode cX8_landsBy 41 = .ok (.ifCond .ne 12, 3) := bdX8_landsBy_37.2.2.1
theorem dX8_landsBy_44 : decode cX8_landsBy 44 = .ok (.aload_n 0, 1) := bdX8_landsBy_37.2.2.2.1
theorem dX8_landsBy_45 : decode cX8_landsBy 45 = .ok (.getfield 29, 3) := bdX8_landsBy_37.2.2.2.2.1
theorem dX8_landsBy_48 : decode cX8_landsBy 48 = .ok (.iload_n 2, 1) := bdX8_landsBy_37.2.2.2.2.2.1
theorem dX8_landsBy_49 : decode cX8_landsBy 49 = .ok (.iaload, 1) := bdX8_landsBy_37.2.2.2.2.2.2.1
theorem dX8_landsBy_50 : decode cX8_landsBy 50 = .ok (.goto 14, 3) := bdX8_landsBy_37.2.2.2.2.2.2.2
theorem bdX8_landsBy_53 : decode cX8_landsBy 53 = .ok (.iload 7, 2) ∧ decode cX8_landsBy 55 = .ok (.ifCond .ge 7, 3) ∧ decode cX8_landsBy 58 = .ok (.iconst 0, 1) ∧ decode cX8_landsBy 59 = .ok (.goto 5, 3) ∧ decode cX8_landsBy 62 = .ok (.iload 7, 2) ∧ decode cX8_landsBy 64 = .ok (.istore 7, 2) ∧ decode cX8_landsBy 66 = .ok (.iload 4, 2) ∧ decode cX8_landsBy 68 = .ok (.ifCond .ne 16, 3) := by decide +kernel
theorem dX8_landsBy_53 : decode cX8_landsBy 53 = .ok (.iload 7, 2) := bdX8_landsBy_53.1
theorem dX8_landsBy_55 : decode cX8_landsBy 55 = .ok (.ifCond .ge 7, 3) := bdX8_landsBy_53.2.1
theorem dX8_landsBy_58 : decode cX8_landsBy 58 = .ok (.iconst 0, 1) := bdX8_landsBy_53.2.2.1
theorem dX8_landsBy_59 : decode cX8_landsBy 59 = .ok (.goto 5, 3) := bdX8_landsBy_53.2.2.2.1
theorem dX8_landsBy_62 : decode cX8_landsBy 62 = .ok (.iload 7, 2) := bdX8_landsBy_53.2.2.2.2.1
theorem dX8_landsBy_64 : decode cX8_landsBy 64 = .ok (.istore 7, 2) := bdX8_landsBy_53.2.2.2.2.2.1
theorem dX8_landsBy_66 : decode cX8_landsBy 66 = .ok (.iload 4, 2) := bdX8_landsBy_53.2.2.2.2.2.2.1
theorem dX8_landsBy_68 : decode cX8_landsBy 68 = .ok (.ifCond .ne 16, 3) := bdX8_landsBy_53.2.2.2.2.2.2.2
theorem bdX8_landsBy_71 : decode cX8_landsBy 71 = .ok (.iload 5, 2) ∧ decode cX8_landsBy 73 = .ok (.ifCond .ne 7, 3) ∧ decode cX8_landsBy 76 = .ok (.iconst 1, 1) ∧ decode cX8_landsBy 77 = .ok (.goto 18, 3) ∧ decode cX8_landsBy 80 = .ok (.iconst 0, 1) ∧ decode cX8_landsBy 81 = .ok (.goto 14, 3) ∧ decode cX8_landsBy 84 = .ok (.iload 5, 2) ∧ decode cX8_landsBy 86 = .ok (.iconst 1, 1) := by decide +kernel
theorem dX8_landsBy_71 : decode cX8_landsBy 71 = .ok (.iload 5, 2) := bdX8_landsBy_71.1
theorem dX8_landsBy_73 : decode cX8_landsBy 73 = .ok (.ifCond .ne 7, 3) := bdX8_landsBy_71.2.1
theorem dX8_landsBy_76 : decode cX8_landsBy 76 = .ok (.iconst 1, 1) := bdX8_landsBy_71.2.2.1
theorem dX8_landsBy_77 : decode cX8_landsBy 77 = .ok (.goto 18, 3) := bdX8_landsBy_71.2.2.2.1
theorem dX8_landsBy_80 : decode cX8_landsBy 80 = .ok (.iconst 0, 1) := bdX8_landsBy_71.2.2.2.2.1
theorem dX8_landsBy_81 : decode cX8_landsBy 81 = .ok (.goto 14, 3) := bdX8_landsBy_71.2.2.2.2.2.1
theorem dX8_landsBy_84 : decode cX8_landsBy 84 = .ok (.iload 5, 2) := bdX8_landsBy_71.2.2.2.2.2.2.1
theorem dX8_landsBy_86 : decode cX8_landsBy 86 = .ok (.iconst 1, 1) := bdX8_landsBy_71.2.2.2.2.2.2.2
theorem bdX8_landsBy_87 : decode cX8_landsBy 87 = .ok (.if_icmp .ne 7, 3) ∧ decode cX8_landsBy 90 = .ok (.iconst 1, 1) ∧ decode cX8_landsBy 91 = .ok (.goto 4, 3) ∧ decode cX8_landsBy 94 = .ok (.iconst 0, 1) ∧ decode cX8_landsBy 95 = .ok (.istore 8, 2) ∧ decode cX8_landsBy 97 = .ok (.iload 7, 2) ∧ decode cX8_landsBy 99 = .ok (.ifCond .le 17, 3) ∧ decode cX8_landsBy 102 = .ok (.iload 4, 2) := by decide +kernel
theorem dX8_landsBy_87 : decode cX8_landsBy 87 = .ok (.if_icmp .ne 7, 3) := bdX8_landsBy_87.1
theorem dX8_landsBy_90 : decode cX8_landsBy 90 = .ok (.iconst 1, 1) := bdX8_landsBy_87.2.1
theorem dX8_landsBy_91 : decode cX8_landsBy 91 = .ok (.goto 4, 3) := bdX8_landsBy_87.2.2.1
theorem dX8_landsBy_94 : decode cX8_landsBy 94 = .ok (.iconst 0, 1) := bdX8_landsBy_87.2.2.2.1
theorem dX8_landsBy_95 : decode cX8_landsBy 95 = .ok (.istore 8, 2) := bdX8_landsBy_87.2.2.2.2.1
theorem dX8_landsBy_97 : decode cX8_landsBy 97 = .ok (.iload 7, 2) := bdX8_landsBy_87.2.2.2.2.2.1
theorem dX8_landsBy_99 : decode cX8_landsBy 99 = .ok (.ifCond .le 17, 3) := bdX8_landsBy_87.2.2.2.2.2.2.1
theorem dX8_landsBy_102 : decode cX8_landsBy 102 = .ok (.iload 4, 2) := bdX8_landsBy_87.2.2.2.2.2.2.2
theorem bdX8_landsBy_104 : decode cX8_landsBy 104 = .ok (.ifCond .eq 8, 3) ∧ decode cX8_landsBy 107 = .ok (.iload_n 3, 1) ∧ decode cX8_landsBy 108 = .ok (.iconst 3, 1) ∧ decode cX8_landsBy 109 = .ok (.if_icmp .eq 7, 3) ∧ decode cX8_landsBy 112 = .ok (.iconst 1, 1) ∧ decode cX8_landsBy 113 = .ok (.goto 4, 3) ∧ decode cX8_landsBy 116 = .ok (.iconst 0, 1) ∧ decode cX8_landsBy 117 = .ok (.istore 9, 2) := by decide +kernel
theorem dX8_landsBy_104 : decode cX8_landsBy 104 = .ok (.ifCond .eq 8, 3) := bdX8_landsBy_104.1
theorem dX8_landsBy_107 : decode cX8_landsBy 107 = .ok (.iload_n 3, 1) := bdX8_landsBy_104.2.1
theorem dX8_landsBy_108 : decode cX8_landsBy 108 = .ok (.iconst 3, 1) := bdX8_landsBy_104.2.2.1
theorem dX8_landsBy_109 : decode cX8_landsBy 109 = .ok (.if_icmp .eq 7, 3) := bdX8_landsBy_104.2.2.2.1
theorem dX8_landsBy_112 : decode cX8_landsBy 112 = .ok (.iconst 1, 1) := bdX8_landsBy_104.2.2.2.2.1
theorem dX8_landsBy_113 : decode cX8_landsBy 113 = .ok (.goto 4, 3) := bdX8_landsBy_104.2.2.2.2.2.1
theorem dX8_landsBy_116 : decode cX8_landsBy 116 = .ok (.iconst 0, 1) := bdX8_landsBy_104.2.2.2.2.2.2.1
theorem dX8_landsBy_117 : decode cX8_landsBy 117 = .ok (.istore 9, 2) := bdX8_landsBy_104.2.2.2.2.2.2.2
theorem bdX8_landsBy_119 : decode cX8_landsBy 119 = .ok (.aload_n 0, 1) ∧ decode cX8_landsBy 120 = .ok (.getfield 17, 3) ∧ decode cX8_landsBy 123 = .ok (.iload_n 1, 1) ∧ decode cX8_landsBy 124 = .ok (.iaload, 1) ∧ decode cX8_landsBy 125 = .ok (.iload 8, 2) ∧ decode cX8_landsBy 127 = .ok (.ifCond .eq 8, 3) ∧ decode cX8_landsBy 130 = .ok (.iload 7, 2) ∧ decode cX8_landsBy 132 = .ok (.goto 6, 3) := by decide +kernel
theorem dX8_landsBy_119 : decode cX8_landsBy 119 = .ok (.aload_n 0, 1) := bdX8_landsBy_119.1
theorem dX8_landsBy_120 : decode cX8_landsBy 120 = .ok (.getfield 17, 3) := bdX8_landsBy_119.2.1
theorem dX8_landsBy_123 : decode cX8_landsBy 123 = .ok (.iload_n 1, 1) := bdX8_landsBy_119.2.2.1
theorem dX8_landsBy_124 : decode cX8_landsBy 124 = .ok (.iaload, 1) := bdX8_landsBy_119.2.2.2.1
theorem dX8_landsBy_125 : decode cX8_landsBy 125 = .ok (.iload 8, 2) := bdX8_landsBy_119.2.2.2.2.1
theorem dX8_landsBy_127 : decode cX8_landsBy 127 = .ok (.ifCond .eq 8, 3) := bdX8_landsBy_119.2.2.2.2.2.1
theorem dX8_landsBy_130 : decode cX8_landsBy 130 = .ok (.iload 7, 2) := bdX8_landsBy_119.2.2.2.2.2.2.1
theorem dX8_landsBy_132 : decode cX8_landsBy 132 = .ok (.goto 6, 3) := bdX8_landsBy_119.2.2.2.2.2.2.2
theorem bdX8_landsBy_135 : decode cX8_landsBy 135 = .ok (.iload 7, 2) ∧ decode cX8_landsBy 137 = .ok (.ineg, 1) ∧ decode cX8_landsBy 138 = .ok (.iadd, 1) ∧ decode cX8_landsBy 139 = .ok (.iload 9, 2) ∧ decode cX8_landsBy 141 = .ok (.ifCond .eq 8, 3) ∧ decode cX8_landsBy 144 = .ok (.iload 6, 2) ∧ decode cX8_landsBy 146 = .ok (.goto 4, 3) ∧ decode cX8_landsBy 149 = .ok (.iconst 0, 1) := by decide +kernel
theorem dX8_landsBy_135 : decode cX8_landsBy 135 = .ok (.iload 7, 2) := bdX8_landsBy_135.1
theorem dX8_landsBy_137 : decode cX8_landsBy 137 = .ok (.ineg, 1) := bdX8_landsBy_135.2.1
theorem dX8_landsBy_138 : decode cX8_landsBy 138 = .ok (.iadd, 1) := bdX8_landsBy_135.2.2.1
theorem dX8_landsBy_139 : decode cX8_landsBy 139 = .ok (.iload 9, 2) := bdX8_landsBy_135.2.2.2.1
theorem dX8_landsBy_141 : decode cX8_landsBy 141 = .ok (.ifCond .eq 8, 3) := bdX8_landsBy_135.2.2.2.2.1
theorem dX8_landsBy_144 : decode cX8_landsBy 144 = .ok (.iload 6, 2) := bdX8_landsBy_135.2.2.2.2.2.1
theorem dX8_landsBy_146 : decode cX8_landsBy 146 = .ok (.goto 4, 3) := bdX8_landsBy_135.2.2.2.2.2.2.1
theorem dX8_landsBy_149 : decode cX8_landsBy 149 = .ok (.iconst 0, 1) := bdX8_landsBy_135.2.2.2.2.2.2.2
theorem bdX8_landsBy_150 : decode cX8_landsBy 150 = .ok (.iadd, 1) ∧ decode cX8_landsBy 151 = .ok (.istore 10, 2) ∧ decode cX8_landsBy 153 = .ok (.iload 10, 2) ∧ decode cX8_landsBy 155 = .ok (.iconst 0, 1) ∧ decode cX8_landsBy 156 = .ok (.bipush 30, 2) ∧ decode cX8_landsBy 158 = .ok (.invokestatic 72, 3) ∧ decode cX8_landsBy 161 = .ok (.ifCond .eq 8, 3) ∧ decode cX8_landsBy 164 = .ok (.iload 10, 2) := by decide +kernel
theorem dX8_landsBy_150 : decode cX8_landsBy 150 = .ok (.iadd, 1) := bdX8_landsBy_150.1
theorem dX8_landsBy_151 : decode cX8_landsBy 151 = .ok (.istore 10, 2) := bdX8_landsBy_150.2.1
theorem dX8_landsBy_153 : decode cX8_landsBy 153 = .ok (.iload 10, 2) := bdX8_landsBy_150.2.2.1
theorem dX8_landsBy_155 : decode cX8_landsBy 155 = .ok (.iconst 0, 1) := bdX8_landsBy_150.2.2.2.1
theorem dX8_landsBy_156 : decode cX8_landsBy 156 = .ok (.bipush 30, 2) := bdX8_landsBy_150.2.2.2.2.1
theorem dX8_landsBy_158 : decode cX8_landsBy 158 = .ok (.invokestatic 72, 3) := bdX8_landsBy_150.2.2.2.2.2.1
theorem dX8_landsBy_161 : decode cX8_landsBy 161 = .ok (.ifCond .eq 8, 3) := bdX8_landsBy_150.2.2.2.2.2.2.1
theorem dX8_landsBy_164 : decode cX8_landsBy 164 = .ok (.iload 10, 2) := bdX8_landsBy_150.2.2.2.2.2.2.2
theorem bdX8_landsBy_166 : decode cX8_landsBy 166 = .ok (.goto 5, 3) ∧ decode cX8_landsBy 169 = .ok (.bipush (-9), 2) ∧ decode cX8_landsBy 171 = .ok (.ireturn, 1) := by decide +kernel
theorem dX8_landsBy_166 : decode cX8_landsBy 166 = .ok (.goto 5, 3) := bdX8_landsBy_166.1
theorem dX8_landsBy_169 : decode cX8_landsBy 169 = .ok (.bipush (-9), 2) := bdX8_landsBy_166.2.1
theorem dX8_landsBy_171 : decode cX8_landsBy 171 = .ok (.ireturn, 1) := bdX8_landsBy_166.2.2
theorem bdX8_windIn_0 : decode cX8_windIn 0 = .ok (.aload_n 0, 1) ∧ decode cX8_windIn 1 = .ok (.getfield 38, 3) ∧ decode cX8_windIn 4 = .ok (.aload_n 0, 1) ∧ decode cX8_windIn 5 = .ok (.getfield 44, 3) ∧ decode cX8_windIn 8 = .ok (.iconst 0, 1) ∧ decode cX8_windIn 9 = .ok (.iaload, 1) ∧ decode cX8_windIn 10 = .ok (.iload_n 1, 1) ∧ decode cX8_windIn 11 = .ok (.iadd, 1) := by decide +kernel
theorem dX8_windIn_0 : decode cX8_windIn 0 = .ok (.aload_n 0, 1) := bdX8_windIn_0.1
theorem dX8_windIn_1 : decode cX8_windIn 1 = .ok (.getfield 38, 3) := bdX8_windIn_0.2.1
theorem dX8_windIn_4 : decode cX8_windIn 4 = .ok (.aload_n 0, 1) := bdX8_windIn_0.2.2.1
theorem dX8_windIn_5 : decode cX8_windIn 5 = .ok (.getfield 44, 3) := bdX8_windIn_0.2.2.2.1
theorem dX8_windIn_8 : decode cX8_windIn 8 = .ok (.iconst 0, 1) := bdX8_windIn_0.2.2.2.2.1
theorem dX8_windIn_9 : decode cX8_windIn 9 = .ok (.iaload, 1) := bdX8_windIn_0.2.2.2.2.2.1
theorem dX8_windIn_10 : decode cX8_windIn 10 = .ok (.iload_n 1, 1) := bdX8_windIn_0.2.2.2.2.2.2.1
theorem dX8_windIn_11 : decode cX8_windIn 11 = .ok (.iadd, 1) := bdX8_windIn_0.2.2.2.2.2.2.2
theorem bdX8_windIn_12 : decode cX8_windIn 12 = .ok (.aload_n 0, 1) ∧ decode cX8_windIn 13 = .ok (.getfield 35, 3) ∧ decode cX8_windIn 16 = .ok (.iconst 0, 1) ∧ decode cX8_windIn 17 = .ok (.iaload, 1) ∧ decode cX8_windIn 18 = .ok (.irem, 1) ∧ decode cX8_windIn 19 = .ok (.iaload, 1) ∧ decode cX8_windIn 20 = .ok (.ireturn, 1) := by decide +kernel
theorem dX8_windIn_12 : decode cX8_windIn 12 = .ok (.aload_n 0, 1) := bdX8_windIn_12.1
theorem dX8_windIn_13 : decode cX8_windIn 13 = .ok (.getfield 35, 3) := bdX8_windIn_12.2.1
theorem dX8_windIn_16 : decode cX8_windIn 16 = .ok (.iconst 0, 1) := bdX8_windIn_12.2.2.1
theorem dX8_windIn_17 : decode cX8_windIn 17 = .ok (.iaload, 1) := bdX8_windIn_12.2.2.2.1
theorem dX8_windIn_18 : decode cX8_windIn 18 = .ok (.irem, 1) := bdX8_windIn_12.2.2.2.2.1
theorem dX8_windIn_19 : decode cX8_windIn 19 = .ok (.iaload, 1) := bdX8_windIn_12.2.2.2.2.2.1
theorem dX8_windIn_20 : decode cX8_windIn 20 = .ok (.ireturn, 1) := bdX8_windIn_12.2.2.2.2.2.2
theorem bdX8_doesHear_0 : decode cX8_doesHear 0 = .ok (.aload_n 0, 1) ∧ decode cX8_doesHear 1 = .ok (.getfield 17, 3) ∧ decode cX8_doesHear 4 = .ok (.iload_n 1, 1) ∧ decode cX8_doesHear 5 = .ok (.iaload, 1) ∧ decode cX8_doesHear 6 = .ok (.iload_n 2, 1) ∧ decode cX8_doesHear 7 = .ok (.if_icmp .le 14, 3) ∧ decode cX8_doesHear 10 = .ok (.aload_n 0, 1) ∧ decode cX8_doesHear 11 = .ok (.getfield 17, 3) := by decide +kernel
theorem dX8_doesHear_0 : decode cX8_doesHear 0 = .ok (.aload_n 0, 1) := bdX8_doesHear_0.1
theorem dX8_doesHear_1 : decode cX8_doesHear 1 = .ok (.getfield 17, 3) := bdX8_doesHear_0.2.1
theorem dX8_doesHear_4 : decode cX8_doesHear 4 = .ok (.iload_n 1, 1) := bdX8_doesHear_0.2.2.1
theorem dX8_doesHear_5 : decode cX8_doesHear 5 = .ok (.iaload, 1) := bdX8_doesHear_0.2.2.2.1
theorem dX8_doesHear_6 : decode cX8_doesHear 6 = .ok (.iload_n 2, 1) := bdX8_doesHear_0.2.2.2.2.1
theorem dX8_doesHear_7 : decode cX8_doesHear 7 = .ok (.if_icmp .le 14, 3) := bdX8_doesHear_0.2.2.2.2.2.1
theorem dX8_doesHear_10 : decode cX8_doesHear 10 = .ok (.aload_n 0, 1) := bdX8_doesHear_0.2.2.2.2.2.2.1
theorem dX8_doesHear_11 : decode cX8_doesHear 11 = .ok (.getfield 17, 3) := bdX8_doesHear_0.2.2.2.2.2.2.2
theorem bdX8_doesHear_14 : decode cX8_doesHear 14 = .ok (.iload_n 1, 1) ∧ decode cX8_doesHear 15 = .ok (.iaload, 1) ∧ decode cX8_doesHear 16 = .ok (.iload_n 2, 1) ∧ decode cX8_doesHear 17 = .ok (.isub, 1) ∧ decode cX8_doesHear 18 = .ok (.goto 11, 3) ∧ decode cX8_doesHear 21 = .ok (.iload_n 2, 1) ∧ decode cX8_doesHear 22 = .ok (.aload_n 0, 1) ∧ decode cX8_doesHear 23 = .ok (.getfield 17, 3) := by decide +kernel
theorem dX8_doesHear_14 : decode cX8_doesHear 14 = .ok (.iload_n 1, 1) := bdX8_doesHear_14.1
theorem dX8_doesHear_15 : decode cX8_doesHear 15 = .ok (.iaload, 1) := bdX8_doesHear_14.2.1
theorem dX8_doesHear_16 : decode cX8_doesHear 16 = .ok (.iload_n 2, 1) := bdX8_doesHear_14.2.2.1
theorem dX8_doesHear_17 : decode cX8_doesHear 17 = .ok (.isub, 1) := bdX8_doesHear_14.2.2.2.1
theorem dX8_doesHear_18 : decode cX8_doesHear 18 = .ok (.goto 11, 3) := bdX8_doesHear_14.2.2.2.2.1
theorem dX8_doesHear_21 : decode cX8_doesHear 21 = .ok (.iload_n 2, 1) := bdX8_doesHear_14.2.2.2.2.2.1
theorem dX8_doesHear_22 : decode cX8_doesHear 22 = .ok (.aload_n 0, 1) := bdX8_doesHear_14.2.2.2.2.2.2.1
theorem dX8_doesHear_23 : decode cX8_doesHear 23 = .ok (.getfield 17, 3) := bdX8_doesHear_14.2.2.2.2.2.2.2
theorem bdX8_doesHear_26 : decode cX8_doesHear 26 = .ok (.iload_n 1, 1) ∧ decode cX8_doesHear 27 = .ok (.iaload, 1) ∧ decode cX8_doesHear 28 = .ok (.isub, 1) ∧ decode cX8_doesHear 29 = .ok (.istore_n 3, 1) ∧ decode cX8_doesHear 30 = .ok (.iload_n 2, 1) ∧ decode cX8_doesHear 31 = .ok (.bipush (-9), 2) ∧ decode cX8_doesHear 33 = .ok (.if_icmp .eq 17, 3) ∧ decode cX8_doesHear 36 = .ok (.iload_n 3, 1) := by decide +kernel
theorem dX8_doesHear_26 : decode cX8_doesHear 26 = .ok (.iload_n 1, 1) := bdX8_doesHear_26.1
theorem dX8_doesHear_27 : decode cX8_doesHear 27 = .ok (.iaload, 1) := bdX8_doesHear_26.2.1
theorem dX8_doesHear_28 : decode cX8_doesHear 28 = .ok (.isub, 1) := bdX8_doesHear_26.2.2.1
theorem dX8_doesHear_29 : decode cX8_doesHear 29 = .ok (.istore_n 3, 1) := bdX8_doesHear_26.2.2.2.1
theorem dX8_doesHear_30 : decode cX8_doesHear 30 = .ok (.iload_n 2, 1) := bdX8_doesHear_26.2.2.2.2.1
theorem dX8_doesHear_31 : decode cX8_doesHear 31 = .ok (.bipush (-9), 2) := bdX8_doesHear_26.2.2.2.2.2.1
theorem dX8_doesHear_33 : decode cX8_doesHear 33 = .ok (.if_icmp .eq 17, 3) := bdX8_doesHear_26.2.2.2.2.2.2.1
theorem dX8_doesHear_36 : decode cX8_doesHear 36 = .ok (.iload_n 3, 1) := bdX8_doesHear_26.2.2.2.2.2.2.2
theorem bdX8_doesHear_37 : decode cX8_doesHear 37 = .ok (.aload_n 0, 1) ∧ decode cX8_doesHear 38 = .ok (.getfield 20, 3) ∧ decode cX8_doesHear 41 = .ok (.iload_n 1, 1) ∧ decode cX8_doesHear 42 = .ok (.iaload, 1) ∧ decode cX8_doesHear 43 = .ok (.if_icmp .gt 7, 3) ∧ decode cX8_doesHear 46 = .ok (.iconst 1, 1) ∧ decode cX8_doesHear 47 = .ok (.goto 4, 3) ∧ decode cX8_doesHear 50 = .ok (.iconst 0, 1) := by decide +kernel
theorem dX8_doesHear_37 : decode cX8_doesHear 37 = .ok (.aload_n 0, 1) := bdX8_doesHear_37.1
theorem dX8_doesHear_38 : decode cX8_doesHear 38 = .ok (.getfield 20, 3) := bdX8_doesHear_37.2.1
theorem dX8_doesHear_41 : decode cX8_doesHear 41 = .ok (.iload_n 1, 1) := bdX8_doesHear_37.2.2.1
theorem dX8_doesHear_42 : decode cX8_doesHear 42 = .ok (.iaload, 1) := bdX8_doesHear_37.2.2.2.1
theorem dX8_doesHear_43 : decode cX8_doesHear 43 = .ok (.if_icmp .gt 7, 3) := bdX8_doesHear_37.2.2.2.2.1
theorem dX8_doesHear_46 : decode cX8_doesHear 46 = .ok (.iconst 1, 1) := bdX8_doesHear_37.2.2.2.2.2.1
theorem dX8_doesHear_47 : decode cX8_doesHear 47 = .ok (.goto 4, 3) := bdX8_doesHear_37.2.2.2.2.2.2.1
theorem dX8_doesHear_50 : decode cX8_doesHear 50 = .ok (.iconst 0, 1) := bdX8_doesHear_37.2.2.2.2.2.2.2
theorem dX8_doesHear_51 : decode cX8_doesHear 51 = .ok (.ireturn, 1) := by decide +kernel
set_option maxRecDepth 20000 in
set_option maxRecDepth 100000 in
theorem ggX8_hearersOf_X8_doesHear : GoodIn wsX8_hearersOf wsX8_doesHear := goodIn_hd (goodIn_c ch_X8_hearersOf hc_X8_hearersOf ([.code yX8_doesHear cX8_doesHear 4 (some .boolean)] : List Cond) [(1, 5)] rfl (by decide +kernel)) (goodIn_app (goodIn_c ch_X8_hearersOf hc_X8_hearersOf ([.fieldLink RX8 17 "WordFletchersModel" "place" "[I", .fieldLink RX8 20 "WordFletchersModel" "ear" "[I"] : List Cond) [(1, 6), (1, 7)] rfl (by decide +kernel)) (goodIn_sub (fun _ h => (List.mem_cons_of_mem _ (List.mem_append_right _ h))) gwX8))
set_option maxRecDepth 20000 in
theorem gX8_hearersOf_X8_doesHear : GoodIn wsX8_hearersOf (wsV RX8 138 RX8 yX8_doesHear wsX8_doesHear) := goodIn_app (goodIn_of _ (by decide +kernel)) ggX8_hearersOf_X8_doesHear
theorem bdX8_hearersOf_0 : decode cX8_hearersOf 0 = .ok (.iconst 0, 1) ∧ decode cX8_hearersOf 1 = .ok (.istore_n 3, 1) ∧ decode cX8_hearersOf 2 = .ok (.iconst 0, 1) ∧ decode cX8_hearersOf 3 = .ok (.istore 4, 2) ∧ decode cX8_hearersOf 5 = .ok (.iload 4, 2) ∧ decode cX8_hearersOf 7 = .ok (.aload_n 0, 1) ∧ decode cX8_hearersOf 8 = .ok (.getfield 13, 3) ∧ decode cX8_hearersOf 11 = .ok (.iconst 0, 1) := by decide +kernel
theorem dX8_hearersOf_0 : decode cX8_hearersOf 0 = .ok (.iconst 0, 1) := bdX8_hearersOf_0.1
theorem dX8_hearersOf_1 : decode cX8_hearersOf 1 = .ok (.istore_n 3, 1) := bdX8_hearersOf_0.2.1
theorem dX8_hearersOf_2 : decode cX8_hearersOf 2 = .ok (.iconst 0, 1) := bdX8_hearersOf_0.2.2.1
theorem dX8_hearersOf_3 : decode cX8_hearersOf 3 = .ok (.istore 4, 2) := bdX8_hearersOf_0.2.2.2.1
theorem dX8_hearersOf_5 : decode cX8_hearersOf 5 = .ok (.iload 4, 2) := bdX8_hearersOf_0.2.2.2.2.1
theorem dX8_hearersOf_7 : decode cX8_hearersOf 7 = .ok (.aload_n 0, 1) := bdX8_hearersOf_0.2.2.2.2.2.1
theorem dX8_hearersOf_8 : decode cX8_hearersOf 8 = .ok (.getfield 13, 3) := bdX8_hearersOf_0.2.2.2.2.2.2.1
theorem dX8_hearersOf_11 : decode cX8_hearersOf 11 = .ok (.iconst 0, 1) := bdX8_hearersOf_0.2.2.2.2.2.2.2
theorem bdX8_hearersOf_12 : decode cX8_hearersOf 12 = .ok (.iaload, 1) ∧ decode cX8_hearersOf 13 = .ok (.if_icmp .ge 36, 3) ∧ decode cX8_hearersOf 16 = .ok (.iload_n 3, 1) ∧ decode cX8_hearersOf 17 = .ok (.iload 4, 2) ∧ decode cX8_hearersOf 19 = .ok (.iload_n 2, 1) ∧ decode cX8_hearersOf 20 = .ok (.if_icmp .eq 20, 3) ∧ decode cX8_hearersOf 23 = .ok (.aload_n 0, 1) ∧ decode cX8_hearersOf 24 = .ok (.iload 4, 2) := by decide +kernel
theorem dX8_hearersOf_12 : decode cX8_hearersOf 12 = .ok (.iaload, 1) := bdX8_hearersOf_12.1
theorem dX8_hearersOf_13 : decode cX8_hearersOf 13 = .ok (.if_icmp .ge 36, 3) := bdX8_hearersOf_12.2.1
theorem dX8_hearersOf_16 : decode cX8_hearersOf 16 = .ok (.iload_n 3, 1) := bdX8_hearersOf_12.2.2.1
theorem dX8_hearersOf_17 : decode cX8_hearersOf 17 = .ok (.iload 4, 2) := bdX8_hearersOf_12.2.2.2.1
theorem dX8_hearersOf_19 : decode cX8_hearersOf 19 = .ok (.iload_n 2, 1) := bdX8_hearersOf_12.2.2.2.2.1
theorem dX8_hearersOf_20 : decode cX8_hearersOf 20 = .ok (.if_icmp .eq 20, 3) := bdX8_hearersOf_12.2.2.2.2.2.1
theorem dX8_hearersOf_23 : decode cX8_hearersOf 23 = .ok (.aload_n 0, 1) := bdX8_hearersOf_12.2.2.2.2.2.2.1
theorem dX8_hearersOf_24 : decode cX8_hearersOf 24 = .ok (.iload 4, 2) := bdX8_hearersOf_12.2.2.2.2.2.2.2
theorem bdX8_hearersOf_26 : decode cX8_hearersOf 26 = .ok (.iload_n 1, 1) ∧ decode cX8_hearersOf 27 = .ok (.invokevirtual 138, 3) ∧ decode cX8_hearersOf 30 = .ok (.ifCond .eq 10, 3) ∧ decode cX8_hearersOf 33 = .ok (.iconst 1, 1) ∧ decode cX8_hearersOf 34 = .ok (.iload 4, 2) ∧ decode cX8_hearersOf 36 = .ok (.ishl, 1) ∧ decode cX8_hearersOf 37 = .ok (.goto 4, 3) ∧ decode cX8_hearersOf 40 = .ok (.iconst 0, 1) := by decide +kernel
theorem dX8_hearersOf_26 : decode cX8_hearersOf 26 = .ok (.iload_n 1, 1) := bdX8_hearersOf_26.1
theorem dX8_hearersOf_27 : decode cX8_hearersOf 27 = .ok (.invokevirtual 138, 3) := bdX8_hearersOf_26.2.1
theorem dX8_hearersOf_30 : decode cX8_hearersOf 30 = .ok (.ifCond .eq 10, 3) := bdX8_hearersOf_26.2.2.1
theorem dX8_hearersOf_33 : decode cX8_hearersOf 33 = .ok (.iconst 1, 1) := bdX8_hearersOf_26.2.2.2.1
theorem dX8_hearersOf_34 : decode cX8_hearersOf 34 = .ok (.iload 4, 2) := bdX8_hearersOf_26.2.2.2.2.1
theorem dX8_hearersOf_36 : decode cX8_hearersOf 36 = .ok (.ishl, 1) := bdX8_hearersOf_26.2.2.2.2.2.1
theorem dX8_hearersOf_37 : decode cX8_hearersOf 37 = .ok (.goto 4, 3) := bdX8_hearersOf_26.2.2.2.2.2.2.1
theorem dX8_hearersOf_40 : decode cX8_hearersOf 40 = .ok (.iconst 0, 1) := bdX8_hearersOf_26.2.2.2.2.2.2.2
theorem bdX8_hearersOf_41 : decode cX8_hearersOf 41 = .ok (.ior, 1) ∧ decode cX8_hearersOf 42 = .ok (.istore_n 3, 1) ∧ decode cX8_hearersOf 43 = .ok (.iinc 4 1, 3) ∧ decode cX8_hearersOf 46 = .ok (.goto (-41), 3) ∧ decode cX8_hearersOf 49 = .ok (.iload_n 3, 1) ∧ decode cX8_hearersOf 50 = .ok (.ireturn, 1) := by decide +kernel
theorem dX8_hearersOf_41 : decode cX8_hearersOf 41 = .ok (.ior, 1) := bdX8_hearersOf_41.1
theorem dX8_hearersOf_42 : decode cX8_hearersOf 42 = .ok (.istore_n 3, 1) := bdX8_hearersOf_41.2.1
theorem dX8_hearersOf_43 : decode cX8_hearersOf 43 = .ok (.iinc 4 1, 3) := bdX8_hearersOf_41.2.2.1
theorem dX8_hearersOf_46 : decode cX8_hearersOf 46 = .ok (.goto (-41), 3) := bdX8_hearersOf_41.2.2.2.1
theorem dX8_hearersOf_49 : decode cX8_hearersOf 49 = .ok (.iload_n 3, 1) := bdX8_hearersOf_41.2.2.2.2.1
theorem dX8_hearersOf_50 : decode cX8_hearersOf 50 = .ok (.ireturn, 1) := bdX8_hearersOf_41.2.2.2.2.2
set_option maxRecDepth 20000 in
set_option maxRecDepth 100000 in
theorem ggX8_one_X8_isOne : GoodIn wsX8_one wsX8_isOne := goodIn_hd (goodIn_c ch_X8_one hc_X8_one ([.code yX8_isOne cX8_isOne 2 (some .boolean)] : List Cond) [(1, 8)] rfl (by decide +kernel)) (goodIn_app (goodIn_c ch_X8_one hc_X8_one ([.fieldLink RX8 13 "WordFletchersModel" "people" "[I", .methodLink RX8 72 yX8_in, .static yX8_in, .initialized RX8, .code yX8_in cX8_in 3 (some .boolean)] : List Cond) [(1, 9), (1, 10), (1, 11), (1, 7), (1, 12)] rfl (by decide +kernel)) (goodIn_sub (fun _ h => (List.mem_cons_of_mem _ (List.mem_append_right _ h))) gwX8))
set_option maxRecDepth 20000 in
theorem gX8_one_X8_isOne : GoodIn wsX8_one (wsV RX8 142 RX8 yX8_isOne wsX8_isOne) := goodIn_app (goodIn_of _ (by decide +kernel)) ggX8_one_X8_isOne
set_option maxRecDepth 20000 in
set_option maxRecDepth 100000 in
theorem ggX8_one_X8_has : GoodIn wsX8_one wsX8_has := goodIn_hd (goodIn_c ch_X8_one hc_X8_one ([.code yX8_has cX8_has 2 (some .boolean)] : List Cond) [(1, 15)] rfl (by decide +kernel)) (goodIn_c ch_X8_one hc_X8_one ([] : List Cond) [] rfl (by decide +kernel))
set_option maxRecDepth 20000 in
theorem gX8_one_X8_has : GoodIn wsX8_one (va_wsS RX8 145 yX8_has wsX8_has) := goodIn_app (goodIn_of _ (by decide +kernel)) ggX8_one_X8_has
theorem bdX8_one_0 : decode cX8_one 0 = .ok (.aload_n 0, 1) ∧ decode cX8_one 1 = .ok (.iload_n 1, 1) ∧ decode cX8_one 2 = .ok (.invokevirtual 142, 3) ∧ decode cX8_one 5 = .ok (.ifCond .ne 5, 3) ∧ decode cX8_one 8 = .ok (.iconst (-1), 1) ∧ decode cX8_one 9 = .ok (.ireturn, 1) ∧ decode cX8_one 10 = .ok (.iconst 0, 1) ∧ decode cX8_one 11 = .ok (.istore_n 3, 1) := by decide +kernel
theorem dX8_one_0 : decode cX8_one 0 = .ok (.aload_n 0, 1) := bdX8_one_0.1
theorem dX8_one_1 : decode cX8_one 1 = .ok (.iload_n 1, 1) := bdX8_one_0.2.1
theorem dX8_one_2 : decode cX8_one 2 = .ok (.invokevirtual 142, 3) := bdX8_one_0.2.2.1
theorem dX8_one_5 : decode cX8_one 5 = .ok (.ifCond .ne 5, 3) := bdX8_one_0.2.2.2.1
theorem dX8_one_8 : decode cX8_one 8 = .ok (.iconst (-1), 1) := bdX8_one_0.2.2.2.2.1
theorem dX8_one_9 : decode cX8_one 9 = .ok (.ireturn, 1) := bdX8_one_0.2.2.2.2.2.1
theorem dX8_one_10 : decode cX8_one 10 = .ok (.iconst 0, 1) := bdX8_one_0.2.2.2.2.2.2.1
theorem dX8_one_11 : decode cX8_one 11 = .ok (.istore_n 3, 1) := bdX8_one_0.2.2.2.2.2.2.2
theorem bdX8_one_12 : decode cX8_one 12 = .ok (.iload_n 2, 1) ∧ decode cX8_one 13 = .ok (.tableswitch 91 0 2 #[27, 34, 41], 27) ∧ decode cX8_one 40 = .ok (.aload_n 0, 1) ∧ decode cX8_one 41 = .ok (.getfield 17, 3) ∧ decode cX8_one 44 = .ok (.iload_n 1, 1) ∧ decode cX8_one 45 = .ok (.iaload, 1) ∧ decode cX8_one 46 = .ok (.ireturn, 1) ∧ decode cX8_one 47 = .ok (.aload_n 0, 1) := by decide +kernel
theorem dX8_one_12 : decode cX8_one 12 = .ok (.iload_n 2, 1) := bdX8_one_12.1
theorem dX8_one_13 : decode cX8_one 13 = .ok (.tableswitch 91 0 2 #[27, 34, 41], 27) := bdX8_one_12.2.1
theorem dX8_one_40 : decode cX8_one 40 = .ok (.aload_n 0, 1) := bdX8_one_12.2.2.1
theorem dX8_one_41 : decode cX8_one 41 = .ok (.getfield 17, 3) := bdX8_one_12.2.2.2.1
theorem dX8_one_44 : decode cX8_one 44 = .ok (.iload_n 1, 1) := bdX8_one_12.2.2.2.2.1
theorem dX8_one_45 : decode cX8_one 45 = .ok (.iaload, 1) := bdX8_one_12.2.2.2.2.2.1
theorem dX8_one_46 : decode cX8_one 46 = .ok (.ireturn, 1) := bdX8_one_12.2.2.2.2.2.2.1
theorem dX8_one_47 : decode cX8_one 47 = .ok (.aload_n 0, 1) := bdX8_one_12.2.2.2.2.2.2.2
theorem bdX8_one_48 : decode cX8_one 48 = .ok (.getfield 20, 3) ∧ decode cX8_one 51 = .ok (.iload_n 1, 1) ∧ decode cX8_one 52 = .ok (.iaload, 1) ∧ decode cX8_one 53 = .ok (.ireturn, 1) ∧ decode cX8_one 54 = .ok (.iconst 0, 1) ∧ decode cX8_one 55 = .ok (.istore 4, 2) ∧ decode cX8_one 57 = .ok (.iload 4, 2) ∧ decode cX8_one 59 = .ok (.aload_n 0, 1) := by decide +kernel
theorem dX8_one_48 : decode cX8_one 48 = .ok (.getfield 20, 3) := bdX8_one_48.1
theorem dX8_one_51 : decode cX8_one 51 = .ok (.iload_n 1, 1) := bdX8_one_48.2.1
theorem dX8_one_52 : decode cX8_one 52 = .ok (.iaload, 1) := bdX8_one_48.2.2.1
theorem dX8_one_53 : decode cX8_one 53 = .ok (.ireturn, 1) := bdX8_one_48.2.2.2.1
theorem dX8_one_54 : decode cX8_one 54 = .ok (.iconst 0, 1) := bdX8_one_48.2.2.2.2.1
theorem dX8_one_55 : decode cX8_one 55 = .ok (.istore 4, 2) := bdX8_one_48.2.2.2.2.2.1
theorem dX8_one_57 : decode cX8_one 57 = .ok (.iload 4, 2) := bdX8_one_48.2.2.2.2.2.2.1
theorem dX8_one_59 : decode cX8_one 59 = .ok (.aload_n 0, 1) := bdX8_one_48.2.2.2.2.2.2.2
theorem bdX8_one_60 : decode cX8_one 60 = .ok (.getfield 23, 3) ∧ decode cX8_one 63 = .ok (.iconst 0, 1) ∧ decode cX8_one 64 = .ok (.iaload, 1) ∧ decode cX8_one 65 = .ok (.if_icmp .ge 37, 3) ∧ decode cX8_one 68 = .ok (.iload_n 3, 1) ∧ decode cX8_one 69 = .ok (.aload_n 0, 1) ∧ decode cX8_one 70 = .ok (.getfield 44, 3) ∧ decode cX8_one 73 = .ok (.bipush 6, 2) := by decide +kernel
theorem dX8_one_60 : decode cX8_one 60 = .ok (.getfield 23, 3) := bdX8_one_60.1
theorem dX8_one_63 : decode cX8_one 63 = .ok (.iconst 0, 1) := bdX8_one_60.2.1
theorem dX8_one_64 : decode cX8_one 64 = .ok (.iaload, 1) := bdX8_one_60.2.2.1
theorem dX8_one_65 : decode cX8_one 65 = .ok (.if_icmp .ge 37, 3) := bdX8_one_60.2.2.2.1
theorem dX8_one_68 : decode cX8_one 68 = .ok (.iload_n 3, 1) := bdX8_one_60.2.2.2.2.1
theorem dX8_one_69 : decode cX8_one 69 = .ok (.aload_n 0, 1) := bdX8_one_60.2.2.2.2.2.1
theorem dX8_one_70 : decode cX8_one 70 = .ok (.getfield 44, 3) := bdX8_one_60.2.2.2.2.2.2.1
theorem dX8_one_73 : decode cX8_one 73 = .ok (.bipush 6, 2) := bdX8_one_60.2.2.2.2.2.2.2
theorem bdX8_one_75 : decode cX8_one 75 = .ok (.iload 4, 2) ∧ decode cX8_one 77 = .ok (.iadd, 1) ∧ decode cX8_one 78 = .ok (.iaload, 1) ∧ decode cX8_one 79 = .ok (.iload_n 1, 1) ∧ decode cX8_one 80 = .ok (.invokestatic 145, 3) ∧ decode cX8_one 83 = .ok (.ifCond .eq 10, 3) ∧ decode cX8_one 86 = .ok (.iconst 1, 1) ∧ decode cX8_one 87 = .ok (.iload 4, 2) := by decide +kernel
theorem dX8_one_75 : decode cX8_one 75 = .ok (.iload 4, 2) := bdX8_one_75.1
theorem dX8_one_77 : decode cX8_one 77 = .ok (.iadd, 1) := bdX8_one_75.2.1
theorem dX8_one_78 : decode cX8_one 78 = .ok (.iaload, 1) := bdX8_one_75.2.2.1
theorem dX8_one_79 : decode cX8_one 79 = .ok (.iload_n 1, 1) := bdX8_one_75.2.2.2.1
theorem dX8_one_80 : decode cX8_one 80 = .ok (.invokestatic 145, 3) := bdX8_one_75.2.2.2.2.1
theorem dX8_one_83 : decode cX8_one 83 = .ok (.ifCond .eq 10, 3) := bdX8_one_75.2.2.2.2.2.1
theorem dX8_one_86 : decode cX8_one 86 = .ok (.iconst 1, 1) := bdX8_one_75.2.2.2.2.2.2.1
theorem dX8_one_87 : decode cX8_one 87 = .ok (.iload 4, 2) := bdX8_one_75.2.2.2.2.2.2.2
theorem bdX8_one_89 : decode cX8_one 89 = .ok (.ishl, 1) ∧ decode cX8_one 90 = .ok (.goto 4, 3) ∧ decode cX8_one 93 = .ok (.iconst 0, 1) ∧ decode cX8_one 94 = .ok (.ior, 1) ∧ decode cX8_one 95 = .ok (.istore_n 3, 1) ∧ decode cX8_one 96 = .ok (.iinc 4 1, 3) ∧ decode cX8_one 99 = .ok (.goto (-42), 3) ∧ decode cX8_one 102 = .ok (.iload_n 3, 1) := by decide +kernel
theorem dX8_one_89 : decode cX8_one 89 = .ok (.ishl, 1) := bdX8_one_89.1
theorem dX8_one_90 : decode cX8_one 90 = .ok (.goto 4, 3) := bdX8_one_89.2.1
theorem dX8_one_93 : decode cX8_one 93 = .ok (.iconst 0, 1) := bdX8_one_89.2.2.1
theorem dX8_one_94 : decode cX8_one 94 = .ok (.ior, 1) := bdX8_one_89.2.2.2.1
theorem dX8_one_95 : decode cX8_one 95 = .ok (.istore_n 3, 1) := bdX8_one_89.2.2.2.2.1
theorem dX8_one_96 : decode cX8_one 96 = .ok (.iinc 4 1, 3) := bdX8_one_89.2.2.2.2.2.1
theorem dX8_one_99 : decode cX8_one 99 = .ok (.goto (-42), 3) := bdX8_one_89.2.2.2.2.2.2.1
theorem dX8_one_102 : decode cX8_one 102 = .ok (.iload_n 3, 1) := bdX8_one_89.2.2.2.2.2.2.2
theorem bdX8_one_103 : decode cX8_one 103 = .ok (.ireturn, 1) ∧ decode cX8_one 104 = .ok (.iconst (-1), 1) ∧ decode cX8_one 105 = .ok (.ireturn, 1) := by decide +kernel
theorem dX8_one_103 : decode cX8_one 103 = .ok (.ireturn, 1) := bdX8_one_103.1
theorem dX8_one_104 : decode cX8_one 104 = .ok (.iconst (-1), 1) := bdX8_one_103.2.1
theorem dX8_one_105 : decode cX8_one 105 = .ok (.ireturn, 1) := bdX8_one_103.2.2
set_option maxRecDepth 20000 in
set_option maxRecDepth 100000 in
theorem ggX8_saying_X8_isSaying : GoodIn wsX8_saying wsX8_isSaying := goodIn_hd (goodIn_c ch_X8_saying hc_X8_saying ([.code yX8_isSaying cX8_isSaying 2 (some .boolean)] : List Cond) [(1, 8)] rfl (by decide +kernel)) (goodIn_app (goodIn_c ch_X8_saying hc_X8_saying ([.fieldLink RX8 23 "WordFletchersModel" "sayings" "[I", .methodLink RX8 72 yX8_in, .static yX8_in, .initialized RX8, .code yX8_in cX8_in 3 (some .boolean)] : List Cond) [(1, 9), (1, 10), (1, 11), (1, 7), (1, 12)] rfl (by decide +kernel)) (goodIn_sub (fun _ h => (List.mem_cons_of_mem _ (List.mem_append_right _ h))) gwX8))
set_option maxRecDepth 20000 in
theorem gX8_saying_X8_isSaying : GoodIn wsX8_saying (wsV RX8 148 RX8 yX8_isSaying wsX8_isSaying) := goodIn_app (goodIn_of _ (by decide +kernel)) ggX8_saying_X8_isSaying
theorem bdX8_saying_0 : decode cX8_saying 0 = .ok (.aload_n 0, 1) ∧ decode cX8_saying 1 = .ok (.iload_n 1, 1) ∧ decode cX8_saying 2 = .ok (.invokevirtual 148, 3) ∧ decode cX8_saying 5 = .ok (.ifCond .ne 5, 3) ∧ decode cX8_saying 8 = .ok (.iconst (-1), 1) ∧ decode cX8_saying 9 = .ok (.ireturn, 1) ∧ decode cX8_saying 10 = .ok (.iload_n 2, 1) ∧ decode cX8_saying 11 = .ok (.tableswitch 60 0 3 #[29, 36, 43, 50], 29) := by decide +kernel
theorem dX8_saying_0 : decode cX8_saying 0 = .ok (.aload_n 0, 1) := bdX8_saying_0.1
theorem dX8_saying_1 : decode cX8_saying 1 = .ok (.iload_n 1, 1) := bdX8_saying_0.2.1
theorem dX8_saying_2 : decode cX8_saying 2 = .ok (.invokevirtual 148, 3) := bdX8_saying_0.2.2.1
theorem dX8_saying_5 : decode cX8_saying 5 = .ok (.ifCond .ne 5, 3) := bdX8_saying_0.2.2.2.1
theorem dX8_saying_8 : decode cX8_saying 8 = .ok (.iconst (-1), 1) := bdX8_saying_0.2.2.2.2.1
theorem dX8_saying_9 : decode cX8_saying 9 = .ok (.ireturn, 1) := bdX8_saying_0.2.2.2.2.2.1
theorem dX8_saying_10 : decode cX8_saying 10 = .ok (.iload_n 2, 1) := bdX8_saying_0.2.2.2.2.2.2.1
theorem dX8_saying_11 : decode cX8_saying 11 = .ok (.tableswitch 60 0 3 #[29, 36, 43, 50], 29) := bdX8_saying_0.2.2.2.2.2.2.2
theorem bdX8_saying_40 : decode cX8_saying 40 = .ok (.aload_n 0, 1) ∧ decode cX8_saying 41 = .ok (.getfield 26, 3) ∧ decode cX8_saying 44 = .ok (.iload_n 1, 1) ∧ decode cX8_saying 45 = .ok (.iaload, 1) ∧ decode cX8_saying 46 = .ok (.ireturn, 1) ∧ decode cX8_saying 47 = .ok (.aload_n 0, 1) ∧ decode cX8_saying 48 = .ok (.getfield 29, 3) ∧ decode cX8_saying 51 = .ok (.iload_n 1, 1) := by decide +kernel
theorem dX8_saying_40 : decode cX8_saying 40 = .ok (.aload_n 0, 1) := bdX8_saying_40.1
theorem dX8_saying_41 : decode cX8_saying 41 = .ok (.getfield 26, 3) := bdX8_saying_40.2.1
theorem dX8_saying_44 : decode cX8_saying 44 = .ok (.iload_n 1, 1) := bdX8_saying_40.2.2.1
theorem dX8_saying_45 : decode cX8_saying 45 = .ok (.iaload, 1) := bdX8_saying_40.2.2.2.1
theorem dX8_saying_46 : decode cX8_saying 46 = .ok (.ireturn, 1) := bdX8_saying_40.2.2.2.2.1
theorem dX8_saying_47 : decode cX8_saying 47 = .ok (.aload_n 0, 1) := bdX8_saying_40.2.2.2.2.2.1
theorem dX8_saying_48 : decode cX8_saying 48 = .ok (.getfield 29, 3) := bdX8_saying_40.2.2.2.2.2.2.1
theorem dX8_saying_51 : decode cX8_saying 51 = .ok (.iload_n 1, 1) := bdX8_saying_40.2.2.2.2.2.2.2
theorem bdX8_saying_52 : decode cX8_saying 52 = .ok (.iaload, 1) ∧ decode cX8_saying 53 = .ok (.ireturn, 1) ∧ decode cX8_saying 54 = .ok (.aload_n 0, 1) ∧ decode cX8_saying 55 = .ok (.getfield 32, 3) ∧ decode cX8_saying 58 = .ok (.iload_n 1, 1) ∧ decode cX8_saying 59 = .ok (.iaload, 1) ∧ decode cX8_saying 60 = .ok (.ireturn, 1) ∧ decode cX8_saying 61 = .ok (.aload_n 0, 1) := by decide +kernel
theorem dX8_saying_52 : decode cX8_saying 52 = .ok (.iaload, 1) := bdX8_saying_52.1
theorem dX8_saying_53 : decode cX8_saying 53 = .ok (.ireturn, 1) := bdX8_saying_52.2.1
theorem dX8_saying_54 : decode cX8_saying 54 = .ok (.aload_n 0, 1) := bdX8_saying_52.2.2.1
theorem dX8_saying_55 : decode cX8_saying 55 = .ok (.getfield 32, 3) := bdX8_saying_52.2.2.2.1
theorem dX8_saying_58 : decode cX8_saying 58 = .ok (.iload_n 1, 1) := bdX8_saying_52.2.2.2.2.1
theorem dX8_saying_59 : decode cX8_saying 59 = .ok (.iaload, 1) := bdX8_saying_52.2.2.2.2.2.1
theorem dX8_saying_60 : decode cX8_saying 60 = .ok (.ireturn, 1) := bdX8_saying_52.2.2.2.2.2.2.1
theorem dX8_saying_61 : decode cX8_saying 61 = .ok (.aload_n 0, 1) := bdX8_saying_52.2.2.2.2.2.2.2
theorem bdX8_saying_62 : decode cX8_saying 62 = .ok (.getfield 44, 3) ∧ decode cX8_saying 65 = .ok (.bipush 6, 2) ∧ decode cX8_saying 67 = .ok (.iload_n 1, 1) ∧ decode cX8_saying 68 = .ok (.iadd, 1) ∧ decode cX8_saying 69 = .ok (.iaload, 1) ∧ decode cX8_saying 70 = .ok (.ireturn, 1) ∧ decode cX8_saying 71 = .ok (.iconst (-1), 1) ∧ decode cX8_saying 72 = .ok (.ireturn, 1) := by decide +kernel
theorem dX8_saying_62 : decode cX8_saying 62 = .ok (.getfield 44, 3) := bdX8_saying_62.1
theorem dX8_saying_65 : decode cX8_saying 65 = .ok (.bipush 6, 2) := bdX8_saying_62.2.1
theorem dX8_saying_67 : decode cX8_saying 67 = .ok (.iload_n 1, 1) := bdX8_saying_62.2.2.1
theorem dX8_saying_68 : decode cX8_saying 68 = .ok (.iadd, 1) := bdX8_saying_62.2.2.2.1
theorem dX8_saying_69 : decode cX8_saying 69 = .ok (.iaload, 1) := bdX8_saying_62.2.2.2.2.1
theorem dX8_saying_70 : decode cX8_saying 70 = .ok (.ireturn, 1) := bdX8_saying_62.2.2.2.2.2.1
theorem dX8_saying_71 : decode cX8_saying 71 = .ok (.iconst (-1), 1) := bdX8_saying_62.2.2.2.2.2.2.1
theorem dX8_saying_72 : decode cX8_saying 72 = .ok (.ireturn, 1) := bdX8_saying_62.2.2.2.2.2.2.2
set_option maxRecDepth 20000 in
set_option maxRecDepth 100000 in
theorem ggX8_wind_X8_in : GoodIn wsX8_wind wsX8_in := goodIn_hd (goodIn_c ch_X8_wind hc_X8_wind ([.code yX8_in cX8_in 3 (some .boolean)] : List Cond) [(1, 4)] rfl (by decide +kernel)) (goodIn_c ch_X8_wind hc_X8_wind ([] : List Cond) [] rfl (by decide +kernel))
set_option maxRecDepth 20000 in
theorem gX8_wind_X8_in : GoodIn wsX8_wind (va_wsS RX8 72 yX8_in wsX8_in) := goodIn_app (goodIn_of _ (by decide +kernel)) ggX8_wind_X8_in
set_option maxRecDepth 20000 in
set_option maxRecDepth 100000 in
theorem ggX8_wind_X8_windIn : GoodIn wsX8_wind wsX8_windIn := goodIn_hd (goodIn_c ch_X8_wind hc_X8_wind ([.code yX8_windIn cX8_windIn 2 (some .int)] : List Cond) [(1, 8)] rfl (by decide +kernel)) (goodIn_app (goodIn_c ch_X8_wind hc_X8_wind ([.fieldLink RX8 38 "WordFletchersModel" "wind" "[I", .fieldLink RX8 44 "WordFletchersModel" "now" "[I", .fieldLink RX8 35 "WordFletchersModel" "winds" "[I"] : List Cond) [(1, 9), (1, 10), (1, 11)] rfl (by decide +kernel)) (goodIn_sub (fun _ h => (List.mem_cons_of_mem _ (List.mem_append_right _ h))) gwX8))
set_option maxRecDepth 20000 in
theorem gX8_wind_X8_windIn : GoodIn wsX8_wind (wsV RX8 151 RX8 yX8_windIn wsX8_windIn) := goodIn_app (goodIn_of _ (by decide +kernel)) ggX8_wind_X8_windIn
theorem bdX8_wind_0 : decode cX8_wind 0 = .ok (.iload_n 1, 1) ∧ decode cX8_wind 1 = .ok (.iconst 0, 1) ∧ decode cX8_wind 2 = .ok (.bipush 99, 2) ∧ decode cX8_wind 4 = .ok (.invokestatic 72, 3) ∧ decode cX8_wind 7 = .ok (.ifCond .eq 11, 3) ∧ decode cX8_wind 10 = .ok (.aload_n 0, 1) ∧ decode cX8_wind 11 = .ok (.iload_n 1, 1) ∧ decode cX8_wind 12 = .ok (.invokevirtual 151, 3) := by decide +kernel
theorem dX8_wind_0 : decode cX8_wind 0 = .ok (.iload_n 1, 1) := bdX8_wind_0.1
theorem dX8_wind_1 : decode cX8_wind 1 = .ok (.iconst 0, 1) := bdX8_wind_0.2.1
theorem dX8_wind_2 : decode cX8_wind 2 = .ok (.bipush 99, 2) := bdX8_wind_0.2.2.1
theorem dX8_wind_4 : decode cX8_wind 4 = .ok (.invokestatic 72, 3) := bdX8_wind_0.2.2.2.1
theorem dX8_wind_7 : decode cX8_wind 7 = .ok (.ifCond .eq 11, 3) := bdX8_wind_0.2.2.2.2.1
theorem dX8_wind_10 : decode cX8_wind 10 = .ok (.aload_n 0, 1) := bdX8_wind_0.2.2.2.2.2.1
theorem dX8_wind_11 : decode cX8_wind 11 = .ok (.iload_n 1, 1) := bdX8_wind_0.2.2.2.2.2.2.1
theorem dX8_wind_12 : decode cX8_wind 12 = .ok (.invokevirtual 151, 3) := bdX8_wind_0.2.2.2.2.2.2.2
theorem bdX8_wind_15 : decode cX8_wind 15 = .ok (.goto 5, 3) ∧ decode cX8_wind 18 = .ok (.ldc 154, 2) ∧ decode cX8_wind 20 = .ok (.ireturn, 1) := by decide +kernel
theorem dX8_wind_15 : decode cX8_wind 15 = .ok (.goto 5, 3) := bdX8_wind_15.1
theorem dX8_wind_18 : decode cX8_wind 18 = .ok (.ldc 154, 2) := bdX8_wind_15.2.1
theorem dX8_wind_20 : decode cX8_wind 20 = .ok (.ireturn, 1) := bdX8_wind_15.2.2
set_option maxRecDepth 20000 in
set_option maxRecDepth 100000 in
theorem ggX8_stray_X8_in : GoodIn wsX8_stray wsX8_in := goodIn_hd (goodIn_c ch_X8_stray hc_X8_stray ([.code yX8_in cX8_in 3 (some .boolean)] : List Cond) [(1, 4)] rfl (by decide +kernel)) (goodIn_c ch_X8_stray hc_X8_stray ([] : List Cond) [] rfl (by decide +kernel))
set_option maxRecDepth 20000 in
theorem gX8_stray_X8_in : GoodIn wsX8_stray (va_wsS RX8 72 yX8_in wsX8_in) := goodIn_app (goodIn_of _ (by decide +kernel)) ggX8_stray_X8_in
theorem bdX8_stray_0 : decode cX8_stray 0 = .ok (.iload_n 1, 1) ∧ decode cX8_stray 1 = .ok (.iconst 0, 1) ∧ decode cX8_stray 2 = .ok (.bipush 7, 2) ∧ decode cX8_stray 4 = .ok (.invokestatic 72, 3) ∧ decode cX8_stray 7 = .ok (.ifCond .eq 12, 3) ∧ decode cX8_stray 10 = .ok (.iload_n 2, 1) ∧ decode cX8_stray 11 = .ok (.iconst 0, 1) ∧ decode cX8_stray 12 = .ok (.iconst 1, 1) := by decide +kernel
theorem dX8_stray_0 : decode cX8_stray 0 = .ok (.iload_n 1, 1) := bdX8_stray_0.1
theorem dX8_stray_1 : decode cX8_stray 1 = .ok (.iconst 0, 1) := bdX8_stray_0.2.1
theorem dX8_stray_2 : decode cX8_stray 2 = .ok (.bipush 7, 2) := bdX8_stray_0.2.2.1
theorem dX8_stray_4 : decode cX8_stray 4 = .ok (.invokestatic 72, 3) := bdX8_stray_0.2.2.2.1
theorem dX8_stray_7 : decode cX8_stray 7 = .ok (.ifCond .eq 12, 3) := bdX8_stray_0.2.2.2.2.1
theorem dX8_stray_10 : decode cX8_stray 10 = .ok (.iload_n 2, 1) := bdX8_stray_0.2.2.2.2.2.1
theorem dX8_stray_11 : decode cX8_stray 11 = .ok (.iconst 0, 1) := bdX8_stray_0.2.2.2.2.2.2.1
theorem dX8_stray_12 : decode cX8_stray 12 = .ok (.iconst 1, 1) := bdX8_stray_0.2.2.2.2.2.2.2
theorem bdX8_stray_13 : decode cX8_stray 13 = .ok (.invokestatic 72, 3) ∧ decode cX8_stray 16 = .ok (.ifCond .ne 5, 3) ∧ decode cX8_stray 19 = .ok (.iconst (-1), 1) ∧ decode cX8_stray 20 = .ok (.ireturn, 1) ∧ decode cX8_stray 21 = .ok (.iload_n 1, 1) ∧ decode cX8_stray 22 = .ok (.aload_n 0, 1) ∧ decode cX8_stray 23 = .ok (.getfield 44, 3) ∧ decode cX8_stray 26 = .ok (.bipush 12, 2) := by decide +kernel
theorem dX8_stray_13 : decode cX8_stray 13 = .ok (.invokestatic 72, 3) := bdX8_stray_13.1
theorem dX8_stray_16 : decode cX8_stray 16 = .ok (.ifCond .ne 5, 3) := bdX8_stray_13.2.1
theorem dX8_stray_19 : decode cX8_stray 19 = .ok (.iconst (-1), 1) := bdX8_stray_13.2.2.1
theorem dX8_stray_20 : decode cX8_stray 20 = .ok (.ireturn, 1) := bdX8_stray_13.2.2.2.1
theorem dX8_stray_21 : decode cX8_stray 21 = .ok (.iload_n 1, 1) := bdX8_stray_13.2.2.2.2.1
theorem dX8_stray_22 : decode cX8_stray 22 = .ok (.aload_n 0, 1) := bdX8_stray_13.2.2.2.2.2.1
theorem dX8_stray_23 : decode cX8_stray 23 = .ok (.getfield 44, 3) := bdX8_stray_13.2.2.2.2.2.2.1
theorem dX8_stray_26 : decode cX8_stray 26 = .ok (.bipush 12, 2) := bdX8_stray_13.2.2.2.2.2.2.2
theorem bdX8_stray_28 : decode cX8_stray 28 = .ok (.iaload, 1) ∧ decode cX8_stray 29 = .ok (.if_icmp .lt 8, 3) ∧ decode cX8_stray 32 = .ok (.bipush (-9), 2) ∧ decode cX8_stray 34 = .ok (.goto 21, 3) ∧ decode cX8_stray 37 = .ok (.aload_n 0, 1) ∧ decode cX8_stray 38 = .ok (.getfield 44, 3) ∧ decode cX8_stray 41 = .ok (.iload_n 2, 1) ∧ decode cX8_stray 42 = .ok (.ifCond .ne 8, 3) := by decide +kernel
theorem dX8_stray_28 : decode cX8_stray 28 = .ok (.iaload, 1) := bdX8_stray_28.1
theorem dX8_stray_29 : decode cX8_stray 29 = .ok (.if_icmp .lt 8, 3) := bdX8_stray_28.2.1
theorem dX8_stray_32 : decode cX8_stray 32 = .ok (.bipush (-9), 2) := bdX8_stray_28.2.2.1
theorem dX8_stray_34 : decode cX8_stray 34 = .ok (.goto 21, 3) := bdX8_stray_28.2.2.2.1
theorem dX8_stray_37 : decode cX8_stray 37 = .ok (.aload_n 0, 1) := bdX8_stray_28.2.2.2.2.1
theorem dX8_stray_38 : decode cX8_stray 38 = .ok (.getfield 44, 3) := bdX8_stray_28.2.2.2.2.2.1
theorem dX8_stray_41 : decode cX8_stray 41 = .ok (.iload_n 2, 1) := bdX8_stray_28.2.2.2.2.2.2.1
theorem dX8_stray_42 : decode cX8_stray 42 = .ok (.ifCond .ne 8, 3) := bdX8_stray_28.2.2.2.2.2.2.2
theorem bdX8_stray_45 : decode cX8_stray 45 = .ok (.bipush 13, 2) ∧ decode cX8_stray 47 = .ok (.goto 5, 3) ∧ decode cX8_stray 50 = .ok (.bipush 21, 2) ∧ decode cX8_stray 52 = .ok (.iload_n 1, 1) ∧ decode cX8_stray 53 = .ok (.iadd, 1) ∧ decode cX8_stray 54 = .ok (.iaload, 1) ∧ decode cX8_stray 55 = .ok (.ireturn, 1) := by decide +kernel
theorem dX8_stray_45 : decode cX8_stray 45 = .ok (.bipush 13, 2) := bdX8_stray_45.1
theorem dX8_stray_47 : decode cX8_stray 47 = .ok (.goto 5, 3) := bdX8_stray_45.2.1
theorem dX8_stray_50 : decode cX8_stray 50 = .ok (.bipush 21, 2) := bdX8_stray_45.2.2.1
theorem dX8_stray_52 : decode cX8_stray 52 = .ok (.iload_n 1, 1) := bdX8_stray_45.2.2.2.1
theorem dX8_stray_53 : decode cX8_stray 53 = .ok (.iadd, 1) := bdX8_stray_45.2.2.2.2.1
theorem dX8_stray_54 : decode cX8_stray 54 = .ok (.iaload, 1) := bdX8_stray_45.2.2.2.2.2.1
theorem dX8_stray_55 : decode cX8_stray 55 = .ok (.ireturn, 1) := bdX8_stray_45.2.2.2.2.2.2
theorem bdX8_know_0 : decode cX8_know 0 = .ok (.aload_n 0, 1) ∧ decode cX8_know 1 = .ok (.getfield 47, 3) ∧ decode cX8_know 4 = .ok (.iconst 0, 1) ∧ decode cX8_know 5 = .ok (.iaload, 1) ∧ decode cX8_know 6 = .ok (.bipush 10, 2) ∧ decode cX8_know 8 = .ok (.if_icmp .ne 43, 3) ∧ decode cX8_know 11 = .ok (.iconst 0, 1) ∧ decode cX8_know 12 = .ok (.istore_n 1, 1) := by decide +kernel
theorem dX8_know_0 : decode cX8_know 0 = .ok (.aload_n 0, 1) := bdX8_know_0.1
theorem dX8_know_1 : decode cX8_know 1 = .ok (.getfield 47, 3) := bdX8_know_0.2.1
theorem dX8_know_4 : decode cX8_know 4 = .ok (.iconst 0, 1) := bdX8_know_0.2.2.1
theorem dX8_know_5 : decode cX8_know 5 = .ok (.iaload, 1) := bdX8_know_0.2.2.2.1
theorem dX8_know_6 : decode cX8_know 6 = .ok (.bipush 10, 2) := bdX8_know_0.2.2.2.2.1
theorem dX8_know_8 : decode cX8_know 8 = .ok (.if_icmp .ne 43, 3) := bdX8_know_0.2.2.2.2.2.1
theorem dX8_know_11 : decode cX8_know 11 = .ok (.iconst 0, 1) := bdX8_know_0.2.2.2.2.2.2.1
theorem dX8_know_12 : decode cX8_know 12 = .ok (.istore_n 1, 1) := bdX8_know_0.2.2.2.2.2.2.2
theorem bdX8_know_13 : decode cX8_know 13 = .ok (.iload_n 1, 1) ∧ decode cX8_know 14 = .ok (.sipush 261, 3) ∧ decode cX8_know 17 = .ok (.if_icmp .ge 24, 3) ∧ decode cX8_know 20 = .ok (.aload_n 0, 1) ∧ decode cX8_know 21 = .ok (.getfield 50, 3) ∧ decode cX8_know 24 = .ok (.iload_n 1, 1) ∧ decode cX8_know 25 = .ok (.aload_n 0, 1) ∧ decode cX8_know 26 = .ok (.getfield 50, 3) := by decide +kernel
theorem dX8_know_13 : decode cX8_know 13 = .ok (.iload_n 1, 1) := bdX8_know_13.1
theorem dX8_know_14 : decode cX8_know 14 = .ok (.sipush 261, 3) := bdX8_know_13.2.1
theorem dX8_know_17 : decode cX8_know 17 = .ok (.if_icmp .ge 24, 3) := bdX8_know_13.2.2.1
theorem dX8_know_20 : decode cX8_know 20 = .ok (.aload_n 0, 1) := bdX8_know_13.2.2.2.1
theorem dX8_know_21 : decode cX8_know 21 = .ok (.getfield 50, 3) := bdX8_know_13.2.2.2.2.1
theorem dX8_know_24 : decode cX8_know 24 = .ok (.iload_n 1, 1) := bdX8_know_13.2.2.2.2.2.1
theorem dX8_know_25 : decode cX8_know 25 = .ok (.aload_n 0, 1) := bdX8_know_13.2.2.2.2.2.2.1
theorem dX8_know_26 : decode cX8_know 26 = .ok (.getfield 50, 3) := bdX8_know_13.2.2.2.2.2.2.2
theorem bdX8_know_29 : decode cX8_know 29 = .ok (.bipush 29, 2) ∧ decode cX8_know 31 = .ok (.iload_n 1, 1) ∧ decode cX8_know 32 = .ok (.iadd, 1) ∧ decode cX8_know 33 = .ok (.iaload, 1) ∧ decode cX8_know 34 = .ok (.iastore, 1) ∧ decode cX8_know 35 = .ok (.iinc 1 1, 3) ∧ decode cX8_know 38 = .ok (.goto (-25), 3) ∧ decode cX8_know 41 = .ok (.aload_n 0, 1) := by decide +kernel
theorem dX8_know_29 : decode cX8_know 29 = .ok (.bipush 29, 2) := bdX8_know_29.1
theorem dX8_know_31 : decode cX8_know 31 = .ok (.iload_n 1, 1) := bdX8_know_29.2.1
theorem dX8_know_32 : decode cX8_know 32 = .ok (.iadd, 1) := bdX8_know_29.2.2.1
theorem dX8_know_33 : decode cX8_know 33 = .ok (.iaload, 1) := bdX8_know_29.2.2.2.1
theorem dX8_know_34 : decode cX8_know 34 = .ok (.iastore, 1) := bdX8_know_29.2.2.2.2.1
theorem dX8_know_35 : decode cX8_know 35 = .ok (.iinc 1 1, 3) := bdX8_know_29.2.2.2.2.2.1
theorem dX8_know_38 : decode cX8_know 38 = .ok (.goto (-25), 3) := bdX8_know_29.2.2.2.2.2.2.1
theorem dX8_know_41 : decode cX8_know 41 = .ok (.aload_n 0, 1) := bdX8_know_29.2.2.2.2.2.2.2
theorem bdX8_know_42 : decode cX8_know 42 = .ok (.getfield 47, 3) ∧ decode cX8_know 45 = .ok (.iconst 0, 1) ∧ decode cX8_know 46 = .ok (.dup2, 1) ∧ decode cX8_know 47 = .ok (.iaload, 1) ∧ decode cX8_know 48 = .ok (.iconst 1, 1) ∧ decode cX8_know 49 = .ok (.isub, 1) ∧ decode cX8_know 50 = .ok (.iastore, 1) ∧ decode cX8_know 51 = .ok (.iconst 0, 1) := by decide +kernel
theorem dX8_know_42 : decode cX8_know 42 = .ok (.getfield 47, 3) := bdX8_know_42.1
theorem dX8_know_45 : decode cX8_know 45 = .ok (.iconst 0, 1) := bdX8_know_42.2.1
theorem dX8_know_46 : decode cX8_know 46 = .ok (.dup2, 1) := bdX8_know_42.2.2.1
theorem dX8_know_47 : decode cX8_know 47 = .ok (.iaload, 1) := bdX8_know_42.2.2.2.1
theorem dX8_know_48 : decode cX8_know 48 = .ok (.iconst 1, 1) := bdX8_know_42.2.2.2.2.1
theorem dX8_know_49 : decode cX8_know 49 = .ok (.isub, 1) := bdX8_know_42.2.2.2.2.2.1
theorem dX8_know_50 : decode cX8_know 50 = .ok (.iastore, 1) := bdX8_know_42.2.2.2.2.2.2.1
theorem dX8_know_51 : decode cX8_know 51 = .ok (.iconst 0, 1) := bdX8_know_42.2.2.2.2.2.2.2
theorem bdX8_know_52 : decode cX8_know 52 = .ok (.istore_n 1, 1) ∧ decode cX8_know 53 = .ok (.iload_n 1, 1) ∧ decode cX8_know 54 = .ok (.bipush 29, 2) ∧ decode cX8_know 56 = .ok (.if_icmp .ge 31, 3) ∧ decode cX8_know 59 = .ok (.aload_n 0, 1) ∧ decode cX8_know 60 = .ok (.getfield 50, 3) ∧ decode cX8_know 63 = .ok (.bipush 29, 2) ∧ decode cX8_know 65 = .ok (.aload_n 0, 1) := by decide +kernel
theorem dX8_know_52 : decode cX8_know 52 = .ok (.istore_n 1, 1) := bdX8_know_52.1
theorem dX8_know_53 : decode cX8_know 53 = .ok (.iload_n 1, 1) := bdX8_know_52.2.1
theorem dX8_know_54 : decode cX8_know 54 = .ok (.bipush 29, 2) := bdX8_know_52.2.2.1
theorem dX8_know_56 : decode cX8_know 56 = .ok (.if_icmp .ge 31, 3) := bdX8_know_52.2.2.2.1
theorem dX8_know_59 : decode cX8_know 59 = .ok (.aload_n 0, 1) := bdX8_know_52.2.2.2.2.1
theorem dX8_know_60 : decode cX8_know 60 = .ok (.getfield 50, 3) := bdX8_know_52.2.2.2.2.2.1
theorem dX8_know_63 : decode cX8_know 63 = .ok (.bipush 29, 2) := bdX8_know_52.2.2.2.2.2.2.1
theorem dX8_know_65 : decode cX8_know 65 = .ok (.aload_n 0, 1) := bdX8_know_52.2.2.2.2.2.2.2
theorem bdX8_know_66 : decode cX8_know 66 = .ok (.getfield 47, 3) ∧ decode cX8_know 69 = .ok (.iconst 0, 1) ∧ decode cX8_know 70 = .ok (.iaload, 1) ∧ decode cX8_know 71 = .ok (.imul, 1) ∧ decode cX8_know 72 = .ok (.iload_n 1, 1) ∧ decode cX8_know 73 = .ok (.iadd, 1) ∧ decode cX8_know 74 = .ok (.aload_n 0, 1) ∧ decode cX8_know 75 = .ok (.getfield 44, 3) := by decide +kernel
theorem dX8_know_66 : decode cX8_know 66 = .ok (.getfield 47, 3) := bdX8_know_66.1
theorem dX8_know_69 : decode cX8_know 69 = .ok (.iconst 0, 1) := bdX8_know_66.2.1
theorem dX8_know_70 : decode cX8_know 70 = .ok (.iaload, 1) := bdX8_know_66.2.2.1
theorem dX8_know_71 : decode cX8_know 71 = .ok (.imul, 1) := bdX8_know_66.2.2.2.1
theorem dX8_know_72 : decode cX8_know 72 = .ok (.iload_n 1, 1) := bdX8_know_66.2.2.2.2.1
theorem dX8_know_73 : decode cX8_know 73 = .ok (.iadd, 1) := bdX8_know_66.2.2.2.2.2.1
theorem dX8_know_74 : decode cX8_know 74 = .ok (.aload_n 0, 1) := bdX8_know_66.2.2.2.2.2.2.1
theorem dX8_know_75 : decode cX8_know 75 = .ok (.getfield 44, 3) := bdX8_know_66.2.2.2.2.2.2.2
theorem bdX8_know_78 : decode cX8_know 78 = .ok (.iload_n 1, 1) ∧ decode cX8_know 79 = .ok (.iaload, 1) ∧ decode cX8_know 80 = .ok (.iastore, 1) ∧ decode cX8_know 81 = .ok (.iinc 1 1, 3) ∧ decode cX8_know 84 = .ok (.goto (-31), 3) ∧ decode cX8_know 87 = .ok (.aload_n 0, 1) ∧ decode cX8_know 88 = .ok (.getfield 47, 3) ∧ decode cX8_know 91 = .ok (.iconst 0, 1) := by decide +kernel
theorem dX8_know_78 : decode cX8_know 78 = .ok (.iload_n 1, 1) := bdX8_know_78.1
theorem dX8_know_79 : decode cX8_know 79 = .ok (.iaload, 1) := bdX8_know_78.2.1
theorem dX8_know_80 : decode cX8_know 80 = .ok (.iastore, 1) := bdX8_know_78.2.2.1
theorem dX8_know_81 : decode cX8_know 81 = .ok (.iinc 1 1, 3) := bdX8_know_78.2.2.2.1
theorem dX8_know_84 : decode cX8_know 84 = .ok (.goto (-31), 3) := bdX8_know_78.2.2.2.2.1
theorem dX8_know_87 : decode cX8_know 87 = .ok (.aload_n 0, 1) := bdX8_know_78.2.2.2.2.2.1
theorem dX8_know_88 : decode cX8_know 88 = .ok (.getfield 47, 3) := bdX8_know_78.2.2.2.2.2.2.1
theorem dX8_know_91 : decode cX8_know 91 = .ok (.iconst 0, 1) := bdX8_know_78.2.2.2.2.2.2.2
theorem bdX8_know_92 : decode cX8_know 92 = .ok (.dup2, 1) ∧ decode cX8_know 93 = .ok (.iaload, 1) ∧ decode cX8_know 94 = .ok (.iconst 1, 1) ∧ decode cX8_know 95 = .ok (.iadd, 1) ∧ decode cX8_know 96 = .ok (.iastore, 1) ∧ decode cX8_know 97 = .ok (.return_, 1) := by decide +kernel
theorem dX8_know_92 : decode cX8_know 92 = .ok (.dup2, 1) := bdX8_know_92.1
theorem dX8_know_93 : decode cX8_know 93 = .ok (.iaload, 1) := bdX8_know_92.2.1
theorem dX8_know_94 : decode cX8_know 94 = .ok (.iconst 1, 1) := bdX8_know_92.2.2.1
theorem dX8_know_95 : decode cX8_know 95 = .ok (.iadd, 1) := bdX8_know_92.2.2.2.1
theorem dX8_know_96 : decode cX8_know 96 = .ok (.iastore, 1) := bdX8_know_92.2.2.2.2.1
theorem dX8_know_97 : decode cX8_know 97 = .ok (.return_, 1) := bdX8_know_92.2.2.2.2.2
theorem bdX8_takeUp_0 : decode cX8_takeUp 0 = .ok (.iload_n 1, 1) ∧ decode cX8_takeUp 1 = .ok (.istore_n 2, 1) ∧ decode cX8_takeUp 2 = .ok (.iload_n 2, 1) ∧ decode cX8_takeUp 3 = .ok (.iconst 1, 1) ∧ decode cX8_takeUp 4 = .ok (.iadd, 1) ∧ decode cX8_takeUp 5 = .ok (.bipush 8, 2) ∧ decode cX8_takeUp 7 = .ok (.if_icmp .ge 49, 3) ∧ decode cX8_takeUp 10 = .ok (.aload_n 0, 1) := by decide +kernel
theorem dX8_takeUp_0 : decode cX8_takeUp 0 = .ok (.iload_n 1, 1) := bdX8_takeUp_0.1
theorem dX8_takeUp_1 : decode cX8_takeUp 1 = .ok (.istore_n 2, 1) := bdX8_takeUp_0.2.1
theorem dX8_takeUp_2 : decode cX8_takeUp 2 = .ok (.iload_n 2, 1) := bdX8_takeUp_0.2.2.1
theorem dX8_takeUp_3 : decode cX8_takeUp 3 = .ok (.iconst 1, 1) := bdX8_takeUp_0.2.2.2.1
theorem dX8_takeUp_4 : decode cX8_takeUp 4 = .ok (.iadd, 1) := bdX8_takeUp_0.2.2.2.2.1
theorem dX8_takeUp_5 : decode cX8_takeUp 5 = .ok (.bipush 8, 2) := bdX8_takeUp_0.2.2.2.2.2.1
theorem dX8_takeUp_7 : decode cX8_takeUp 7 = .ok (.if_icmp .ge 49, 3) := bdX8_takeUp_0.2.2.2.2.2.2.1
theorem dX8_takeUp_10 : decode cX8_takeUp 10 = .ok (.aload_n 0, 1) := bdX8_takeUp_0.2.2.2.2.2.2.2
theorem bdX8_takeUp_11 : decode cX8_takeUp 11 = .ok (.getfield 44, 3) ∧ decode cX8_takeUp 14 = .ok (.bipush 13, 2) ∧ decode cX8_takeUp 16 = .ok (.iload_n 2, 1) ∧ decode cX8_takeUp 17 = .ok (.iadd, 1) ∧ decode cX8_takeUp 18 = .ok (.aload_n 0, 1) ∧ decode cX8_takeUp 19 = .ok (.getfield 44, 3) ∧ decode cX8_takeUp 22 = .ok (.bipush 13, 2) ∧ decode cX8_takeUp 24 = .ok (.iload_n 2, 1) := by decide +kernel
theorem dX8_takeUp_11 : decode cX8_takeUp 11 = .ok (.getfield 44, 3) := bdX8_takeUp_11.1
theorem dX8_takeUp_14 : decode cX8_takeUp 14 = .ok (.bipush 13, 2) := bdX8_takeUp_11.2.1
theorem dX8_takeUp_16 : decode cX8_takeUp 16 = .ok (.iload_n 2, 1) := bdX8_takeUp_11.2.2.1
theorem dX8_takeUp_17 : decode cX8_takeUp 17 = .ok (.iadd, 1) := bdX8_takeUp_11.2.2.2.1
theorem dX8_takeUp_18 : decode cX8_takeUp 18 = .ok (.aload_n 0, 1) := bdX8_takeUp_11.2.2.2.2.1
theorem dX8_takeUp_19 : decode cX8_takeUp 19 = .ok (.getfield 44, 3) := bdX8_takeUp_11.2.2.2.2.2.1
theorem dX8_takeUp_22 : decode cX8_takeUp 22 = .ok (.bipush 13, 2) := bdX8_takeUp_11.2.2.2.2.2.2.1
theorem dX8_takeUp_24 : decode cX8_takeUp 24 = .ok (.iload_n 2, 1) := bdX8_takeUp_11.2.2.2.2.2.2.2
theorem bdX8_takeUp_25 : decode cX8_takeUp 25 = .ok (.iadd, 1) ∧ decode cX8_takeUp 26 = .ok (.iconst 1, 1) ∧ decode cX8_takeUp 27 = .ok (.iadd, 1) ∧ decode cX8_takeUp 28 = .ok (.iaload, 1) ∧ decode cX8_takeUp 29 = .ok (.iastore, 1) ∧ decode cX8_takeUp 30 = .ok (.aload_n 0, 1) ∧ decode cX8_takeUp 31 = .ok (.getfield 44, 3) ∧ decode cX8_takeUp 34 = .ok (.bipush 21, 2) := by decide +kernel
theorem dX8_takeUp_25 : decode cX8_takeUp 25 = .ok (.iadd, 1) := bdX8_takeUp_25.1
theorem dX8_takeUp_26 : decode cX8_takeUp 26 = .ok (.iconst 1, 1) := bdX8_takeUp_25.2.1
theorem dX8_takeUp_27 : decode cX8_takeUp 27 = .ok (.iadd, 1) := bdX8_takeUp_25.2.2.1
theorem dX8_takeUp_28 : decode cX8_takeUp 28 = .ok (.iaload, 1) := bdX8_takeUp_25.2.2.2.1
theorem dX8_takeUp_29 : decode cX8_takeUp 29 = .ok (.iastore, 1) := bdX8_takeUp_25.2.2.2.2.1
theorem dX8_takeUp_30 : decode cX8_takeUp 30 = .ok (.aload_n 0, 1) := bdX8_takeUp_25.2.2.2.2.2.1
theorem dX8_takeUp_31 : decode cX8_takeUp 31 = .ok (.getfield 44, 3) := bdX8_takeUp_25.2.2.2.2.2.2.1
theorem dX8_takeUp_34 : decode cX8_takeUp 34 = .ok (.bipush 21, 2) := bdX8_takeUp_25.2.2.2.2.2.2.2
theorem bdX8_takeUp_36 : decode cX8_takeUp 36 = .ok (.iload_n 2, 1) ∧ decode cX8_takeUp 37 = .ok (.iadd, 1) ∧ decode cX8_takeUp 38 = .ok (.aload_n 0, 1) ∧ decode cX8_takeUp 39 = .ok (.getfield 44, 3) ∧ decode cX8_takeUp 42 = .ok (.bipush 21, 2) ∧ decode cX8_takeUp 44 = .ok (.iload_n 2, 1) ∧ decode cX8_takeUp 45 = .ok (.iadd, 1) ∧ decode cX8_takeUp 46 = .ok (.iconst 1, 1) := by decide +kernel
theorem dX8_takeUp_36 : decode cX8_takeUp 36 = .ok (.iload_n 2, 1) := bdX8_takeUp_36.1
theorem dX8_takeUp_37 : decode cX8_takeUp 37 = .ok (.iadd, 1) := bdX8_takeUp_36.2.1
theorem dX8_takeUp_38 : decode cX8_takeUp 38 = .ok (.aload_n 0, 1) := bdX8_takeUp_36.2.2.1
theorem dX8_takeUp_39 : decode cX8_takeUp 39 = .ok (.getfield 44, 3) := bdX8_takeUp_36.2.2.2.1
theorem dX8_takeUp_42 : decode cX8_takeUp 42 = .ok (.bipush 21, 2) := bdX8_takeUp_36.2.2.2.2.1
theorem dX8_takeUp_44 : decode cX8_takeUp 44 = .ok (.iload_n 2, 1) := bdX8_takeUp_36.2.2.2.2.2.1
theorem dX8_takeUp_45 : decode cX8_takeUp 45 = .ok (.iadd, 1) := bdX8_takeUp_36.2.2.2.2.2.2.1
theorem dX8_takeUp_46 : decode cX8_takeUp 46 = .ok (.iconst 1, 1) := bdX8_takeUp_36.2.2.2.2.2.2.2
theorem bdX8_takeUp_47 : decode cX8_takeUp 47 = .ok (.iadd, 1) ∧ decode cX8_takeUp 48 = .ok (.iaload, 1) ∧ decode cX8_takeUp 49 = .ok (.iastore, 1) ∧ decode cX8_takeUp 50 = .ok (.iinc 2 1, 3) ∧ decode cX8_takeUp 53 = .ok (.goto (-51), 3) ∧ decode cX8_takeUp 56 = .ok (.aload_n 0, 1) ∧ decode cX8_takeUp 57 = .ok (.getfield 44, 3) ∧ decode cX8_takeUp 60 = .ok (.bipush 20, 2) := by decide +kernel
theorem dX8_takeUp_47 : decode cX8_takeUp 47 = .ok (.iadd, 1) := bdX8_takeUp_47.1
theorem dX8_takeUp_48 : decode cX8_takeUp 48 = .ok (.iaload, 1) := bdX8_takeUp_47.2.1
theorem dX8_takeUp_49 : decode cX8_takeUp 49 = .ok (.iastore, 1) := bdX8_takeUp_47.2.2.1
theorem dX8_takeUp_50 : decode cX8_takeUp 50 = .ok (.iinc 2 1, 3) := bdX8_takeUp_47.2.2.2.1
theorem dX8_takeUp_53 : decode cX8_takeUp 53 = .ok (.goto (-51), 3) := bdX8_takeUp_47.2.2.2.2.1
theorem dX8_takeUp_56 : decode cX8_takeUp 56 = .ok (.aload_n 0, 1) := bdX8_takeUp_47.2.2.2.2.2.1
theorem dX8_takeUp_57 : decode cX8_takeUp 57 = .ok (.getfield 44, 3) := bdX8_takeUp_47.2.2.2.2.2.2.1
theorem dX8_takeUp_60 : decode cX8_takeUp 60 = .ok (.bipush 20, 2) := bdX8_takeUp_47.2.2.2.2.2.2.2
theorem bdX8_takeUp_62 : decode cX8_takeUp 62 = .ok (.iconst 0, 1) ∧ decode cX8_takeUp 63 = .ok (.iastore, 1) ∧ decode cX8_takeUp 64 = .ok (.aload_n 0, 1) ∧ decode cX8_takeUp 65 = .ok (.getfield 44, 3) ∧ decode cX8_takeUp 68 = .ok (.bipush 28, 2) ∧ decode cX8_takeUp 70 = .ok (.iconst 0, 1) ∧ decode cX8_takeUp 71 = .ok (.iastore, 1) ∧ decode cX8_takeUp 72 = .ok (.aload_n 0, 1) := by decide +kernel
theorem dX8_takeUp_62 : decode cX8_takeUp 62 = .ok (.iconst 0, 1) := bdX8_takeUp_62.1
theorem dX8_takeUp_63 : decode cX8_takeUp 63 = .ok (.iastore, 1) := bdX8_takeUp_62.2.1
theorem dX8_takeUp_64 : decode cX8_takeUp 64 = .ok (.aload_n 0, 1) := bdX8_takeUp_62.2.2.1
theorem dX8_takeUp_65 : decode cX8_takeUp 65 = .ok (.getfield 44, 3) := bdX8_takeUp_62.2.2.2.1
theorem dX8_takeUp_68 : decode cX8_takeUp 68 = .ok (.bipush 28, 2) := bdX8_takeUp_62.2.2.2.2.1
theorem dX8_takeUp_70 : decode cX8_takeUp 70 = .ok (.iconst 0, 1) := bdX8_takeUp_62.2.2.2.2.2.1
theorem dX8_takeUp_71 : decode cX8_takeUp 71 = .ok (.iastore, 1) := bdX8_takeUp_62.2.2.2.2.2.2.1
theorem dX8_takeUp_72 : decode cX8_takeUp 72 = .ok (.aload_n 0, 1) := bdX8_takeUp_62.2.2.2.2.2.2.2
theorem bdX8_takeUp_73 : decode cX8_takeUp 73 = .ok (.getfield 44, 3) ∧ decode cX8_takeUp 76 = .ok (.bipush 12, 2) ∧ decode cX8_takeUp 78 = .ok (.dup2, 1) ∧ decode cX8_takeUp 79 = .ok (.iaload, 1) ∧ decode cX8_takeUp 80 = .ok (.iconst 1, 1) ∧ decode cX8_takeUp 81 = .ok (.isub, 1) ∧ decode cX8_takeUp 82 = .ok (.iastore, 1) ∧ decode cX8_takeUp 83 = .ok (.return_, 1) := by decide +kernel
theorem dX8_takeUp_73 : decode cX8_takeUp 73 = .ok (.getfield 44, 3) := bdX8_takeUp_73.1
theorem dX8_takeUp_76 : decode cX8_takeUp 76 = .ok (.bipush 12, 2) := bdX8_takeUp_73.2.1
theorem dX8_takeUp_78 : decode cX8_takeUp 78 = .ok (.dup2, 1) := bdX8_takeUp_73.2.2.1
theorem dX8_takeUp_79 : decode cX8_takeUp 79 = .ok (.iaload, 1) := bdX8_takeUp_73.2.2.2.1
theorem dX8_takeUp_80 : decode cX8_takeUp 80 = .ok (.iconst 1, 1) := bdX8_takeUp_73.2.2.2.2.1
theorem dX8_takeUp_81 : decode cX8_takeUp 81 = .ok (.isub, 1) := bdX8_takeUp_73.2.2.2.2.2.1
theorem dX8_takeUp_82 : decode cX8_takeUp 82 = .ok (.iastore, 1) := bdX8_takeUp_73.2.2.2.2.2.2.1
theorem dX8_takeUp_83 : decode cX8_takeUp 83 = .ok (.return_, 1) := bdX8_takeUp_73.2.2.2.2.2.2.2
set_option maxRecDepth 20000 in
set_option maxRecDepth 100000 in
theorem ggX8_lets_X8_isOne : GoodIn wsX8_lets wsX8_isOne := goodIn_hd (goodIn_c ch_X8_lets hc_X8_lets ([.code yX8_isOne cX8_isOne 2 (some .boolean)] : List Cond) [(1, 5)] rfl (by decide +kernel)) (goodIn_app (goodIn_c ch_X8_lets hc_X8_lets ([.fieldLink RX8 13 "WordFletchersModel" "people" "[I", .methodLink RX8 72 yX8_in, .static yX8_in, .initialized RX8, .code yX8_in cX8_in 3 (some .boolean)] : List Cond) [(1, 6), (1, 7), (1, 8), (1, 4), (1, 9)] rfl (by decide +kernel)) (goodIn_sub (fun _ h => (List.mem_cons_of_mem _ (List.mem_append_right _ h))) gwX8))
set_option maxRecDepth 20000 in
theorem gX8_lets_X8_isOne : GoodIn wsX8_lets (wsV RX8 142 RX8 yX8_isOne wsX8_isOne) := goodIn_app (goodIn_of _ (by decide +kernel)) ggX8_lets_X8_isOne
set_option maxRecDepth 20000 in
set_option maxRecDepth 100000 in
theorem ggX8_lets_X8_isSaying : GoodIn wsX8_lets wsX8_isSaying := goodIn_hd (goodIn_c ch_X8_lets hc_X8_lets ([.code yX8_isSaying cX8_isSaying 2 (some .boolean)] : List Cond) [(1, 13)] rfl (by decide +kernel)) (goodIn_app (goodIn_c ch_X8_lets hc_X8_lets ([.fieldLink RX8 23 "WordFletchersModel" "sayings" "[I", .methodLink RX8 72 yX8_in, .static yX8_in, .initialized RX8, .code yX8_in cX8_in 3 (some .boolean)] : List Cond) [(1, 14), (1, 7), (1, 8), (1, 4), (1, 9)] rfl (by decide +kernel)) (goodIn_sub (fun _ h => (List.mem_cons_of_mem _ (List.mem_append_right _ h))) gwX8))
set_option maxRecDepth 20000 in
theorem gX8_lets_X8_isSaying : GoodIn wsX8_lets (wsV RX8 148 RX8 yX8_isSaying wsX8_isSaying) := goodIn_app (goodIn_of _ (by decide +kernel)) ggX8_lets_X8_isSaying
set_option maxRecDepth 20000 in
set_option maxRecDepth 100000 in
theorem ggX8_lets_X8_isShot : GoodIn wsX8_lets wsX8_isShot := goodIn_hd (goodIn_c ch_X8_lets hc_X8_lets ([.code yX8_isShot cX8_isShot 3 (some .boolean)] : List Cond) [(1, 17)] rfl (by decide +kernel)) (goodIn_c ch_X8_lets hc_X8_lets ([.methodLink RX8 72 yX8_in, .static yX8_in, .initialized RX8, .code yX8_in cX8_in 3 (some .boolean)] : List Cond) [(1, 7), (1, 8), (1, 4), (1, 9)] rfl (by decide +kernel))
set_option maxRecDepth 20000 in
theorem gX8_lets_X8_isShot : GoodIn wsX8_lets (va_wsS RX8 155 yX8_isShot wsX8_isShot) := goodIn_app (goodIn_of _ (by decide +kernel)) ggX8_lets_X8_isShot
set_option maxRecDepth 20000 in
set_option maxRecDepth 100000 in
theorem ggX8_lets_X8_has : GoodIn wsX8_lets wsX8_has := goodIn_hd (goodIn_c ch_X8_lets hc_X8_lets ([.code yX8_has cX8_has 2 (some .boolean)] : List Cond) [(1, 20)] rfl (by decide +kernel)) (goodIn_c ch_X8_lets hc_X8_lets ([] : List Cond) [] rfl (by decide +kernel))
set_option maxRecDepth 20000 in
theorem gX8_lets_X8_has : GoodIn wsX8_lets (va_wsS RX8 145 yX8_has wsX8_has) := goodIn_app (goodIn_of _ (by decide +kernel)) ggX8_lets_X8_has
set_option maxRecDepth 20000 in
set_option maxRecDepth 100000 in
theorem ggX8_lets_X8_know : GoodIn wsX8_lets wsX8_know := goodIn_hd (goodIn_c ch_X8_lets hc_X8_lets ([.code yX8_know cX8_know 2 none] : List Cond) [(2, 0)] rfl (by decide +kernel)) (goodIn_app (goodIn_c ch_X8_lets hc_X8_lets ([.fieldLink RX8 47 "WordFletchersModel" "known" "[I", .fieldLink RX8 50 "WordFletchersModel" "before" "[I", .fieldLink RX8 44 "WordFletchersModel" "now" "[I"] : List Cond) [(2, 1), (2, 2), (1, 0)] rfl (by decide +kernel)) (goodIn_sub (fun _ h => (List.mem_cons_of_mem _ (List.mem_append_right _ h))) gwX8))
set_option maxRecDepth 20000 in
theorem gX8_lets_X8_know : GoodIn wsX8_lets (wsV RX8 158 RX8 yX8_know wsX8_know) := goodIn_app (goodIn_of _ (by decide +kernel)) ggX8_lets_X8_know
set_option maxRecDepth 20000 in
set_option maxRecDepth 100000 in
theorem ggX8_lets_X8_windIn : GoodIn wsX8_lets wsX8_windIn := goodIn_hd (goodIn_c ch_X8_lets hc_X8_lets ([.code yX8_windIn cX8_windIn 2 (some .int)] : List Cond) [(2, 6)] rfl (by decide +kernel)) (goodIn_app (goodIn_c ch_X8_lets hc_X8_lets ([.fieldLink RX8 38 "WordFletchersModel" "wind" "[I", .fieldLink RX8 44 "WordFletchersModel" "now" "[I", .fieldLink RX8 35 "WordFletchersModel" "winds" "[I"] : List Cond) [(2, 7), (1, 0), (2, 8)] rfl (by decide +kernel)) (goodIn_sub (fun _ h => (List.mem_cons_of_mem _ (List.mem_append_right _ h))) gwX8))
set_option maxRecDepth 20000 in
theorem gX8_lets_X8_windIn : GoodIn wsX8_lets (wsV RX8 151 RX8 yX8_windIn wsX8_windIn) := goodIn_app (goodIn_of _ (by decide +kernel)) ggX8_lets_X8_windIn
set_option maxRecDepth 20000 in
set_option maxRecDepth 100000 in
theorem ggX8_lets_X8_landsBy : GoodIn wsX8_lets wsX8_landsBy := goodIn_hd (goodIn_c ch_X8_lets hc_X8_lets ([.code yX8_landsBy cX8_landsBy 11 (some .int)] : List Cond) [(2, 12)] rfl (by decide +kernel)) (goodIn_app (goodIn_c ch_X8_lets hc_X8_lets ([.fieldLink RX8 29 "WordFletchersModel" "twist" "[I", .fieldLink RX8 26 "WordFletchersModel" "weight" "[I", .fieldLink RX8 44 "WordFletchersModel" "now" "[I", .fieldLink RX8 17 "WordFletchersModel" "place" "[I", .methodLink RX8 134 yX8_liftOf, .static yX8_liftOf, .initialized RX8, .code yX8_liftOf cX8_liftOf 1 (some .int), .methodLink RX8 72 yX8_in, .static yX8_in, .code yX8_in cX8_in 3 (some .boolean)] : List Cond) [(2, 13), (2, 14), (1, 0), (2, 15), (2, 16), (2, 17), (1, 4), (2, 18), (1, 7), (1, 8), (1, 9)] rfl (by decide +kernel)) (goodIn_sub (fun _ h => (List.mem_cons_of_mem _ (List.mem_append_right _ h))) gwX8))
set_option maxRecDepth 20000 in
theorem gX8_lets_X8_landsBy : GoodIn wsX8_lets (wsV RX8 161 RX8 yX8_landsBy wsX8_landsBy) := goodIn_app (goodIn_of _ (by decide +kernel)) ggX8_lets_X8_landsBy
set_option maxRecDepth 20000 in
set_option maxRecDepth 100000 in
theorem ggX8_lets_X8_hearersOf : GoodIn wsX8_lets wsX8_hearersOf := goodIn_hd (goodIn_c ch_X8_lets hc_X8_lets ([.code yX8_hearersOf cX8_hearersOf 5 (some .int)] : List Cond) [(2, 22)] rfl (by decide +kernel)) (goodIn_app (goodIn_c ch_X8_lets hc_X8_lets ([.fieldLink RX8 13 "WordFletchersModel" "people" "[I", .methodLink RX8 138 yX8_doesHear, .instanceMethod yX8_doesHear, .selects RX8 yX8_doesHear yX8_doesHear, .initialized RX8, .code yX8_doesHear cX8_doesHear 4 (some .boolean), .fieldLink RX8 17 "WordFletchersModel" "place" "[I", .fieldLink RX8 20 "WordFletchersModel" "ear" "[I"] : List Cond) [(1, 6), (2, 23), (3, 0), (3, 1), (1, 4), (3, 2), (2, 15), (3, 3)] rfl (by decide +kernel)) (goodIn_sub (fun _ h => (List.mem_cons_of_mem _ (List.mem_append_right _ h))) gwX8))
set_option maxRecDepth 20000 in
theorem gX8_lets_X8_hearersOf : GoodIn wsX8_lets (wsV RX8 165 RX8 yX8_hearersOf wsX8_hearersOf) := goodIn_app (goodIn_of _ (by decide +kernel)) ggX8_lets_X8_hearersOf
set_option maxRecDepth 20000 in
set_option maxRecDepth 100000 in
theorem ggX8_lets_X8_takeUp : GoodIn wsX8_lets wsX8_takeUp := goodIn_hd (goodIn_c ch_X8_lets hc_X8_lets ([.code yX8_takeUp cX8_takeUp 3 none] : List Cond) [(3, 7)] rfl (by decide +kernel)) (goodIn_app (goodIn_c ch_X8_lets hc_X8_lets ([.fieldLink RX8 44 "WordFletchersModel" "now" "[I"] : List Cond) [(1, 0)] rfl (by decide +kernel)) (goodIn_sub (fun _ h => (List.mem_cons_of_mem _ (List.mem_append_right _ h))) gwX8))
set_option maxRecDepth 20000 in
theorem gX8_lets_X8_takeUp : GoodIn wsX8_lets (wsV RX8 168 RX8 yX8_takeUp wsX8_takeUp) := goodIn_app (goodIn_of _ (by decide +kernel)) ggX8_lets_X8_takeUp
theorem bdX8_lets_0 : decode cX8_lets 0 = .ok (.aload_n 0, 1) ∧ decode cX8_lets 1 = .ok (.iload_n 1, 1) ∧ decode cX8_lets 2 = .ok (.invokevirtual 142, 3) ∧ decode cX8_lets 5 = .ok (.ifCond .eq 22, 3) ∧ decode cX8_lets 8 = .ok (.aload_n 0, 1) ∧ decode cX8_lets 9 = .ok (.iload_n 2, 1) ∧ decode cX8_lets 10 = .ok (.invokevirtual 148, 3) ∧ decode cX8_lets 13 = .ok (.ifCond .eq 14, 3) := by decide +kernel
theorem dX8_lets_0 : decode cX8_lets 0 = .ok (.aload_n 0, 1) := bdX8_lets_0.1
theorem dX8_lets_1 : decode cX8_lets 1 = .ok (.iload_n 1, 1) := bdX8_lets_0.2.1
theorem dX8_lets_2 : decode cX8_lets 2 = .ok (.invokevirtual 142, 3) := bdX8_lets_0.2.2.1
theorem dX8_lets_5 : decode cX8_lets 5 = .ok (.ifCond .eq 22, 3) := bdX8_lets_0.2.2.2.1
theorem dX8_lets_8 : decode cX8_lets 8 = .ok (.aload_n 0, 1) := bdX8_lets_0.2.2.2.2.1
theorem dX8_lets_9 : decode cX8_lets 9 = .ok (.iload_n 2, 1) := bdX8_lets_0.2.2.2.2.2.1
theorem dX8_lets_10 : decode cX8_lets 10 = .ok (.invokevirtual 148, 3) := bdX8_lets_0.2.2.2.2.2.2.1
theorem dX8_lets_13 : decode cX8_lets 13 = .ok (.ifCond .eq 14, 3) := bdX8_lets_0.2.2.2.2.2.2.2
theorem bdX8_lets_16 : decode cX8_lets 16 = .ok (.iload_n 3, 1) ∧ decode cX8_lets 17 = .ok (.iload 4, 2) ∧ decode cX8_lets 19 = .ok (.iload 5, 2) ∧ decode cX8_lets 21 = .ok (.invokestatic 155, 3) ∧ decode cX8_lets 24 = .ok (.ifCond .ne 5, 3) ∧ decode cX8_lets 27 = .ok (.iconst (-1), 1) ∧ decode cX8_lets 28 = .ok (.ireturn, 1) ∧ decode cX8_lets 29 = .ok (.aload_n 0, 1) := by decide +kernel
theorem dX8_lets_16 : decode cX8_lets 16 = .ok (.iload_n 3, 1) := bdX8_lets_16.1
theorem dX8_lets_17 : decode cX8_lets 17 = .ok (.iload 4, 2) := bdX8_lets_16.2.1
theorem dX8_lets_19 : decode cX8_lets 19 = .ok (.iload 5, 2) := bdX8_lets_16.2.2.1
theorem dX8_lets_21 : decode cX8_lets 21 = .ok (.invokestatic 155, 3) := bdX8_lets_16.2.2.2.1
theorem dX8_lets_24 : decode cX8_lets 24 = .ok (.ifCond .ne 5, 3) := bdX8_lets_16.2.2.2.2.1
theorem dX8_lets_27 : decode cX8_lets 27 = .ok (.iconst (-1), 1) := bdX8_lets_16.2.2.2.2.2.1
theorem dX8_lets_28 : decode cX8_lets 28 = .ok (.ireturn, 1) := bdX8_lets_16.2.2.2.2.2.2.1
theorem dX8_lets_29 : decode cX8_lets 29 = .ok (.aload_n 0, 1) := bdX8_lets_16.2.2.2.2.2.2.2
theorem bdX8_lets_30 : decode cX8_lets 30 = .ok (.getfield 44, 3) ∧ decode cX8_lets 33 = .ok (.bipush 6, 2) ∧ decode cX8_lets 35 = .ok (.iload_n 2, 1) ∧ decode cX8_lets 36 = .ok (.iadd, 1) ∧ decode cX8_lets 37 = .ok (.iaload, 1) ∧ decode cX8_lets 38 = .ok (.iload_n 1, 1) ∧ decode cX8_lets 39 = .ok (.invokestatic 145, 3) ∧ decode cX8_lets 42 = .ok (.ifCond .eq 16, 3) := by decide +kernel
theorem dX8_lets_30 : decode cX8_lets 30 = .ok (.getfield 44, 3) := bdX8_lets_30.1
theorem dX8_lets_33 : decode cX8_lets 33 = .ok (.bipush 6, 2) := bdX8_lets_30.2.1
theorem dX8_lets_35 : decode cX8_lets 35 = .ok (.iload_n 2, 1) := bdX8_lets_30.2.2.1
theorem dX8_lets_36 : decode cX8_lets 36 = .ok (.iadd, 1) := bdX8_lets_30.2.2.2.1
theorem dX8_lets_37 : decode cX8_lets 37 = .ok (.iaload, 1) := bdX8_lets_30.2.2.2.2.1
theorem dX8_lets_38 : decode cX8_lets 38 = .ok (.iload_n 1, 1) := bdX8_lets_30.2.2.2.2.2.1
theorem dX8_lets_39 : decode cX8_lets 39 = .ok (.invokestatic 145, 3) := bdX8_lets_30.2.2.2.2.2.2.1
theorem dX8_lets_42 : decode cX8_lets 42 = .ok (.ifCond .eq 16, 3) := bdX8_lets_30.2.2.2.2.2.2.2
theorem bdX8_lets_45 : decode cX8_lets 45 = .ok (.aload_n 0, 1) ∧ decode cX8_lets 46 = .ok (.getfield 44, 3) ∧ decode cX8_lets 49 = .ok (.iconst 2, 1) ∧ decode cX8_lets 50 = .ok (.iload_n 3, 1) ∧ decode cX8_lets 51 = .ok (.iadd, 1) ∧ decode cX8_lets 52 = .ok (.iaload, 1) ∧ decode cX8_lets 53 = .ok (.iload 4, 2) ∧ decode cX8_lets 55 = .ok (.if_icmp .ge 6, 3) := by decide +kernel
theorem dX8_lets_45 : decode cX8_lets 45 = .ok (.aload_n 0, 1) := bdX8_lets_45.1
theorem dX8_lets_46 : decode cX8_lets 46 = .ok (.getfield 44, 3) := bdX8_lets_45.2.1
theorem dX8_lets_49 : decode cX8_lets 49 = .ok (.iconst 2, 1) := bdX8_lets_45.2.2.1
theorem dX8_lets_50 : decode cX8_lets 50 = .ok (.iload_n 3, 1) := bdX8_lets_45.2.2.2.1
theorem dX8_lets_51 : decode cX8_lets 51 = .ok (.iadd, 1) := bdX8_lets_45.2.2.2.2.1
theorem dX8_lets_52 : decode cX8_lets 52 = .ok (.iaload, 1) := bdX8_lets_45.2.2.2.2.2.1
theorem dX8_lets_53 : decode cX8_lets 53 = .ok (.iload 4, 2) := bdX8_lets_45.2.2.2.2.2.2.1
theorem dX8_lets_55 : decode cX8_lets 55 = .ok (.if_icmp .ge 6, 3) := bdX8_lets_45.2.2.2.2.2.2.2
theorem bdX8_lets_58 : decode cX8_lets 58 = .ok (.bipush (-2), 2) ∧ decode cX8_lets 60 = .ok (.ireturn, 1) ∧ decode cX8_lets 61 = .ok (.aload_n 0, 1) ∧ decode cX8_lets 62 = .ok (.invokevirtual 158, 3) ∧ decode cX8_lets 65 = .ok (.aload_n 0, 1) ∧ decode cX8_lets 66 = .ok (.getfield 44, 3) ∧ decode cX8_lets 69 = .ok (.iconst 2, 1) ∧ decode cX8_lets 70 = .ok (.iload_n 3, 1) := by decide +kernel
theorem dX8_lets_58 : decode cX8_lets 58 = .ok (.bipush (-2), 2) := bdX8_lets_58.1
theorem dX8_lets_60 : decode cX8_lets 60 = .ok (.ireturn, 1) := bdX8_lets_58.2.1
theorem dX8_lets_61 : decode cX8_lets 61 = .ok (.aload_n 0, 1) := bdX8_lets_58.2.2.1
theorem dX8_lets_62 : decode cX8_lets 62 = .ok (.invokevirtual 158, 3) := bdX8_lets_58.2.2.2.1
theorem dX8_lets_65 : decode cX8_lets 65 = .ok (.aload_n 0, 1) := bdX8_lets_58.2.2.2.2.1
theorem dX8_lets_66 : decode cX8_lets 66 = .ok (.getfield 44, 3) := bdX8_lets_58.2.2.2.2.2.1
theorem dX8_lets_69 : decode cX8_lets 69 = .ok (.iconst 2, 1) := bdX8_lets_58.2.2.2.2.2.2.1
theorem dX8_lets_70 : decode cX8_lets 70 = .ok (.iload_n 3, 1) := bdX8_lets_58.2.2.2.2.2.2.2
theorem bdX8_lets_71 : decode cX8_lets 71 = .ok (.iadd, 1) ∧ decode cX8_lets 72 = .ok (.dup2, 1) ∧ decode cX8_lets 73 = .ok (.iaload, 1) ∧ decode cX8_lets 74 = .ok (.iload 4, 2) ∧ decode cX8_lets 76 = .ok (.isub, 1) ∧ decode cX8_lets 77 = .ok (.iastore, 1) ∧ decode cX8_lets 78 = .ok (.aload_n 0, 1) ∧ decode cX8_lets 79 = .ok (.iload_n 1, 1) := by decide +kernel
theorem dX8_lets_71 : decode cX8_lets 71 = .ok (.iadd, 1) := bdX8_lets_71.1
theorem dX8_lets_72 : decode cX8_lets 72 = .ok (.dup2, 1) := bdX8_lets_71.2.1
theorem dX8_lets_73 : decode cX8_lets 73 = .ok (.iaload, 1) := bdX8_lets_71.2.2.1
theorem dX8_lets_74 : decode cX8_lets 74 = .ok (.iload 4, 2) := bdX8_lets_71.2.2.2.1
theorem dX8_lets_76 : decode cX8_lets 76 = .ok (.isub, 1) := bdX8_lets_71.2.2.2.2.1
theorem dX8_lets_77 : decode cX8_lets 77 = .ok (.iastore, 1) := bdX8_lets_71.2.2.2.2.2.1
theorem dX8_lets_78 : decode cX8_lets 78 = .ok (.aload_n 0, 1) := bdX8_lets_71.2.2.2.2.2.2.1
theorem dX8_lets_79 : decode cX8_lets 79 = .ok (.iload_n 1, 1) := bdX8_lets_71.2.2.2.2.2.2.2
theorem bdX8_lets_80 : decode cX8_lets 80 = .ok (.iload_n 2, 1) ∧ decode cX8_lets 81 = .ok (.iload_n 3, 1) ∧ decode cX8_lets 82 = .ok (.iload 4, 2) ∧ decode cX8_lets 84 = .ok (.iload 5, 2) ∧ decode cX8_lets 86 = .ok (.aload_n 0, 1) ∧ decode cX8_lets 87 = .ok (.iconst 0, 1) ∧ decode cX8_lets 88 = .ok (.invokevirtual 151, 3) ∧ decode cX8_lets 91 = .ok (.invokevirtual 161, 3) := by decide +kernel
theorem dX8_lets_80 : decode cX8_lets 80 = .ok (.iload_n 2, 1) := bdX8_lets_80.1
theorem dX8_lets_81 : decode cX8_lets 81 = .ok (.iload_n 3, 1) := bdX8_lets_80.2.1
theorem dX8_lets_82 : decode cX8_lets 82 = .ok (.iload 4, 2) := bdX8_lets_80.2.2.1
theorem dX8_lets_84 : decode cX8_lets 84 = .ok (.iload 5, 2) := bdX8_lets_80.2.2.2.1
theorem dX8_lets_86 : decode cX8_lets 86 = .ok (.aload_n 0, 1) := bdX8_lets_80.2.2.2.2.1
theorem dX8_lets_87 : decode cX8_lets 87 = .ok (.iconst 0, 1) := bdX8_lets_80.2.2.2.2.2.1
theorem dX8_lets_88 : decode cX8_lets 88 = .ok (.invokevirtual 151, 3) := bdX8_lets_80.2.2.2.2.2.2.1
theorem dX8_lets_91 : decode cX8_lets 91 = .ok (.invokevirtual 161, 3) := bdX8_lets_80.2.2.2.2.2.2.2
theorem bdX8_lets_94 : decode cX8_lets 94 = .ok (.istore 6, 2) ∧ decode cX8_lets 96 = .ok (.aload_n 0, 1) ∧ decode cX8_lets 97 = .ok (.iload 6, 2) ∧ decode cX8_lets 99 = .ok (.iload_n 1, 1) ∧ decode cX8_lets 100 = .ok (.invokevirtual 165, 3) ∧ decode cX8_lets 103 = .ok (.istore 7, 2) ∧ decode cX8_lets 105 = .ok (.aload_n 0, 1) ∧ decode cX8_lets 106 = .ok (.getfield 44, 3) := by decide +kernel
theorem dX8_lets_94 : decode cX8_lets 94 = .ok (.istore 6, 2) := bdX8_lets_94.1
theorem dX8_lets_96 : decode cX8_lets 96 = .ok (.aload_n 0, 1) := bdX8_lets_94.2.1
theorem dX8_lets_97 : decode cX8_lets 97 = .ok (.iload 6, 2) := bdX8_lets_94.2.2.1
theorem dX8_lets_99 : decode cX8_lets 99 = .ok (.iload_n 1, 1) := bdX8_lets_94.2.2.2.1
theorem dX8_lets_100 : decode cX8_lets 100 = .ok (.invokevirtual 165, 3) := bdX8_lets_94.2.2.2.2.1
theorem dX8_lets_103 : decode cX8_lets 103 = .ok (.istore 7, 2) := bdX8_lets_94.2.2.2.2.2.1
theorem dX8_lets_105 : decode cX8_lets 105 = .ok (.aload_n 0, 1) := bdX8_lets_94.2.2.2.2.2.2.1
theorem dX8_lets_106 : decode cX8_lets 106 = .ok (.getfield 44, 3) := bdX8_lets_94.2.2.2.2.2.2.2
theorem bdX8_lets_109 : decode cX8_lets 109 = .ok (.bipush 6, 2) ∧ decode cX8_lets 111 = .ok (.iload_n 2, 1) ∧ decode cX8_lets 112 = .ok (.iadd, 1) ∧ decode cX8_lets 113 = .ok (.dup2, 1) ∧ decode cX8_lets 114 = .ok (.iaload, 1) ∧ decode cX8_lets 115 = .ok (.iload 7, 2) ∧ decode cX8_lets 117 = .ok (.ior, 1) ∧ decode cX8_lets 118 = .ok (.iastore, 1) := by decide +kernel
theorem dX8_lets_109 : decode cX8_lets 109 = .ok (.bipush 6, 2) := bdX8_lets_109.1
theorem dX8_lets_111 : decode cX8_lets 111 = .ok (.iload_n 2, 1) := bdX8_lets_109.2.1
theorem dX8_lets_112 : decode cX8_lets 112 = .ok (.iadd, 1) := bdX8_lets_109.2.2.1
theorem dX8_lets_113 : decode cX8_lets 113 = .ok (.dup2, 1) := bdX8_lets_109.2.2.2.1
theorem dX8_lets_114 : decode cX8_lets 114 = .ok (.iaload, 1) := bdX8_lets_109.2.2.2.2.1
theorem dX8_lets_115 : decode cX8_lets 115 = .ok (.iload 7, 2) := bdX8_lets_109.2.2.2.2.2.1
theorem dX8_lets_117 : decode cX8_lets 117 = .ok (.ior, 1) := bdX8_lets_109.2.2.2.2.2.2.1
theorem dX8_lets_118 : decode cX8_lets 118 = .ok (.iastore, 1) := bdX8_lets_109.2.2.2.2.2.2.2
theorem bdX8_lets_119 : decode cX8_lets 119 = .ok (.iload 7, 2) ∧ decode cX8_lets 121 = .ok (.ifCond .ne 71, 3) ∧ decode cX8_lets 124 = .ok (.iload 6, 2) ∧ decode cX8_lets 126 = .ok (.bipush (-9), 2) ∧ decode cX8_lets 128 = .ok (.if_icmp .eq 64, 3) ∧ decode cX8_lets 131 = .ok (.aload_n 0, 1) ∧ decode cX8_lets 132 = .ok (.getfield 44, 3) ∧ decode cX8_lets 135 = .ok (.bipush 12, 2) := by decide +kernel
theorem dX8_lets_119 : decode cX8_lets 119 = .ok (.iload 7, 2) := bdX8_lets_119.1
theorem dX8_lets_121 : decode cX8_lets 121 = .ok (.ifCond .ne 71, 3) := bdX8_lets_119.2.1
theorem dX8_lets_124 : decode cX8_lets 124 = .ok (.iload 6, 2) := bdX8_lets_119.2.2.1
theorem dX8_lets_126 : decode cX8_lets 126 = .ok (.bipush (-9), 2) := bdX8_lets_119.2.2.2.1
theorem dX8_lets_128 : decode cX8_lets 128 = .ok (.if_icmp .eq 64, 3) := bdX8_lets_119.2.2.2.2.1
theorem dX8_lets_131 : decode cX8_lets 131 = .ok (.aload_n 0, 1) := bdX8_lets_119.2.2.2.2.2.1
theorem dX8_lets_132 : decode cX8_lets 132 = .ok (.getfield 44, 3) := bdX8_lets_119.2.2.2.2.2.2.1
theorem dX8_lets_135 : decode cX8_lets 135 = .ok (.bipush 12, 2) := bdX8_lets_119.2.2.2.2.2.2.2
theorem bdX8_lets_137 : decode cX8_lets 137 = .ok (.iaload, 1) ∧ decode cX8_lets 138 = .ok (.bipush 8, 2) ∧ decode cX8_lets 140 = .ok (.if_icmp .ne 8, 3) ∧ decode cX8_lets 143 = .ok (.aload_n 0, 1) ∧ decode cX8_lets 144 = .ok (.iconst 0, 1) ∧ decode cX8_lets 145 = .ok (.invokevirtual 168, 3) ∧ decode cX8_lets 148 = .ok (.aload_n 0, 1) ∧ decode cX8_lets 149 = .ok (.getfield 44, 3) := by decide +kernel
theorem dX8_lets_137 : decode cX8_lets 137 = .ok (.iaload, 1) := bdX8_lets_137.1
theorem dX8_lets_138 : decode cX8_lets 138 = .ok (.bipush 8, 2) := bdX8_lets_137.2.1
theorem dX8_lets_140 : decode cX8_lets 140 = .ok (.if_icmp .ne 8, 3) := bdX8_lets_137.2.2.1
theorem dX8_lets_143 : decode cX8_lets 143 = .ok (.aload_n 0, 1) := bdX8_lets_137.2.2.2.1
theorem dX8_lets_144 : decode cX8_lets 144 = .ok (.iconst 0, 1) := bdX8_lets_137.2.2.2.2.1
theorem dX8_lets_145 : decode cX8_lets 145 = .ok (.invokevirtual 168, 3) := bdX8_lets_137.2.2.2.2.2.1
theorem dX8_lets_148 : decode cX8_lets 148 = .ok (.aload_n 0, 1) := bdX8_lets_137.2.2.2.2.2.2.1
theorem dX8_lets_149 : decode cX8_lets 149 = .ok (.getfield 44, 3) := bdX8_lets_137.2.2.2.2.2.2.2
theorem bdX8_lets_152 : decode cX8_lets 152 = .ok (.bipush 13, 2) ∧ decode cX8_lets 154 = .ok (.aload_n 0, 1) ∧ decode cX8_lets 155 = .ok (.getfield 44, 3) ∧ decode cX8_lets 158 = .ok (.bipush 12, 2) ∧ decode cX8_lets 160 = .ok (.iaload, 1) ∧ decode cX8_lets 161 = .ok (.iadd, 1) ∧ decode cX8_lets 162 = .ok (.iload_n 2, 1) ∧ decode cX8_lets 163 = .ok (.iastore, 1) := by decide +kernel
theorem dX8_lets_152 : decode cX8_lets 152 = .ok (.bipush 13, 2) := bdX8_lets_152.1
theorem dX8_lets_154 : decode cX8_lets 154 = .ok (.aload_n 0, 1) := bdX8_lets_152.2.1
theorem dX8_lets_155 : decode cX8_lets 155 = .ok (.getfield 44, 3) := bdX8_lets_152.2.2.1
theorem dX8_lets_158 : decode cX8_lets 158 = .ok (.bipush 12, 2) := bdX8_lets_152.2.2.2.1
theorem dX8_lets_160 : decode cX8_lets 160 = .ok (.iaload, 1) := bdX8_lets_152.2.2.2.2.1
theorem dX8_lets_161 : decode cX8_lets 161 = .ok (.iadd, 1) := bdX8_lets_152.2.2.2.2.2.1
theorem dX8_lets_162 : decode cX8_lets 162 = .ok (.iload_n 2, 1) := bdX8_lets_152.2.2.2.2.2.2.1
theorem dX8_lets_163 : decode cX8_lets 163 = .ok (.iastore, 1) := bdX8_lets_152.2.2.2.2.2.2.2
theorem bdX8_lets_164 : decode cX8_lets 164 = .ok (.aload_n 0, 1) ∧ decode cX8_lets 165 = .ok (.getfield 44, 3) ∧ decode cX8_lets 168 = .ok (.bipush 21, 2) ∧ decode cX8_lets 170 = .ok (.aload_n 0, 1) ∧ decode cX8_lets 171 = .ok (.getfield 44, 3) ∧ decode cX8_lets 174 = .ok (.bipush 12, 2) ∧ decode cX8_lets 176 = .ok (.iaload, 1) ∧ decode cX8_lets 177 = .ok (.iadd, 1) := by decide +kernel
theorem dX8_lets_164 : decode cX8_lets 164 = .ok (.aload_n 0, 1) := bdX8_lets_164.1
theorem dX8_lets_165 : decode cX8_lets 165 = .ok (.getfield 44, 3) := bdX8_lets_164.2.1
theorem dX8_lets_168 : decode cX8_lets 168 = .ok (.bipush 21, 2) := bdX8_lets_164.2.2.1
theorem dX8_lets_170 : decode cX8_lets 170 = .ok (.aload_n 0, 1) := bdX8_lets_164.2.2.2.1
theorem dX8_lets_171 : decode cX8_lets 171 = .ok (.getfield 44, 3) := bdX8_lets_164.2.2.2.2.1
theorem dX8_lets_174 : decode cX8_lets 174 = .ok (.bipush 12, 2) := bdX8_lets_164.2.2.2.2.2.1
theorem dX8_lets_176 : decode cX8_lets 176 = .ok (.iaload, 1) := bdX8_lets_164.2.2.2.2.2.2.1
theorem dX8_lets_177 : decode cX8_lets 177 = .ok (.iadd, 1) := bdX8_lets_164.2.2.2.2.2.2.2
theorem bdX8_lets_178 : decode cX8_lets 178 = .ok (.iload 6, 2) ∧ decode cX8_lets 180 = .ok (.iastore, 1) ∧ decode cX8_lets 181 = .ok (.aload_n 0, 1) ∧ decode cX8_lets 182 = .ok (.getfield 44, 3) ∧ decode cX8_lets 185 = .ok (.bipush 12, 2) ∧ decode cX8_lets 187 = .ok (.dup2, 1) ∧ decode cX8_lets 188 = .ok (.iaload, 1) ∧ decode cX8_lets 189 = .ok (.iconst 1, 1) := by decide +kernel
theorem dX8_lets_178 : decode cX8_lets 178 = .ok (.iload 6, 2) := bdX8_lets_178.1
theorem dX8_lets_180 : decode cX8_lets 180 = .ok (.iastore, 1) := bdX8_lets_178.2.1
theorem dX8_lets_181 : decode cX8_lets 181 = .ok (.aload_n 0, 1) := bdX8_lets_178.2.2.1
theorem dX8_lets_182 : decode cX8_lets 182 = .ok (.getfield 44, 3) := bdX8_lets_178.2.2.2.1
theorem dX8_lets_185 : decode cX8_lets 185 = .ok (.bipush 12, 2) := bdX8_lets_178.2.2.2.2.1
theorem dX8_lets_187 : decode cX8_lets 187 = .ok (.dup2, 1) := bdX8_lets_178.2.2.2.2.2.1
theorem dX8_lets_188 : decode cX8_lets 188 = .ok (.iaload, 1) := bdX8_lets_178.2.2.2.2.2.2.1
theorem dX8_lets_189 : decode cX8_lets 189 = .ok (.iconst 1, 1) := bdX8_lets_178.2.2.2.2.2.2.2
theorem bdX8_lets_190 : decode cX8_lets 190 = .ok (.iadd, 1) ∧ decode cX8_lets 191 = .ok (.iastore, 1) ∧ decode cX8_lets 192 = .ok (.iload 7, 2) ∧ decode cX8_lets 194 = .ok (.ireturn, 1) := by decide +kernel
theorem dX8_lets_190 : decode cX8_lets 190 = .ok (.iadd, 1) := bdX8_lets_190.1
theorem dX8_lets_191 : decode cX8_lets 191 = .ok (.iastore, 1) := bdX8_lets_190.2.1
theorem dX8_lets_192 : decode cX8_lets 192 = .ok (.iload 7, 2) := bdX8_lets_190.2.2.1
theorem dX8_lets_194 : decode cX8_lets 194 = .ok (.ireturn, 1) := bdX8_lets_190.2.2.2
set_option maxRecDepth 20000 in
set_option maxRecDepth 100000 in
theorem ggX8_picks_X8_isOne : GoodIn wsX8_picks wsX8_isOne := goodIn_hd (goodIn_c ch_X8_picks hc_X8_picks ([.code yX8_isOne cX8_isOne 2 (some .boolean)] : List Cond) [(1, 6)] rfl (by decide +kernel)) (goodIn_app (goodIn_c ch_X8_picks hc_X8_picks ([.fieldLink RX8 13 "WordFletchersModel" "people" "[I", .methodLink RX8 72 yX8_in, .static yX8_in, .initialized RX8, .code yX8_in cX8_in 3 (some .boolean)] : List Cond) [(1, 7), (1, 8), (1, 9), (1, 5), (1, 10)] rfl (by decide +kernel)) (goodIn_sub (fun _ h => (List.mem_cons_of_mem _ (List.mem_append_right _ h))) gwX8))
set_option maxRecDepth 20000 in
theorem gX8_picks_X8_isOne : GoodIn wsX8_picks (wsV RX8 142 RX8 yX8_isOne wsX8_isOne) := goodIn_app (goodIn_of _ (by decide +kernel)) ggX8_picks_X8_isOne
set_option maxRecDepth 20000 in
set_option maxRecDepth 100000 in
theorem ggX8_picks_X8_know : GoodIn wsX8_picks wsX8_know := goodIn_hd (goodIn_c ch_X8_picks hc_X8_picks ([.code yX8_know cX8_know 2 none] : List Cond) [(1, 14)] rfl (by decide +kernel)) (goodIn_app (goodIn_c ch_X8_picks hc_X8_picks ([.fieldLink RX8 47 "WordFletchersModel" "known" "[I", .fieldLink RX8 50 "WordFletchersModel" "before" "[I", .fieldLink RX8 44 "WordFletchersModel" "now" "[I"] : List Cond) [(1, 15), (1, 16), (1, 0)] rfl (by decide +kernel)) (goodIn_sub (fun _ h => (List.mem_cons_of_mem _ (List.mem_append_right _ h))) gwX8))
set_option maxRecDepth 20000 in
theorem gX8_picks_X8_know : GoodIn wsX8_picks (wsV RX8 158 RX8 yX8_know wsX8_know) := goodIn_app (goodIn_of _ (by decide +kernel)) ggX8_picks_X8_know
set_option maxRecDepth 20000 in
set_option maxRecDepth 100000 in
theorem ggX8_picks_X8_takeUp : GoodIn wsX8_picks wsX8_takeUp := goodIn_hd (goodIn_c ch_X8_picks hc_X8_picks ([.code yX8_takeUp cX8_takeUp 3 none] : List Cond) [(1, 20)] rfl (by decide +kernel)) (goodIn_app (goodIn_c ch_X8_picks hc_X8_picks ([.fieldLink RX8 44 "WordFletchersModel" "now" "[I"] : List Cond) [(1, 0)] rfl (by decide +kernel)) (goodIn_sub (fun _ h => (List.mem_cons_of_mem _ (List.mem_append_right _ h))) gwX8))
set_option maxRecDepth 20000 in
theorem gX8_picks_X8_takeUp : GoodIn wsX8_picks (wsV RX8 168 RX8 yX8_takeUp wsX8_takeUp) := goodIn_app (goodIn_of _ (by decide +kernel)) ggX8_picks_X8_takeUp
theorem bdX8_picks_0 : decode cX8_picks 0 = .ok (.aload_n 0, 1) ∧ decode cX8_picks 1 = .ok (.iload_n 1, 1) ∧ decode cX8_picks 2 = .ok (.invokevirtual 142, 3) ∧ decode cX8_picks 5 = .ok (.ifCond .ne 5, 3) ∧ decode cX8_picks 8 = .ok (.iconst (-1), 1) ∧ decode cX8_picks 9 = .ok (.ireturn, 1) ∧ decode cX8_picks 10 = .ok (.bipush (-9), 2) ∧ decode cX8_picks 12 = .ok (.istore_n 2, 1) := by decide +kernel
theorem dX8_picks_0 : decode cX8_picks 0 = .ok (.aload_n 0, 1) := bdX8_picks_0.1
theorem dX8_picks_1 : decode cX8_picks 1 = .ok (.iload_n 1, 1) := bdX8_picks_0.2.1
theorem dX8_picks_2 : decode cX8_picks 2 = .ok (.invokevirtual 142, 3) := bdX8_picks_0.2.2.1
theorem dX8_picks_5 : decode cX8_picks 5 = .ok (.ifCond .ne 5, 3) := bdX8_picks_0.2.2.2.1
theorem dX8_picks_8 : decode cX8_picks 8 = .ok (.iconst (-1), 1) := bdX8_picks_0.2.2.2.2.1
theorem dX8_picks_9 : decode cX8_picks 9 = .ok (.ireturn, 1) := bdX8_picks_0.2.2.2.2.2.1
theorem dX8_picks_10 : decode cX8_picks 10 = .ok (.bipush (-9), 2) := bdX8_picks_0.2.2.2.2.2.2.1
theorem dX8_picks_12 : decode cX8_picks 12 = .ok (.istore_n 2, 1) := bdX8_picks_0.2.2.2.2.2.2.2
theorem bdX8_picks_13 : decode cX8_picks 13 = .ok (.aload_n 0, 1) ∧ decode cX8_picks 14 = .ok (.getfield 44, 3) ∧ decode cX8_picks 17 = .ok (.bipush 12, 2) ∧ decode cX8_picks 19 = .ok (.iaload, 1) ∧ decode cX8_picks 20 = .ok (.iconst 1, 1) ∧ decode cX8_picks 21 = .ok (.isub, 1) ∧ decode cX8_picks 22 = .ok (.istore_n 3, 1) ∧ decode cX8_picks 23 = .ok (.iload_n 3, 1) := by decide +kernel
theorem dX8_picks_13 : decode cX8_picks 13 = .ok (.aload_n 0, 1) := bdX8_picks_13.1
theorem dX8_picks_14 : decode cX8_picks 14 = .ok (.getfield 44, 3) := bdX8_picks_13.2.1
theorem dX8_picks_17 : decode cX8_picks 17 = .ok (.bipush 12, 2) := bdX8_picks_13.2.2.1
theorem dX8_picks_19 : decode cX8_picks 19 = .ok (.iaload, 1) := bdX8_picks_13.2.2.2.1
theorem dX8_picks_20 : decode cX8_picks 20 = .ok (.iconst 1, 1) := bdX8_picks_13.2.2.2.2.1
theorem dX8_picks_21 : decode cX8_picks 21 = .ok (.isub, 1) := bdX8_picks_13.2.2.2.2.2.1
theorem dX8_picks_22 : decode cX8_picks 22 = .ok (.istore_n 3, 1) := bdX8_picks_13.2.2.2.2.2.2.1
theorem dX8_picks_23 : decode cX8_picks 23 = .ok (.iload_n 3, 1) := bdX8_picks_13.2.2.2.2.2.2.2
theorem bdX8_picks_24 : decode cX8_picks 24 = .ok (.ifCond .lt 33, 3) ∧ decode cX8_picks 27 = .ok (.aload_n 0, 1) ∧ decode cX8_picks 28 = .ok (.getfield 44, 3) ∧ decode cX8_picks 31 = .ok (.bipush 21, 2) ∧ decode cX8_picks 33 = .ok (.iload_n 3, 1) ∧ decode cX8_picks 34 = .ok (.iadd, 1) ∧ decode cX8_picks 35 = .ok (.iaload, 1) ∧ decode cX8_picks 36 = .ok (.aload_n 0, 1) := by decide +kernel
theorem dX8_picks_24 : decode cX8_picks 24 = .ok (.ifCond .lt 33, 3) := bdX8_picks_24.1
theorem dX8_picks_27 : decode cX8_picks 27 = .ok (.aload_n 0, 1) := bdX8_picks_24.2.1
theorem dX8_picks_28 : decode cX8_picks 28 = .ok (.getfield 44, 3) := bdX8_picks_24.2.2.1
theorem dX8_picks_31 : decode cX8_picks 31 = .ok (.bipush 21, 2) := bdX8_picks_24.2.2.2.1
theorem dX8_picks_33 : decode cX8_picks 33 = .ok (.iload_n 3, 1) := bdX8_picks_24.2.2.2.2.1
theorem dX8_picks_34 : decode cX8_picks 34 = .ok (.iadd, 1) := bdX8_picks_24.2.2.2.2.2.1
theorem dX8_picks_35 : decode cX8_picks 35 = .ok (.iaload, 1) := bdX8_picks_24.2.2.2.2.2.2.1
theorem dX8_picks_36 : decode cX8_picks 36 = .ok (.aload_n 0, 1) := bdX8_picks_24.2.2.2.2.2.2.2
theorem bdX8_picks_37 : decode cX8_picks 37 = .ok (.getfield 17, 3) ∧ decode cX8_picks 40 = .ok (.iload_n 1, 1) ∧ decode cX8_picks 41 = .ok (.iaload, 1) ∧ decode cX8_picks 42 = .ok (.if_icmp .ne 7, 3) ∧ decode cX8_picks 45 = .ok (.iload_n 3, 1) ∧ decode cX8_picks 46 = .ok (.goto 4, 3) ∧ decode cX8_picks 49 = .ok (.iload_n 2, 1) ∧ decode cX8_picks 50 = .ok (.istore_n 2, 1) := by decide +kernel
theorem dX8_picks_37 : decode cX8_picks 37 = .ok (.getfield 17, 3) := bdX8_picks_37.1
theorem dX8_picks_40 : decode cX8_picks 40 = .ok (.iload_n 1, 1) := bdX8_picks_37.2.1
theorem dX8_picks_41 : decode cX8_picks 41 = .ok (.iaload, 1) := bdX8_picks_37.2.2.1
theorem dX8_picks_42 : decode cX8_picks 42 = .ok (.if_icmp .ne 7, 3) := bdX8_picks_37.2.2.2.1
theorem dX8_picks_45 : decode cX8_picks 45 = .ok (.iload_n 3, 1) := bdX8_picks_37.2.2.2.2.1
theorem dX8_picks_46 : decode cX8_picks 46 = .ok (.goto 4, 3) := bdX8_picks_37.2.2.2.2.2.1
theorem dX8_picks_49 : decode cX8_picks 49 = .ok (.iload_n 2, 1) := bdX8_picks_37.2.2.2.2.2.2.1
theorem dX8_picks_50 : decode cX8_picks 50 = .ok (.istore_n 2, 1) := bdX8_picks_37.2.2.2.2.2.2.2
theorem bdX8_picks_51 : decode cX8_picks 51 = .ok (.iinc 3 (-1), 3) ∧ decode cX8_picks 54 = .ok (.goto (-31), 3) ∧ decode cX8_picks 57 = .ok (.iload_n 2, 1) ∧ decode cX8_picks 58 = .ok (.bipush (-9), 2) ∧ decode cX8_picks 60 = .ok (.if_icmp .ne 6, 3) ∧ decode cX8_picks 63 = .ok (.bipush (-2), 2) ∧ decode cX8_picks 65 = .ok (.ireturn, 1) ∧ decode cX8_picks 66 = .ok (.aload_n 0, 1) := by decide +kernel
theorem dX8_picks_51 : decode cX8_picks 51 = .ok (.iinc 3 (-1), 3) := bdX8_picks_51.1
theorem dX8_picks_54 : decode cX8_picks 54 = .ok (.goto (-31), 3) := bdX8_picks_51.2.1
theorem dX8_picks_57 : decode cX8_picks 57 = .ok (.iload_n 2, 1) := bdX8_picks_51.2.2.1
theorem dX8_picks_58 : decode cX8_picks 58 = .ok (.bipush (-9), 2) := bdX8_picks_51.2.2.2.1
theorem dX8_picks_60 : decode cX8_picks 60 = .ok (.if_icmp .ne 6, 3) := bdX8_picks_51.2.2.2.2.1
theorem dX8_picks_63 : decode cX8_picks 63 = .ok (.bipush (-2), 2) := bdX8_picks_51.2.2.2.2.2.1
theorem dX8_picks_65 : decode cX8_picks 65 = .ok (.ireturn, 1) := bdX8_picks_51.2.2.2.2.2.2.1
theorem dX8_picks_66 : decode cX8_picks 66 = .ok (.aload_n 0, 1) := bdX8_picks_51.2.2.2.2.2.2.2
theorem bdX8_picks_67 : decode cX8_picks 67 = .ok (.invokevirtual 158, 3) ∧ decode cX8_picks 70 = .ok (.aload_n 0, 1) ∧ decode cX8_picks 71 = .ok (.getfield 44, 3) ∧ decode cX8_picks 74 = .ok (.bipush 13, 2) ∧ decode cX8_picks 76 = .ok (.iload_n 2, 1) ∧ decode cX8_picks 77 = .ok (.iadd, 1) ∧ decode cX8_picks 78 = .ok (.iaload, 1) ∧ decode cX8_picks 79 = .ok (.istore_n 3, 1) := by decide +kernel
theorem dX8_picks_67 : decode cX8_picks 67 = .ok (.invokevirtual 158, 3) := bdX8_picks_67.1
theorem dX8_picks_70 : decode cX8_picks 70 = .ok (.aload_n 0, 1) := bdX8_picks_67.2.1
theorem dX8_picks_71 : decode cX8_picks 71 = .ok (.getfield 44, 3) := bdX8_picks_67.2.2.1
theorem dX8_picks_74 : decode cX8_picks 74 = .ok (.bipush 13, 2) := bdX8_picks_67.2.2.2.1
theorem dX8_picks_76 : decode cX8_picks 76 = .ok (.iload_n 2, 1) := bdX8_picks_67.2.2.2.2.1
theorem dX8_picks_77 : decode cX8_picks 77 = .ok (.iadd, 1) := bdX8_picks_67.2.2.2.2.2.1
theorem dX8_picks_78 : decode cX8_picks 78 = .ok (.iaload, 1) := bdX8_picks_67.2.2.2.2.2.2.1
theorem dX8_picks_79 : decode cX8_picks 79 = .ok (.istore_n 3, 1) := bdX8_picks_67.2.2.2.2.2.2.2
theorem bdX8_picks_80 : decode cX8_picks 80 = .ok (.aload_n 0, 1) ∧ decode cX8_picks 81 = .ok (.getfield 44, 3) ∧ decode cX8_picks 84 = .ok (.bipush 6, 2) ∧ decode cX8_picks 86 = .ok (.iload_n 3, 1) ∧ decode cX8_picks 87 = .ok (.iadd, 1) ∧ decode cX8_picks 88 = .ok (.dup2, 1) ∧ decode cX8_picks 89 = .ok (.iaload, 1) ∧ decode cX8_picks 90 = .ok (.iconst 1, 1) := by decide +kernel
theorem dX8_picks_80 : decode cX8_picks 80 = .ok (.aload_n 0, 1) := bdX8_picks_80.1
theorem dX8_picks_81 : decode cX8_picks 81 = .ok (.getfield 44, 3) := bdX8_picks_80.2.1
theorem dX8_picks_84 : decode cX8_picks 84 = .ok (.bipush 6, 2) := bdX8_picks_80.2.2.1
theorem dX8_picks_86 : decode cX8_picks 86 = .ok (.iload_n 3, 1) := bdX8_picks_80.2.2.2.1
theorem dX8_picks_87 : decode cX8_picks 87 = .ok (.iadd, 1) := bdX8_picks_80.2.2.2.2.1
theorem dX8_picks_88 : decode cX8_picks 88 = .ok (.dup2, 1) := bdX8_picks_80.2.2.2.2.2.1
theorem dX8_picks_89 : decode cX8_picks 89 = .ok (.iaload, 1) := bdX8_picks_80.2.2.2.2.2.2.1
theorem dX8_picks_90 : decode cX8_picks 90 = .ok (.iconst 1, 1) := bdX8_picks_80.2.2.2.2.2.2.2
theorem bdX8_picks_91 : decode cX8_picks 91 = .ok (.iload_n 1, 1) ∧ decode cX8_picks 92 = .ok (.ishl, 1) ∧ decode cX8_picks 93 = .ok (.ior, 1) ∧ decode cX8_picks 94 = .ok (.iastore, 1) ∧ decode cX8_picks 95 = .ok (.aload_n 0, 1) ∧ decode cX8_picks 96 = .ok (.iload_n 2, 1) ∧ decode cX8_picks 97 = .ok (.invokevirtual 168, 3) ∧ decode cX8_picks 100 = .ok (.iload_n 3, 1) := by decide +kernel
theorem dX8_picks_91 : decode cX8_picks 91 = .ok (.iload_n 1, 1) := bdX8_picks_91.1
theorem dX8_picks_92 : decode cX8_picks 92 = .ok (.ishl, 1) := bdX8_picks_91.2.1
theorem dX8_picks_93 : decode cX8_picks 93 = .ok (.ior, 1) := bdX8_picks_91.2.2.1
theorem dX8_picks_94 : decode cX8_picks 94 = .ok (.iastore, 1) := bdX8_picks_91.2.2.2.1
theorem dX8_picks_95 : decode cX8_picks 95 = .ok (.aload_n 0, 1) := bdX8_picks_91.2.2.2.2.1
theorem dX8_picks_96 : decode cX8_picks 96 = .ok (.iload_n 2, 1) := bdX8_picks_91.2.2.2.2.2.1
theorem dX8_picks_97 : decode cX8_picks 97 = .ok (.invokevirtual 168, 3) := bdX8_picks_91.2.2.2.2.2.2.1
theorem dX8_picks_100 : decode cX8_picks 100 = .ok (.iload_n 3, 1) := bdX8_picks_91.2.2.2.2.2.2.2
theorem dX8_picks_101 : decode cX8_picks 101 = .ok (.ireturn, 1) := by decide +kernel
set_option maxRecDepth 20000 in
set_option maxRecDepth 100000 in
theorem ggX8_hours_X8_in : GoodIn wsX8_hours wsX8_in := goodIn_hd (goodIn_c ch_X8_hours hc_X8_hours ([.code yX8_in cX8_in 3 (some .boolean)] : List Cond) [(1, 4)] rfl (by decide +kernel)) (goodIn_c ch_X8_hours hc_X8_hours ([] : List Cond) [] rfl (by decide +kernel))
set_option maxRecDepth 20000 in
theorem gX8_hours_X8_in : GoodIn wsX8_hours (va_wsS RX8 72 yX8_in wsX8_in) := goodIn_app (goodIn_of _ (by decide +kernel)) ggX8_hours_X8_in
set_option maxRecDepth 20000 in
set_option maxRecDepth 100000 in
theorem ggX8_hours_X8_know : GoodIn wsX8_hours wsX8_know := goodIn_hd (goodIn_c ch_X8_hours hc_X8_hours ([.code yX8_know cX8_know 2 none] : List Cond) [(1, 8)] rfl (by decide +kernel)) (goodIn_app (goodIn_c ch_X8_hours hc_X8_hours ([.fieldLink RX8 47 "WordFletchersModel" "known" "[I", .fieldLink RX8 50 "WordFletchersModel" "before" "[I", .fieldLink RX8 44 "WordFletchersModel" "now" "[I"] : List Cond) [(1, 9), (1, 10), (1, 0)] rfl (by decide +kernel)) (goodIn_sub (fun _ h => (List.mem_cons_of_mem _ (List.mem_append_right _ h))) gwX8))
set_option maxRecDepth 20000 in
theorem gX8_hours_X8_know : GoodIn wsX8_hours (wsV RX8 158 RX8 yX8_know wsX8_know) := goodIn_app (goodIn_of _ (by decide +kernel)) ggX8_hours_X8_know
theorem bdX8_hours_0 : decode cX8_hours 0 = .ok (.iload_n 1, 1) ∧ decode cX8_hours 1 = .ok (.iconst 1, 1) ∧ decode cX8_hours 2 = .ok (.bipush 9, 2) ∧ decode cX8_hours 4 = .ok (.invokestatic 72, 3) ∧ decode cX8_hours 7 = .ok (.ifCond .ne 5, 3) ∧ decode cX8_hours 10 = .ok (.iconst (-1), 1) ∧ decode cX8_hours 11 = .ok (.ireturn, 1) ∧ decode cX8_hours 12 = .ok (.aload_n 0, 1) := by decide +kernel
theorem dX8_hours_0 : decode cX8_hours 0 = .ok (.iload_n 1, 1) := bdX8_hours_0.1
theorem dX8_hours_1 : decode cX8_hours 1 = .ok (.iconst 1, 1) := bdX8_hours_0.2.1
theorem dX8_hours_2 : decode cX8_hours 2 = .ok (.bipush 9, 2) := bdX8_hours_0.2.2.1
theorem dX8_hours_4 : decode cX8_hours 4 = .ok (.invokestatic 72, 3) := bdX8_hours_0.2.2.2.1
theorem dX8_hours_7 : decode cX8_hours 7 = .ok (.ifCond .ne 5, 3) := bdX8_hours_0.2.2.2.2.1
theorem dX8_hours_10 : decode cX8_hours 10 = .ok (.iconst (-1), 1) := bdX8_hours_0.2.2.2.2.2.1
theorem dX8_hours_11 : decode cX8_hours 11 = .ok (.ireturn, 1) := bdX8_hours_0.2.2.2.2.2.2.1
theorem dX8_hours_12 : decode cX8_hours 12 = .ok (.aload_n 0, 1) := bdX8_hours_0.2.2.2.2.2.2.2
theorem bdX8_hours_13 : decode cX8_hours 13 = .ok (.getfield 44, 3) ∧ decode cX8_hours 16 = .ok (.iconst 0, 1) ∧ decode cX8_hours 17 = .ok (.iaload, 1) ∧ decode cX8_hours 18 = .ok (.iload_n 1, 1) ∧ decode cX8_hours 19 = .ok (.iadd, 1) ∧ decode cX8_hours 20 = .ok (.sipush 999, 3) ∧ decode cX8_hours 23 = .ok (.if_icmp .le 6, 3) ∧ decode cX8_hours 26 = .ok (.bipush (-2), 2) := by decide +kernel
theorem dX8_hours_13 : decode cX8_hours 13 = .ok (.getfield 44, 3) := bdX8_hours_13.1
theorem dX8_hours_16 : decode cX8_hours 16 = .ok (.iconst 0, 1) := bdX8_hours_13.2.1
theorem dX8_hours_17 : decode cX8_hours 17 = .ok (.iaload, 1) := bdX8_hours_13.2.2.1
theorem dX8_hours_18 : decode cX8_hours 18 = .ok (.iload_n 1, 1) := bdX8_hours_13.2.2.2.1
theorem dX8_hours_19 : decode cX8_hours 19 = .ok (.iadd, 1) := bdX8_hours_13.2.2.2.2.1
theorem dX8_hours_20 : decode cX8_hours 20 = .ok (.sipush 999, 3) := bdX8_hours_13.2.2.2.2.2.1
theorem dX8_hours_23 : decode cX8_hours 23 = .ok (.if_icmp .le 6, 3) := bdX8_hours_13.2.2.2.2.2.2.1
theorem dX8_hours_26 : decode cX8_hours 26 = .ok (.bipush (-2), 2) := bdX8_hours_13.2.2.2.2.2.2.2
theorem bdX8_hours_28 : decode cX8_hours 28 = .ok (.ireturn, 1) ∧ decode cX8_hours 29 = .ok (.aload_n 0, 1) ∧ decode cX8_hours 30 = .ok (.invokevirtual 158, 3) ∧ decode cX8_hours 33 = .ok (.aload_n 0, 1) ∧ decode cX8_hours 34 = .ok (.getfield 44, 3) ∧ decode cX8_hours 37 = .ok (.iconst 0, 1) ∧ decode cX8_hours 38 = .ok (.dup2, 1) ∧ decode cX8_hours 39 = .ok (.iaload, 1) := by decide +kernel
theorem dX8_hours_28 : decode cX8_hours 28 = .ok (.ireturn, 1) := bdX8_hours_28.1
theorem dX8_hours_29 : decode cX8_hours 29 = .ok (.aload_n 0, 1) := bdX8_hours_28.2.1
theorem dX8_hours_30 : decode cX8_hours 30 = .ok (.invokevirtual 158, 3) := bdX8_hours_28.2.2.1
theorem dX8_hours_33 : decode cX8_hours 33 = .ok (.aload_n 0, 1) := bdX8_hours_28.2.2.2.1
theorem dX8_hours_34 : decode cX8_hours 34 = .ok (.getfield 44, 3) := bdX8_hours_28.2.2.2.2.1
theorem dX8_hours_37 : decode cX8_hours 37 = .ok (.iconst 0, 1) := bdX8_hours_28.2.2.2.2.2.1
theorem dX8_hours_38 : decode cX8_hours 38 = .ok (.dup2, 1) := bdX8_hours_28.2.2.2.2.2.2.1
theorem dX8_hours_39 : decode cX8_hours 39 = .ok (.iaload, 1) := bdX8_hours_28.2.2.2.2.2.2.2
theorem bdX8_hours_40 : decode cX8_hours 40 = .ok (.iload_n 1, 1) ∧ decode cX8_hours 41 = .ok (.iadd, 1) ∧ decode cX8_hours 42 = .ok (.iastore, 1) ∧ decode cX8_hours 43 = .ok (.aload_n 0, 1) ∧ decode cX8_hours 44 = .ok (.getfield 44, 3) ∧ decode cX8_hours 47 = .ok (.iconst 0, 1) ∧ decode cX8_hours 48 = .ok (.iaload, 1) ∧ decode cX8_hours 49 = .ok (.ireturn, 1) := by decide +kernel
theorem dX8_hours_40 : decode cX8_hours 40 = .ok (.iload_n 1, 1) := bdX8_hours_40.1
theorem dX8_hours_41 : decode cX8_hours 41 = .ok (.iadd, 1) := bdX8_hours_40.2.1
theorem dX8_hours_42 : decode cX8_hours 42 = .ok (.iastore, 1) := bdX8_hours_40.2.2.1
theorem dX8_hours_43 : decode cX8_hours 43 = .ok (.aload_n 0, 1) := bdX8_hours_40.2.2.2.1
theorem dX8_hours_44 : decode cX8_hours 44 = .ok (.getfield 44, 3) := bdX8_hours_40.2.2.2.2.1
theorem dX8_hours_47 : decode cX8_hours 47 = .ok (.iconst 0, 1) := bdX8_hours_40.2.2.2.2.2.1
theorem dX8_hours_48 : decode cX8_hours 48 = .ok (.iaload, 1) := bdX8_hours_40.2.2.2.2.2.2.1
theorem dX8_hours_49 : decode cX8_hours 49 = .ok (.ireturn, 1) := bdX8_hours_40.2.2.2.2.2.2.2
set_option maxRecDepth 20000 in
set_option maxRecDepth 100000 in
theorem ggX8_damps_X8_in : GoodIn wsX8_damps wsX8_in := goodIn_hd (goodIn_c ch_X8_damps hc_X8_damps ([.code yX8_in cX8_in 3 (some .boolean)] : List Cond) [(1, 4)] rfl (by decide +kernel)) (goodIn_c ch_X8_damps hc_X8_damps ([] : List Cond) [] rfl (by decide +kernel))
set_option maxRecDepth 20000 in
theorem gX8_damps_X8_in : GoodIn wsX8_damps (va_wsS RX8 72 yX8_in wsX8_in) := goodIn_app (goodIn_of _ (by decide +kernel)) ggX8_damps_X8_in
set_option maxRecDepth 20000 in
set_option maxRecDepth 100000 in
theorem ggX8_damps_X8_know : GoodIn wsX8_damps wsX8_know := goodIn_hd (goodIn_c ch_X8_damps hc_X8_damps ([.code yX8_know cX8_know 2 none] : List Cond) [(1, 8)] rfl (by decide +kernel)) (goodIn_app (goodIn_c ch_X8_damps hc_X8_damps ([.fieldLink RX8 47 "WordFletchersModel" "known" "[I", .fieldLink RX8 50 "WordFletchersModel" "before" "[I", .fieldLink RX8 44 "WordFletchersModel" "now" "[I"] : List Cond) [(1, 9), (1, 10), (1, 0)] rfl (by decide +kernel)) (goodIn_sub (fun _ h => (List.mem_cons_of_mem _ (List.mem_append_right _ h))) gwX8))
set_option maxRecDepth 20000 in
theorem gX8_damps_X8_know : GoodIn wsX8_damps (wsV RX8 158 RX8 yX8_know wsX8_know) := goodIn_app (goodIn_of _ (by decide +kernel)) ggX8_damps_X8_know
theorem bdX8_damps_0 : decode cX8_damps 0 = .ok (.iload_n 1, 1) ∧ decode cX8_damps 1 = .ok (.iconst 0, 1) ∧ decode cX8_damps 2 = .ok (.iconst 5, 1) ∧ decode cX8_damps 3 = .ok (.invokestatic 72, 3) ∧ decode cX8_damps 6 = .ok (.ifCond .ne 5, 3) ∧ decode cX8_damps 9 = .ok (.iconst (-1), 1) ∧ decode cX8_damps 10 = .ok (.ireturn, 1) ∧ decode cX8_damps 11 = .ok (.aload_n 0, 1) := by decide +kernel
theorem dX8_damps_0 : decode cX8_damps 0 = .ok (.iload_n 1, 1) := bdX8_damps_0.1
theorem dX8_damps_1 : decode cX8_damps 1 = .ok (.iconst 0, 1) := bdX8_damps_0.2.1
theorem dX8_damps_2 : decode cX8_damps 2 = .ok (.iconst 5, 1) := bdX8_damps_0.2.2.1
theorem dX8_damps_3 : decode cX8_damps 3 = .ok (.invokestatic 72, 3) := bdX8_damps_0.2.2.2.1
theorem dX8_damps_6 : decode cX8_damps 6 = .ok (.ifCond .ne 5, 3) := bdX8_damps_0.2.2.2.2.1
theorem dX8_damps_9 : decode cX8_damps 9 = .ok (.iconst (-1), 1) := bdX8_damps_0.2.2.2.2.2.1
theorem dX8_damps_10 : decode cX8_damps 10 = .ok (.ireturn, 1) := bdX8_damps_0.2.2.2.2.2.2.1
theorem dX8_damps_11 : decode cX8_damps 11 = .ok (.aload_n 0, 1) := bdX8_damps_0.2.2.2.2.2.2.2
theorem bdX8_damps_12 : decode cX8_damps 12 = .ok (.getfield 44, 3) ∧ decode cX8_damps 15 = .ok (.iconst 1, 1) ∧ decode cX8_damps 16 = .ok (.iaload, 1) ∧ decode cX8_damps 17 = .ok (.istore_n 2, 1) ∧ decode cX8_damps 18 = .ok (.iload_n 2, 1) ∧ decode cX8_damps 19 = .ok (.iload_n 1, 1) ∧ decode cX8_damps 20 = .ok (.if_icmp .ne 6, 3) ∧ decode cX8_damps 23 = .ok (.bipush (-2), 2) := by decide +kernel
theorem dX8_damps_12 : decode cX8_damps 12 = .ok (.getfield 44, 3) := bdX8_damps_12.1
theorem dX8_damps_15 : decode cX8_damps 15 = .ok (.iconst 1, 1) := bdX8_damps_12.2.1
theorem dX8_damps_16 : decode cX8_damps 16 = .ok (.iaload, 1) := bdX8_damps_12.2.2.1
theorem dX8_damps_17 : decode cX8_damps 17 = .ok (.istore_n 2, 1) := bdX8_damps_12.2.2.2.1
theorem dX8_damps_18 : decode cX8_damps 18 = .ok (.iload_n 2, 1) := bdX8_damps_12.2.2.2.2.1
theorem dX8_damps_19 : decode cX8_damps 19 = .ok (.iload_n 1, 1) := bdX8_damps_12.2.2.2.2.2.1
theorem dX8_damps_20 : decode cX8_damps 20 = .ok (.if_icmp .ne 6, 3) := bdX8_damps_12.2.2.2.2.2.2.1
theorem dX8_damps_23 : decode cX8_damps 23 = .ok (.bipush (-2), 2) := bdX8_damps_12.2.2.2.2.2.2.2
theorem bdX8_damps_25 : decode cX8_damps 25 = .ok (.ireturn, 1) ∧ decode cX8_damps 26 = .ok (.aload_n 0, 1) ∧ decode cX8_damps 27 = .ok (.invokevirtual 158, 3) ∧ decode cX8_damps 30 = .ok (.aload_n 0, 1) ∧ decode cX8_damps 31 = .ok (.getfield 44, 3) ∧ decode cX8_damps 34 = .ok (.iconst 1, 1) ∧ decode cX8_damps 35 = .ok (.iload_n 1, 1) ∧ decode cX8_damps 36 = .ok (.iastore, 1) := by decide +kernel
theorem dX8_damps_25 : decode cX8_damps 25 = .ok (.ireturn, 1) := bdX8_damps_25.1
theorem dX8_damps_26 : decode cX8_damps 26 = .ok (.aload_n 0, 1) := bdX8_damps_25.2.1
theorem dX8_damps_27 : decode cX8_damps 27 = .ok (.invokevirtual 158, 3) := bdX8_damps_25.2.2.1
theorem dX8_damps_30 : decode cX8_damps 30 = .ok (.aload_n 0, 1) := bdX8_damps_25.2.2.2.1
theorem dX8_damps_31 : decode cX8_damps 31 = .ok (.getfield 44, 3) := bdX8_damps_25.2.2.2.2.1
theorem dX8_damps_34 : decode cX8_damps 34 = .ok (.iconst 1, 1) := bdX8_damps_25.2.2.2.2.2.1
theorem dX8_damps_35 : decode cX8_damps 35 = .ok (.iload_n 1, 1) := bdX8_damps_25.2.2.2.2.2.2.1
theorem dX8_damps_36 : decode cX8_damps 36 = .ok (.iastore, 1) := bdX8_damps_25.2.2.2.2.2.2.2
theorem bdX8_damps_37 : decode cX8_damps 37 = .ok (.iload_n 2, 1) ∧ decode cX8_damps 38 = .ok (.ireturn, 1) := by decide +kernel
theorem dX8_damps_37 : decode cX8_damps 37 = .ok (.iload_n 2, 1) := bdX8_damps_37.1
theorem dX8_damps_38 : decode cX8_damps 38 = .ok (.ireturn, 1) := bdX8_damps_37.2
set_option maxRecDepth 20000 in
set_option maxRecDepth 100000 in
theorem ggX8_plucks_X8_in : GoodIn wsX8_plucks wsX8_in := goodIn_hd (goodIn_c ch_X8_plucks hc_X8_plucks ([.code yX8_in cX8_in 3 (some .boolean)] : List Cond) [(1, 4)] rfl (by decide +kernel)) (goodIn_c ch_X8_plucks hc_X8_plucks ([] : List Cond) [] rfl (by decide +kernel))
set_option maxRecDepth 20000 in
theorem gX8_plucks_X8_in : GoodIn wsX8_plucks (va_wsS RX8 72 yX8_in wsX8_in) := goodIn_app (goodIn_of _ (by decide +kernel)) ggX8_plucks_X8_in
set_option maxRecDepth 20000 in
set_option maxRecDepth 100000 in
theorem ggX8_plucks_X8_know : GoodIn wsX8_plucks wsX8_know := goodIn_hd (goodIn_c ch_X8_plucks hc_X8_plucks ([.code yX8_know cX8_know 2 none] : List Cond) [(1, 8)] rfl (by decide +kernel)) (goodIn_app (goodIn_c ch_X8_plucks hc_X8_plucks ([.fieldLink RX8 47 "WordFletchersModel" "known" "[I", .fieldLink RX8 50 "WordFletchersModel" "before" "[I", .fieldLink RX8 44 "WordFletchersModel" "now" "[I"] : List Cond) [(1, 9), (1, 10), (1, 0)] rfl (by decide +kernel)) (goodIn_sub (fun _ h => (List.mem_cons_of_mem _ (List.mem_append_right _ h))) gwX8))
set_option maxRecDepth 20000 in
theorem gX8_plucks_X8_know : GoodIn wsX8_plucks (wsV RX8 158 RX8 yX8_know wsX8_know) := goodIn_app (goodIn_of _ (by decide +kernel)) ggX8_plucks_X8_know
theorem bdX8_plucks_0 : decode cX8_plucks 0 = .ok (.iload_n 1, 1) ∧ decode cX8_plucks 1 = .ok (.iconst 0, 1) ∧ decode cX8_plucks 2 = .ok (.iconst 3, 1) ∧ decode cX8_plucks 3 = .ok (.invokestatic 72, 3) ∧ decode cX8_plucks 6 = .ok (.ifCond .eq 13, 3) ∧ decode cX8_plucks 9 = .ok (.iload_n 2, 1) ∧ decode cX8_plucks 10 = .ok (.iconst 1, 1) ∧ decode cX8_plucks 11 = .ok (.bipush 9, 2) := by decide +kernel
theorem dX8_plucks_0 : decode cX8_plucks 0 = .ok (.iload_n 1, 1) := bdX8_plucks_0.1
theorem dX8_plucks_1 : decode cX8_plucks 1 = .ok (.iconst 0, 1) := bdX8_plucks_0.2.1
theorem dX8_plucks_2 : decode cX8_plucks 2 = .ok (.iconst 3, 1) := bdX8_plucks_0.2.2.1
theorem dX8_plucks_3 : decode cX8_plucks 3 = .ok (.invokestatic 72, 3) := bdX8_plucks_0.2.2.2.1
theorem dX8_plucks_6 : decode cX8_plucks 6 = .ok (.ifCond .eq 13, 3) := bdX8_plucks_0.2.2.2.2.1
theorem dX8_plucks_9 : decode cX8_plucks 9 = .ok (.iload_n 2, 1) := bdX8_plucks_0.2.2.2.2.2.1
theorem dX8_plucks_10 : decode cX8_plucks 10 = .ok (.iconst 1, 1) := bdX8_plucks_0.2.2.2.2.2.2.1
theorem dX8_plucks_11 : decode cX8_plucks 11 = .ok (.bipush 9, 2) := bdX8_plucks_0.2.2.2.2.2.2.2
theorem bdX8_plucks_13 : decode cX8_plucks 13 = .ok (.invokestatic 72, 3) ∧ decode cX8_plucks 16 = .ok (.ifCond .ne 5, 3) ∧ decode cX8_plucks 19 = .ok (.iconst (-1), 1) ∧ decode cX8_plucks 20 = .ok (.ireturn, 1) ∧ decode cX8_plucks 21 = .ok (.aload_n 0, 1) ∧ decode cX8_plucks 22 = .ok (.getfield 44, 3) ∧ decode cX8_plucks 25 = .ok (.iconst 2, 1) ∧ decode cX8_plucks 26 = .ok (.iload_n 1, 1) := by decide +kernel
theorem dX8_plucks_13 : decode cX8_plucks 13 = .ok (.invokestatic 72, 3) := bdX8_plucks_13.1
theorem dX8_plucks_16 : decode cX8_plucks 16 = .ok (.ifCond .ne 5, 3) := bdX8_plucks_13.2.1
theorem dX8_plucks_19 : decode cX8_plucks 19 = .ok (.iconst (-1), 1) := bdX8_plucks_13.2.2.1
theorem dX8_plucks_20 : decode cX8_plucks 20 = .ok (.ireturn, 1) := bdX8_plucks_13.2.2.2.1
theorem dX8_plucks_21 : decode cX8_plucks 21 = .ok (.aload_n 0, 1) := bdX8_plucks_13.2.2.2.2.1
theorem dX8_plucks_22 : decode cX8_plucks 22 = .ok (.getfield 44, 3) := bdX8_plucks_13.2.2.2.2.2.1
theorem dX8_plucks_25 : decode cX8_plucks 25 = .ok (.iconst 2, 1) := bdX8_plucks_13.2.2.2.2.2.2.1
theorem dX8_plucks_26 : decode cX8_plucks 26 = .ok (.iload_n 1, 1) := bdX8_plucks_13.2.2.2.2.2.2.2
theorem bdX8_plucks_27 : decode cX8_plucks 27 = .ok (.iadd, 1) ∧ decode cX8_plucks 28 = .ok (.iaload, 1) ∧ decode cX8_plucks 29 = .ok (.bipush 20, 2) ∧ decode cX8_plucks 31 = .ok (.if_icmp .ne 6, 3) ∧ decode cX8_plucks 34 = .ok (.bipush (-2), 2) ∧ decode cX8_plucks 36 = .ok (.ireturn, 1) ∧ decode cX8_plucks 37 = .ok (.aload_n 0, 1) ∧ decode cX8_plucks 38 = .ok (.invokevirtual 158, 3) := by decide +kernel
theorem dX8_plucks_27 : decode cX8_plucks 27 = .ok (.iadd, 1) := bdX8_plucks_27.1
theorem dX8_plucks_28 : decode cX8_plucks 28 = .ok (.iaload, 1) := bdX8_plucks_27.2.1
theorem dX8_plucks_29 : decode cX8_plucks 29 = .ok (.bipush 20, 2) := bdX8_plucks_27.2.2.1
theorem dX8_plucks_31 : decode cX8_plucks 31 = .ok (.if_icmp .ne 6, 3) := bdX8_plucks_27.2.2.2.1
theorem dX8_plucks_34 : decode cX8_plucks 34 = .ok (.bipush (-2), 2) := bdX8_plucks_27.2.2.2.2.1
theorem dX8_plucks_36 : decode cX8_plucks 36 = .ok (.ireturn, 1) := bdX8_plucks_27.2.2.2.2.2.1
theorem dX8_plucks_37 : decode cX8_plucks 37 = .ok (.aload_n 0, 1) := bdX8_plucks_27.2.2.2.2.2.2.1
theorem dX8_plucks_38 : decode cX8_plucks 38 = .ok (.invokevirtual 158, 3) := bdX8_plucks_27.2.2.2.2.2.2.2
theorem bdX8_plucks_41 : decode cX8_plucks 41 = .ok (.aload_n 0, 1) ∧ decode cX8_plucks 42 = .ok (.getfield 44, 3) ∧ decode cX8_plucks 45 = .ok (.iconst 2, 1) ∧ decode cX8_plucks 46 = .ok (.iload_n 1, 1) ∧ decode cX8_plucks 47 = .ok (.iadd, 1) ∧ decode cX8_plucks 48 = .ok (.iaload, 1) ∧ decode cX8_plucks 49 = .ok (.iload_n 2, 1) ∧ decode cX8_plucks 50 = .ok (.iadd, 1) := by decide +kernel
theorem dX8_plucks_41 : decode cX8_plucks 41 = .ok (.aload_n 0, 1) := bdX8_plucks_41.1
theorem dX8_plucks_42 : decode cX8_plucks 42 = .ok (.getfield 44, 3) := bdX8_plucks_41.2.1
theorem dX8_plucks_45 : decode cX8_plucks 45 = .ok (.iconst 2, 1) := bdX8_plucks_41.2.2.1
theorem dX8_plucks_46 : decode cX8_plucks 46 = .ok (.iload_n 1, 1) := bdX8_plucks_41.2.2.2.1
theorem dX8_plucks_47 : decode cX8_plucks 47 = .ok (.iadd, 1) := bdX8_plucks_41.2.2.2.2.1
theorem dX8_plucks_48 : decode cX8_plucks 48 = .ok (.iaload, 1) := bdX8_plucks_41.2.2.2.2.2.1
theorem dX8_plucks_49 : decode cX8_plucks 49 = .ok (.iload_n 2, 1) := bdX8_plucks_41.2.2.2.2.2.2.1
theorem dX8_plucks_50 : decode cX8_plucks 50 = .ok (.iadd, 1) := bdX8_plucks_41.2.2.2.2.2.2.2
theorem bdX8_plucks_51 : decode cX8_plucks 51 = .ok (.istore_n 3, 1) ∧ decode cX8_plucks 52 = .ok (.aload_n 0, 1) ∧ decode cX8_plucks 53 = .ok (.getfield 44, 3) ∧ decode cX8_plucks 56 = .ok (.iconst 2, 1) ∧ decode cX8_plucks 57 = .ok (.iload_n 1, 1) ∧ decode cX8_plucks 58 = .ok (.iadd, 1) ∧ decode cX8_plucks 59 = .ok (.iload_n 3, 1) ∧ decode cX8_plucks 60 = .ok (.bipush 20, 2) := by decide +kernel
theorem dX8_plucks_51 : decode cX8_plucks 51 = .ok (.istore_n 3, 1) := bdX8_plucks_51.1
theorem dX8_plucks_52 : decode cX8_plucks 52 = .ok (.aload_n 0, 1) := bdX8_plucks_51.2.1
theorem dX8_plucks_53 : decode cX8_plucks 53 = .ok (.getfield 44, 3) := bdX8_plucks_51.2.2.1
theorem dX8_plucks_56 : decode cX8_plucks 56 = .ok (.iconst 2, 1) := bdX8_plucks_51.2.2.2.1
theorem dX8_plucks_57 : decode cX8_plucks 57 = .ok (.iload_n 1, 1) := bdX8_plucks_51.2.2.2.2.1
theorem dX8_plucks_58 : decode cX8_plucks 58 = .ok (.iadd, 1) := bdX8_plucks_51.2.2.2.2.2.1
theorem dX8_plucks_59 : decode cX8_plucks 59 = .ok (.iload_n 3, 1) := bdX8_plucks_51.2.2.2.2.2.2.1
theorem dX8_plucks_60 : decode cX8_plucks 60 = .ok (.bipush 20, 2) := bdX8_plucks_51.2.2.2.2.2.2.2
theorem bdX8_plucks_62 : decode cX8_plucks 62 = .ok (.if_icmp .le 8, 3) ∧ decode cX8_plucks 65 = .ok (.bipush 20, 2) ∧ decode cX8_plucks 67 = .ok (.goto 4, 3) ∧ decode cX8_plucks 70 = .ok (.iload_n 3, 1) ∧ decode cX8_plucks 71 = .ok (.iastore, 1) ∧ decode cX8_plucks 72 = .ok (.aload_n 0, 1) ∧ decode cX8_plucks 73 = .ok (.getfield 44, 3) ∧ decode cX8_plucks 76 = .ok (.iconst 2, 1) := by decide +kernel
theorem dX8_plucks_62 : decode cX8_plucks 62 = .ok (.if_icmp .le 8, 3) := bdX8_plucks_62.1
theorem dX8_plucks_65 : decode cX8_plucks 65 = .ok (.bipush 20, 2) := bdX8_plucks_62.2.1
theorem dX8_plucks_67 : decode cX8_plucks 67 = .ok (.goto 4, 3) := bdX8_plucks_62.2.2.1
theorem dX8_plucks_70 : decode cX8_plucks 70 = .ok (.iload_n 3, 1) := bdX8_plucks_62.2.2.2.1
theorem dX8_plucks_71 : decode cX8_plucks 71 = .ok (.iastore, 1) := bdX8_plucks_62.2.2.2.2.1
theorem dX8_plucks_72 : decode cX8_plucks 72 = .ok (.aload_n 0, 1) := bdX8_plucks_62.2.2.2.2.2.1
theorem dX8_plucks_73 : decode cX8_plucks 73 = .ok (.getfield 44, 3) := bdX8_plucks_62.2.2.2.2.2.2.1
theorem dX8_plucks_76 : decode cX8_plucks 76 = .ok (.iconst 2, 1) := bdX8_plucks_62.2.2.2.2.2.2.2
theorem bdX8_plucks_77 : decode cX8_plucks 77 = .ok (.iload_n 1, 1) ∧ decode cX8_plucks 78 = .ok (.iadd, 1) ∧ decode cX8_plucks 79 = .ok (.iaload, 1) ∧ decode cX8_plucks 80 = .ok (.ireturn, 1) := by decide +kernel
theorem dX8_plucks_77 : decode cX8_plucks 77 = .ok (.iload_n 1, 1) := bdX8_plucks_77.1
theorem dX8_plucks_78 : decode cX8_plucks 78 = .ok (.iadd, 1) := bdX8_plucks_77.2.1
theorem dX8_plucks_79 : decode cX8_plucks 79 = .ok (.iaload, 1) := bdX8_plucks_77.2.2.1
theorem dX8_plucks_80 : decode cX8_plucks 80 = .ok (.ireturn, 1) := bdX8_plucks_77.2.2.2
theorem bdX8_undo_0 : decode cX8_undo 0 = .ok (.aload_n 0, 1) ∧ decode cX8_undo 1 = .ok (.getfield 47, 3) ∧ decode cX8_undo 4 = .ok (.iconst 0, 1) ∧ decode cX8_undo 5 = .ok (.iaload, 1) ∧ decode cX8_undo 6 = .ok (.ifCond .ne 6, 3) ∧ decode cX8_undo 9 = .ok (.bipush (-2), 2) ∧ decode cX8_undo 11 = .ok (.ireturn, 1) ∧ decode cX8_undo 12 = .ok (.aload_n 0, 1) := by decide +kernel
theorem dX8_undo_0 : decode cX8_undo 0 = .ok (.aload_n 0, 1) := bdX8_undo_0.1
theorem dX8_undo_1 : decode cX8_undo 1 = .ok (.getfield 47, 3) := bdX8_undo_0.2.1
theorem dX8_undo_4 : decode cX8_undo 4 = .ok (.iconst 0, 1) := bdX8_undo_0.2.2.1
theorem dX8_undo_5 : decode cX8_undo 5 = .ok (.iaload, 1) := bdX8_undo_0.2.2.2.1
theorem dX8_undo_6 : decode cX8_undo 6 = .ok (.ifCond .ne 6, 3) := bdX8_undo_0.2.2.2.2.1
theorem dX8_undo_9 : decode cX8_undo 9 = .ok (.bipush (-2), 2) := bdX8_undo_0.2.2.2.2.2.1
theorem dX8_undo_11 : decode cX8_undo 11 = .ok (.ireturn, 1) := bdX8_undo_0.2.2.2.2.2.2.1
theorem dX8_undo_12 : decode cX8_undo 12 = .ok (.aload_n 0, 1) := bdX8_undo_0.2.2.2.2.2.2.2
theorem bdX8_undo_13 : decode cX8_undo 13 = .ok (.getfield 47, 3) ∧ decode cX8_undo 16 = .ok (.iconst 0, 1) ∧ decode cX8_undo 17 = .ok (.dup2, 1) ∧ decode cX8_undo 18 = .ok (.iaload, 1) ∧ decode cX8_undo 19 = .ok (.iconst 1, 1) ∧ decode cX8_undo 20 = .ok (.isub, 1) ∧ decode cX8_undo 21 = .ok (.iastore, 1) ∧ decode cX8_undo 22 = .ok (.iconst 0, 1) := by decide +kernel
theorem dX8_undo_13 : decode cX8_undo 13 = .ok (.getfield 47, 3) := bdX8_undo_13.1
theorem dX8_undo_16 : decode cX8_undo 16 = .ok (.iconst 0, 1) := bdX8_undo_13.2.1
theorem dX8_undo_17 : decode cX8_undo 17 = .ok (.dup2, 1) := bdX8_undo_13.2.2.1
theorem dX8_undo_18 : decode cX8_undo 18 = .ok (.iaload, 1) := bdX8_undo_13.2.2.2.1
theorem dX8_undo_19 : decode cX8_undo 19 = .ok (.iconst 1, 1) := bdX8_undo_13.2.2.2.2.1
theorem dX8_undo_20 : decode cX8_undo 20 = .ok (.isub, 1) := bdX8_undo_13.2.2.2.2.2.1
theorem dX8_undo_21 : decode cX8_undo 21 = .ok (.iastore, 1) := bdX8_undo_13.2.2.2.2.2.2.1
theorem dX8_undo_22 : decode cX8_undo 22 = .ok (.iconst 0, 1) := bdX8_undo_13.2.2.2.2.2.2.2
theorem bdX8_undo_23 : decode cX8_undo 23 = .ok (.istore_n 1, 1) ∧ decode cX8_undo 24 = .ok (.iload_n 1, 1) ∧ decode cX8_undo 25 = .ok (.bipush 29, 2) ∧ decode cX8_undo 27 = .ok (.if_icmp .ge 31, 3) ∧ decode cX8_undo 30 = .ok (.aload_n 0, 1) ∧ decode cX8_undo 31 = .ok (.getfield 44, 3) ∧ decode cX8_undo 34 = .ok (.iload_n 1, 1) ∧ decode cX8_undo 35 = .ok (.aload_n 0, 1) := by decide +kernel
theorem dX8_undo_23 : decode cX8_undo 23 = .ok (.istore_n 1, 1) := bdX8_undo_23.1
theorem dX8_undo_24 : decode cX8_undo 24 = .ok (.iload_n 1, 1) := bdX8_undo_23.2.1
theorem dX8_undo_25 : decode cX8_undo 25 = .ok (.bipush 29, 2) := bdX8_undo_23.2.2.1
theorem dX8_undo_27 : decode cX8_undo 27 = .ok (.if_icmp .ge 31, 3) := bdX8_undo_23.2.2.2.1
theorem dX8_undo_30 : decode cX8_undo 30 = .ok (.aload_n 0, 1) := bdX8_undo_23.2.2.2.2.1
theorem dX8_undo_31 : decode cX8_undo 31 = .ok (.getfield 44, 3) := bdX8_undo_23.2.2.2.2.2.1
theorem dX8_undo_34 : decode cX8_undo 34 = .ok (.iload_n 1, 1) := bdX8_undo_23.2.2.2.2.2.2.1
theorem dX8_undo_35 : decode cX8_undo 35 = .ok (.aload_n 0, 1) := bdX8_undo_23.2.2.2.2.2.2.2
theorem bdX8_undo_36 : decode cX8_undo 36 = .ok (.getfield 50, 3) ∧ decode cX8_undo 39 = .ok (.bipush 29, 2) ∧ decode cX8_undo 41 = .ok (.aload_n 0, 1) ∧ decode cX8_undo 42 = .ok (.getfield 47, 3) ∧ decode cX8_undo 45 = .ok (.iconst 0, 1) ∧ decode cX8_undo 46 = .ok (.iaload, 1) ∧ decode cX8_undo 47 = .ok (.imul, 1) ∧ decode cX8_undo 48 = .ok (.iload_n 1, 1) := by decide +kernel
theorem dX8_undo_36 : decode cX8_undo 36 = .ok (.getfield 50, 3) := bdX8_undo_36.1
theorem dX8_undo_39 : decode cX8_undo 39 = .ok (.bipush 29, 2) := bdX8_undo_36.2.1
theorem dX8_undo_41 : decode cX8_undo 41 = .ok (.aload_n 0, 1) := bdX8_undo_36.2.2.1
theorem dX8_undo_42 : decode cX8_undo 42 = .ok (.getfield 47, 3) := bdX8_undo_36.2.2.2.1
theorem dX8_undo_45 : decode cX8_undo 45 = .ok (.iconst 0, 1) := bdX8_undo_36.2.2.2.2.1
theorem dX8_undo_46 : decode cX8_undo 46 = .ok (.iaload, 1) := bdX8_undo_36.2.2.2.2.2.1
theorem dX8_undo_47 : decode cX8_undo 47 = .ok (.imul, 1) := bdX8_undo_36.2.2.2.2.2.2.1
theorem dX8_undo_48 : decode cX8_undo 48 = .ok (.iload_n 1, 1) := bdX8_undo_36.2.2.2.2.2.2.2
theorem bdX8_undo_49 : decode cX8_undo 49 = .ok (.iadd, 1) ∧ decode cX8_undo 50 = .ok (.iaload, 1) ∧ decode cX8_undo 51 = .ok (.iastore, 1) ∧ decode cX8_undo 52 = .ok (.iinc 1 1, 3) ∧ decode cX8_undo 55 = .ok (.goto (-31), 3) ∧ decode cX8_undo 58 = .ok (.aload_n 0, 1) ∧ decode cX8_undo 59 = .ok (.getfield 47, 3) ∧ decode cX8_undo 62 = .ok (.iconst 0, 1) := by decide +kernel
theorem dX8_undo_49 : decode cX8_undo 49 = .ok (.iadd, 1) := bdX8_undo_49.1
theorem dX8_undo_50 : decode cX8_undo 50 = .ok (.iaload, 1) := bdX8_undo_49.2.1
theorem dX8_undo_51 : decode cX8_undo 51 = .ok (.iastore, 1) := bdX8_undo_49.2.2.1
theorem dX8_undo_52 : decode cX8_undo 52 = .ok (.iinc 1 1, 3) := bdX8_undo_49.2.2.2.1
theorem dX8_undo_55 : decode cX8_undo 55 = .ok (.goto (-31), 3) := bdX8_undo_49.2.2.2.2.1
theorem dX8_undo_58 : decode cX8_undo 58 = .ok (.aload_n 0, 1) := bdX8_undo_49.2.2.2.2.2.1
theorem dX8_undo_59 : decode cX8_undo 59 = .ok (.getfield 47, 3) := bdX8_undo_49.2.2.2.2.2.2.1
theorem dX8_undo_62 : decode cX8_undo 62 = .ok (.iconst 0, 1) := bdX8_undo_49.2.2.2.2.2.2.2
theorem bdX8_undo_63 : decode cX8_undo 63 = .ok (.iaload, 1) ∧ decode cX8_undo 64 = .ok (.ireturn, 1) := by decide +kernel
theorem dX8_undo_63 : decode cX8_undo 63 = .ok (.iaload, 1) := bdX8_undo_63.1
theorem dX8_undo_64 : decode cX8_undo 64 = .ok (.ireturn, 1) := bdX8_undo_63.2
theorem bdX8_now_0 : decode cX8_now 0 = .ok (.iload_n 1, 1) ∧ decode cX8_now 1 = .ok (.tableswitch 58 0 6 #[43, 43, 43, 43, 43, 43, 50], 43) ∧ decode cX8_now 44 = .ok (.aload_n 0, 1) ∧ decode cX8_now 45 = .ok (.getfield 44, 3) ∧ decode cX8_now 48 = .ok (.iload_n 1, 1) ∧ decode cX8_now 49 = .ok (.iaload, 1) ∧ decode cX8_now 50 = .ok (.ireturn, 1) ∧ decode cX8_now 51 = .ok (.aload_n 0, 1) := by decide +kernel
theorem dX8_now_0 : decode cX8_now 0 = .ok (.iload_n 1, 1) := bdX8_now_0.1
theorem dX8_now_1 : decode cX8_now 1 = .ok (.tableswitch 58 0 6 #[43, 43, 43, 43, 43, 43, 50], 43) := bdX8_now_0.2.1
theorem dX8_now_44 : decode cX8_now 44 = .ok (.aload_n 0, 1) := bdX8_now_0.2.2.1
theorem dX8_now_45 : decode cX8_now 45 = .ok (.getfield 44, 3) := bdX8_now_0.2.2.2.1
theorem dX8_now_48 : decode cX8_now 48 = .ok (.iload_n 1, 1) := bdX8_now_0.2.2.2.2.1
theorem dX8_now_49 : decode cX8_now 49 = .ok (.iaload, 1) := bdX8_now_0.2.2.2.2.2.1
theorem dX8_now_50 : decode cX8_now 50 = .ok (.ireturn, 1) := bdX8_now_0.2.2.2.2.2.2.1
theorem dX8_now_51 : decode cX8_now 51 = .ok (.aload_n 0, 1) := bdX8_now_0.2.2.2.2.2.2.2
theorem bdX8_now_52 : decode cX8_now 52 = .ok (.getfield 44, 3) ∧ decode cX8_now 55 = .ok (.bipush 12, 2) ∧ decode cX8_now 57 = .ok (.iaload, 1) ∧ decode cX8_now 58 = .ok (.ireturn, 1) ∧ decode cX8_now 59 = .ok (.iconst (-1), 1) ∧ decode cX8_now 60 = .ok (.ireturn, 1) := by decide +kernel
theorem dX8_now_52 : decode cX8_now 52 = .ok (.getfield 44, 3) := bdX8_now_52.1
theorem dX8_now_55 : decode cX8_now 55 = .ok (.bipush 12, 2) := bdX8_now_52.2.1
theorem dX8_now_57 : decode cX8_now 57 = .ok (.iaload, 1) := bdX8_now_52.2.2.1
theorem dX8_now_58 : decode cX8_now 58 = .ok (.ireturn, 1) := bdX8_now_52.2.2.2.1
theorem dX8_now_59 : decode cX8_now 59 = .ok (.iconst (-1), 1) := bdX8_now_52.2.2.2.2.1
theorem dX8_now_60 : decode cX8_now 60 = .ok (.ireturn, 1) := bdX8_now_52.2.2.2.2.2
set_option maxRecDepth 20000 in
set_option maxRecDepth 100000 in
theorem ggX8_lands_X8_isOne : GoodIn wsX8_lands wsX8_isOne := goodIn_hd (goodIn_c ch_X8_lands hc_X8_lands ([.code yX8_isOne cX8_isOne 2 (some .boolean)] : List Cond) [(1, 4)] rfl (by decide +kernel)) (goodIn_app (goodIn_c ch_X8_lands hc_X8_lands ([.fieldLink RX8 13 "WordFletchersModel" "people" "[I", .methodLink RX8 72 yX8_in, .static yX8_in, .initialized RX8, .code yX8_in cX8_in 3 (some .boolean)] : List Cond) [(1, 5), (1, 6), (1, 7), (1, 3), (1, 8)] rfl (by decide +kernel)) (goodIn_sub (fun _ h => (List.mem_cons_of_mem _ (List.mem_append_right _ h))) gwX8))
set_option maxRecDepth 20000 in
theorem gX8_lands_X8_isOne : GoodIn wsX8_lands (wsV RX8 142 RX8 yX8_isOne wsX8_isOne) := goodIn_app (goodIn_of _ (by decide +kernel)) ggX8_lands_X8_isOne
set_option maxRecDepth 20000 in
set_option maxRecDepth 100000 in
theorem ggX8_lands_X8_isSaying : GoodIn wsX8_lands wsX8_isSaying := goodIn_hd (goodIn_c ch_X8_lands hc_X8_lands ([.code yX8_isSaying cX8_isSaying 2 (some .boolean)] : List Cond) [(1, 12)] rfl (by decide +kernel)) (goodIn_app (goodIn_c ch_X8_lands hc_X8_lands ([.fieldLink RX8 23 "WordFletchersModel" "sayings" "[I", .methodLink RX8 72 yX8_in, .static yX8_in, .initialized RX8, .code yX8_in cX8_in 3 (some .boolean)] : List Cond) [(1, 13), (1, 6), (1, 7), (1, 3), (1, 8)] rfl (by decide +kernel)) (goodIn_sub (fun _ h => (List.mem_cons_of_mem _ (List.mem_append_right _ h))) gwX8))
set_option maxRecDepth 20000 in
theorem gX8_lands_X8_isSaying : GoodIn wsX8_lands (wsV RX8 148 RX8 yX8_isSaying wsX8_isSaying) := goodIn_app (goodIn_of _ (by decide +kernel)) ggX8_lands_X8_isSaying
set_option maxRecDepth 20000 in
set_option maxRecDepth 100000 in
theorem ggX8_lands_X8_isShot : GoodIn wsX8_lands wsX8_isShot := goodIn_hd (goodIn_c ch_X8_lands hc_X8_lands ([.code yX8_isShot cX8_isShot 3 (some .boolean)] : List Cond) [(1, 16)] rfl (by decide +kernel)) (goodIn_c ch_X8_lands hc_X8_lands ([.methodLink RX8 72 yX8_in, .static yX8_in, .initialized RX8, .code yX8_in cX8_in 3 (some .boolean)] : List Cond) [(1, 6), (1, 7), (1, 3), (1, 8)] rfl (by decide +kernel))
set_option maxRecDepth 20000 in
theorem gX8_lands_X8_isShot : GoodIn wsX8_lands (va_wsS RX8 155 yX8_isShot wsX8_isShot) := goodIn_app (goodIn_of _ (by decide +kernel)) ggX8_lands_X8_isShot
set_option maxRecDepth 20000 in
set_option maxRecDepth 100000 in
theorem ggX8_lands_X8_windIn : GoodIn wsX8_lands wsX8_windIn := goodIn_hd (goodIn_c ch_X8_lands hc_X8_lands ([.code yX8_windIn cX8_windIn 2 (some .int)] : List Cond) [(1, 20)] rfl (by decide +kernel)) (goodIn_app (goodIn_c ch_X8_lands hc_X8_lands ([.fieldLink RX8 38 "WordFletchersModel" "wind" "[I", .fieldLink RX8 44 "WordFletchersModel" "now" "[I", .fieldLink RX8 35 "WordFletchersModel" "winds" "[I"] : List Cond) [(1, 21), (1, 22), (1, 23)] rfl (by decide +kernel)) (goodIn_sub (fun _ h => (List.mem_cons_of_mem _ (List.mem_append_right _ h))) gwX8))
set_option maxRecDepth 20000 in
theorem gX8_lands_X8_windIn : GoodIn wsX8_lands (wsV RX8 151 RX8 yX8_windIn wsX8_windIn) := goodIn_app (goodIn_of _ (by decide +kernel)) ggX8_lands_X8_windIn
set_option maxRecDepth 20000 in
set_option maxRecDepth 100000 in
theorem ggX8_lands_X8_landsBy : GoodIn wsX8_lands wsX8_landsBy := goodIn_hd (goodIn_c ch_X8_lands hc_X8_lands ([.code yX8_landsBy cX8_landsBy 11 (some .int)] : List Cond) [(2, 3)] rfl (by decide +kernel)) (goodIn_app (goodIn_c ch_X8_lands hc_X8_lands ([.fieldLink RX8 29 "WordFletchersModel" "twist" "[I", .fieldLink RX8 26 "WordFletchersModel" "weight" "[I", .fieldLink RX8 44 "WordFletchersModel" "now" "[I", .fieldLink RX8 17 "WordFletchersModel" "place" "[I", .methodLink RX8 134 yX8_liftOf, .static yX8_liftOf, .initialized RX8, .code yX8_liftOf cX8_liftOf 1 (some .int), .methodLink RX8 72 yX8_in, .static yX8_in, .code yX8_in cX8_in 3 (some .boolean)] : List Cond) [(2, 4), (2, 5), (1, 22), (2, 6), (2, 7), (2, 8), (1, 3), (2, 9), (1, 6), (1, 7), (1, 8)] rfl (by decide +kernel)) (goodIn_sub (fun _ h => (List.mem_cons_of_mem _ (List.mem_append_right _ h))) gwX8))
set_option maxRecDepth 20000 in
theorem gX8_lands_X8_landsBy : GoodIn wsX8_lands (wsV RX8 161 RX8 yX8_landsBy wsX8_landsBy) := goodIn_app (goodIn_of _ (by decide +kernel)) ggX8_lands_X8_landsBy
theorem bdX8_lands_0 : decode cX8_lands 0 = .ok (.aload_n 0, 1) ∧ decode cX8_lands 1 = .ok (.iload_n 1, 1) ∧ decode cX8_lands 2 = .ok (.invokevirtual 142, 3) ∧ decode cX8_lands 5 = .ok (.ifCond .eq 22, 3) ∧ decode cX8_lands 8 = .ok (.aload_n 0, 1) ∧ decode cX8_lands 9 = .ok (.iload_n 2, 1) ∧ decode cX8_lands 10 = .ok (.invokevirtual 148, 3) ∧ decode cX8_lands 13 = .ok (.ifCond .eq 14, 3) := by decide +kernel
theorem dX8_lands_0 : decode cX8_lands 0 = .ok (.aload_n 0, 1) := bdX8_lands_0.1
theorem dX8_lands_1 : decode cX8_lands 1 = .ok (.iload_n 1, 1) := bdX8_lands_0.2.1
theorem dX8_lands_2 : decode cX8_lands 2 = .ok (.invokevirtual 142, 3) := bdX8_lands_0.2.2.1
theorem dX8_lands_5 : decode cX8_lands 5 = .ok (.ifCond .eq 22, 3) := bdX8_lands_0.2.2.2.1
theorem dX8_lands_8 : decode cX8_lands 8 = .ok (.aload_n 0, 1) := bdX8_lands_0.2.2.2.2.1
theorem dX8_lands_9 : decode cX8_lands 9 = .ok (.iload_n 2, 1) := bdX8_lands_0.2.2.2.2.2.1
theorem dX8_lands_10 : decode cX8_lands 10 = .ok (.invokevirtual 148, 3) := bdX8_lands_0.2.2.2.2.2.2.1
theorem dX8_lands_13 : decode cX8_lands 13 = .ok (.ifCond .eq 14, 3) := bdX8_lands_0.2.2.2.2.2.2.2
theorem bdX8_lands_16 : decode cX8_lands 16 = .ok (.iload_n 3, 1) ∧ decode cX8_lands 17 = .ok (.iload 4, 2) ∧ decode cX8_lands 19 = .ok (.iload 5, 2) ∧ decode cX8_lands 21 = .ok (.invokestatic 155, 3) ∧ decode cX8_lands 24 = .ok (.ifCond .ne 5, 3) ∧ decode cX8_lands 27 = .ok (.iconst (-1), 1) ∧ decode cX8_lands 28 = .ok (.ireturn, 1) ∧ decode cX8_lands 29 = .ok (.aload_n 0, 1) := by decide +kernel
theorem dX8_lands_16 : decode cX8_lands 16 = .ok (.iload_n 3, 1) := bdX8_lands_16.1
theorem dX8_lands_17 : decode cX8_lands 17 = .ok (.iload 4, 2) := bdX8_lands_16.2.1
theorem dX8_lands_19 : decode cX8_lands 19 = .ok (.iload 5, 2) := bdX8_lands_16.2.2.1
theorem dX8_lands_21 : decode cX8_lands 21 = .ok (.invokestatic 155, 3) := bdX8_lands_16.2.2.2.1
theorem dX8_lands_24 : decode cX8_lands 24 = .ok (.ifCond .ne 5, 3) := bdX8_lands_16.2.2.2.2.1
theorem dX8_lands_27 : decode cX8_lands 27 = .ok (.iconst (-1), 1) := bdX8_lands_16.2.2.2.2.2.1
theorem dX8_lands_28 : decode cX8_lands 28 = .ok (.ireturn, 1) := bdX8_lands_16.2.2.2.2.2.2.1
theorem dX8_lands_29 : decode cX8_lands 29 = .ok (.aload_n 0, 1) := bdX8_lands_16.2.2.2.2.2.2.2
theorem bdX8_lands_30 : decode cX8_lands 30 = .ok (.iload_n 1, 1) ∧ decode cX8_lands 31 = .ok (.iload_n 2, 1) ∧ decode cX8_lands 32 = .ok (.iload_n 3, 1) ∧ decode cX8_lands 33 = .ok (.iload 4, 2) ∧ decode cX8_lands 35 = .ok (.iload 5, 2) ∧ decode cX8_lands 37 = .ok (.aload_n 0, 1) ∧ decode cX8_lands 38 = .ok (.iconst 0, 1) ∧ decode cX8_lands 39 = .ok (.invokevirtual 151, 3) := by decide +kernel
theorem dX8_lands_30 : decode cX8_lands 30 = .ok (.iload_n 1, 1) := bdX8_lands_30.1
theorem dX8_lands_31 : decode cX8_lands 31 = .ok (.iload_n 2, 1) := bdX8_lands_30.2.1
theorem dX8_lands_32 : decode cX8_lands 32 = .ok (.iload_n 3, 1) := bdX8_lands_30.2.2.1
theorem dX8_lands_33 : decode cX8_lands 33 = .ok (.iload 4, 2) := bdX8_lands_30.2.2.2.1
theorem dX8_lands_35 : decode cX8_lands 35 = .ok (.iload 5, 2) := bdX8_lands_30.2.2.2.2.1
theorem dX8_lands_37 : decode cX8_lands 37 = .ok (.aload_n 0, 1) := bdX8_lands_30.2.2.2.2.2.1
theorem dX8_lands_38 : decode cX8_lands 38 = .ok (.iconst 0, 1) := bdX8_lands_30.2.2.2.2.2.2.1
theorem dX8_lands_39 : decode cX8_lands 39 = .ok (.invokevirtual 151, 3) := bdX8_lands_30.2.2.2.2.2.2.2
theorem bdX8_lands_42 : decode cX8_lands 42 = .ok (.invokevirtual 161, 3) ∧ decode cX8_lands 45 = .ok (.ireturn, 1) := by decide +kernel
theorem dX8_lands_42 : decode cX8_lands 42 = .ok (.invokevirtual 161, 3) := bdX8_lands_42.1
theorem dX8_lands_45 : decode cX8_lands 45 = .ok (.ireturn, 1) := bdX8_lands_42.2
set_option maxRecDepth 20000 in
set_option maxRecDepth 100000 in
theorem ggX8_areUnlike_X8_isOne : GoodIn wsX8_areUnlike wsX8_isOne := goodIn_hd (goodIn_c ch_X8_areUnlike hc_X8_areUnlike ([.code yX8_isOne cX8_isOne 2 (some .boolean)] : List Cond) [(1, 4)] rfl (by decide +kernel)) (goodIn_app (goodIn_c ch_X8_areUnlike hc_X8_areUnlike ([.fieldLink RX8 13 "WordFletchersModel" "people" "[I", .methodLink RX8 72 yX8_in, .static yX8_in, .initialized RX8, .code yX8_in cX8_in 3 (some .boolean)] : List Cond) [(1, 5), (1, 6), (1, 7), (1, 3), (1, 8)] rfl (by decide +kernel)) (goodIn_sub (fun _ h => (List.mem_cons_of_mem _ (List.mem_append_right _ h))) gwX8))
set_option maxRecDepth 20000 in
theorem gX8_areUnlike_X8_isOne : GoodIn wsX8_areUnlike (wsV RX8 142 RX8 yX8_isOne wsX8_isOne) := goodIn_app (goodIn_of _ (by decide +kernel)) ggX8_areUnlike_X8_isOne
theorem bdX8_areUnlike_0 : decode cX8_areUnlike 0 = .ok (.aload_n 0, 1) ∧ decode cX8_areUnlike 1 = .ok (.iload_n 1, 1) ∧ decode cX8_areUnlike 2 = .ok (.invokevirtual 142, 3) ∧ decode cX8_areUnlike 5 = .ok (.ifCond .eq 20, 3) ∧ decode cX8_areUnlike 8 = .ok (.aload_n 0, 1) ∧ decode cX8_areUnlike 9 = .ok (.iload_n 2, 1) ∧ decode cX8_areUnlike 10 = .ok (.invokevirtual 142, 3) ∧ decode cX8_areUnlike 13 = .ok (.ifCond .eq 12, 3) := by decide +kernel
theorem dX8_areUnlike_0 : decode cX8_areUnlike 0 = .ok (.aload_n 0, 1) := bdX8_areUnlike_0.1
theorem dX8_areUnlike_1 : decode cX8_areUnlike 1 = .ok (.iload_n 1, 1) := bdX8_areUnlike_0.2.1
theorem dX8_areUnlike_2 : decode cX8_areUnlike 2 = .ok (.invokevirtual 142, 3) := bdX8_areUnlike_0.2.2.1
theorem dX8_areUnlike_5 : decode cX8_areUnlike 5 = .ok (.ifCond .eq 20, 3) := bdX8_areUnlike_0.2.2.2.1
theorem dX8_areUnlike_8 : decode cX8_areUnlike 8 = .ok (.aload_n 0, 1) := bdX8_areUnlike_0.2.2.2.2.1
theorem dX8_areUnlike_9 : decode cX8_areUnlike 9 = .ok (.iload_n 2, 1) := bdX8_areUnlike_0.2.2.2.2.2.1
theorem dX8_areUnlike_10 : decode cX8_areUnlike 10 = .ok (.invokevirtual 142, 3) := bdX8_areUnlike_0.2.2.2.2.2.2.1
theorem dX8_areUnlike_13 : decode cX8_areUnlike 13 = .ok (.ifCond .eq 12, 3) := bdX8_areUnlike_0.2.2.2.2.2.2.2
theorem bdX8_areUnlike_16 : decode cX8_areUnlike 16 = .ok (.iload_n 1, 1) ∧ decode cX8_areUnlike 17 = .ok (.iload_n 2, 1) ∧ decode cX8_areUnlike 18 = .ok (.if_icmp .eq 7, 3) ∧ decode cX8_areUnlike 21 = .ok (.iconst 1, 1) ∧ decode cX8_areUnlike 22 = .ok (.goto 4, 3) ∧ decode cX8_areUnlike 25 = .ok (.iconst 0, 1) ∧ decode cX8_areUnlike 26 = .ok (.ireturn, 1) := by decide +kernel
theorem dX8_areUnlike_16 : decode cX8_areUnlike 16 = .ok (.iload_n 1, 1) := bdX8_areUnlike_16.1
theorem dX8_areUnlike_17 : decode cX8_areUnlike 17 = .ok (.iload_n 2, 1) := bdX8_areUnlike_16.2.1
theorem dX8_areUnlike_18 : decode cX8_areUnlike 18 = .ok (.if_icmp .eq 7, 3) := bdX8_areUnlike_16.2.2.1
theorem dX8_areUnlike_21 : decode cX8_areUnlike 21 = .ok (.iconst 1, 1) := bdX8_areUnlike_16.2.2.2.1
theorem dX8_areUnlike_22 : decode cX8_areUnlike 22 = .ok (.goto 4, 3) := bdX8_areUnlike_16.2.2.2.2.1
theorem dX8_areUnlike_25 : decode cX8_areUnlike 25 = .ok (.iconst 0, 1) := bdX8_areUnlike_16.2.2.2.2.2.1
theorem dX8_areUnlike_26 : decode cX8_areUnlike 26 = .ok (.ireturn, 1) := bdX8_areUnlike_16.2.2.2.2.2.2
set_option maxRecDepth 20000 in
set_option maxRecDepth 100000 in
theorem ggX8_isHeard_X8_landsBy : GoodIn wsX8_isHeard wsX8_landsBy := goodIn_hd (goodIn_c ch_X8_isHeard hc_X8_isHeard ([.code yX8_landsBy cX8_landsBy 11 (some .int)] : List Cond) [(1, 4)] rfl (by decide +kernel)) (goodIn_app (goodIn_c ch_X8_isHeard hc_X8_isHeard ([.fieldLink RX8 29 "WordFletchersModel" "twist" "[I", .fieldLink RX8 26 "WordFletchersModel" "weight" "[I", .fieldLink RX8 44 "WordFletchersModel" "now" "[I", .fieldLink RX8 17 "WordFletchersModel" "place" "[I", .methodLink RX8 134 yX8_liftOf, .static yX8_liftOf, .initialized RX8, .code yX8_liftOf cX8_liftOf 1 (some .int), .methodLink RX8 72 yX8_in, .static yX8_in, .code yX8_in cX8_in 3 (some .boolean)] : List Cond) [(1, 5), (1, 6), (1, 7), (1, 8), (1, 9), (1, 10), (1, 3), (1, 11), (1, 12), (1, 13), (1, 14)] rfl (by decide +kernel)) (goodIn_sub (fun _ h => (List.mem_cons_of_mem _ (List.mem_append_right _ h))) gwX8))
set_option maxRecDepth 20000 in
theorem gX8_isHeard_X8_landsBy : GoodIn wsX8_isHeard (wsV RX8 161 RX8 yX8_landsBy wsX8_landsBy) := goodIn_app (goodIn_of _ (by decide +kernel)) ggX8_isHeard_X8_landsBy
set_option maxRecDepth 20000 in
set_option maxRecDepth 100000 in
theorem ggX8_isHeard_X8_doesHear : GoodIn wsX8_isHeard wsX8_doesHear := goodIn_hd (goodIn_c ch_X8_isHeard hc_X8_isHeard ([.code yX8_doesHear cX8_doesHear 4 (some .boolean)] : List Cond) [(1, 18)] rfl (by decide +kernel)) (goodIn_app (goodIn_c ch_X8_isHeard hc_X8_isHeard ([.fieldLink RX8 17 "WordFletchersModel" "place" "[I", .fieldLink RX8 20 "WordFletchersModel" "ear" "[I"] : List Cond) [(1, 8), (1, 19)] rfl (by decide +kernel)) (goodIn_sub (fun _ h => (List.mem_cons_of_mem _ (List.mem_append_right _ h))) gwX8))
set_option maxRecDepth 20000 in
theorem gX8_isHeard_X8_doesHear : GoodIn wsX8_isHeard (wsV RX8 138 RX8 yX8_doesHear wsX8_doesHear) := goodIn_app (goodIn_of _ (by decide +kernel)) ggX8_isHeard_X8_doesHear
theorem bdX8_isHeard_0 : decode cX8_isHeard 0 = .ok (.aload_n 0, 1) ∧ decode cX8_isHeard 1 = .ok (.iload_n 2, 1) ∧ decode cX8_isHeard 2 = .ok (.aload_n 0, 1) ∧ decode cX8_isHeard 3 = .ok (.iload_n 1, 1) ∧ decode cX8_isHeard 4 = .ok (.iload_n 3, 1) ∧ decode cX8_isHeard 5 = .ok (.iload 4, 2) ∧ decode cX8_isHeard 7 = .ok (.bipush 100, 2) ∧ decode cX8_isHeard 9 = .ok (.idiv, 1) := by decide +kernel
theorem dX8_isHeard_0 : decode cX8_isHeard 0 = .ok (.aload_n 0, 1) := bdX8_isHeard_0.1
theorem dX8_isHeard_1 : decode cX8_isHeard 1 = .ok (.iload_n 2, 1) := bdX8_isHeard_0.2.1
theorem dX8_isHeard_2 : decode cX8_isHeard 2 = .ok (.aload_n 0, 1) := bdX8_isHeard_0.2.2.1
theorem dX8_isHeard_3 : decode cX8_isHeard 3 = .ok (.iload_n 1, 1) := bdX8_isHeard_0.2.2.2.1
theorem dX8_isHeard_4 : decode cX8_isHeard 4 = .ok (.iload_n 3, 1) := bdX8_isHeard_0.2.2.2.2.1
theorem dX8_isHeard_5 : decode cX8_isHeard 5 = .ok (.iload 4, 2) := bdX8_isHeard_0.2.2.2.2.2.1
theorem dX8_isHeard_7 : decode cX8_isHeard 7 = .ok (.bipush 100, 2) := bdX8_isHeard_0.2.2.2.2.2.2.1
theorem dX8_isHeard_9 : decode cX8_isHeard 9 = .ok (.idiv, 1) := bdX8_isHeard_0.2.2.2.2.2.2.2
theorem bdX8_isHeard_10 : decode cX8_isHeard 10 = .ok (.iload 4, 2) ∧ decode cX8_isHeard 12 = .ok (.bipush 10, 2) ∧ decode cX8_isHeard 14 = .ok (.idiv, 1) ∧ decode cX8_isHeard 15 = .ok (.bipush 10, 2) ∧ decode cX8_isHeard 17 = .ok (.irem, 1) ∧ decode cX8_isHeard 18 = .ok (.iload 4, 2) ∧ decode cX8_isHeard 20 = .ok (.bipush 10, 2) ∧ decode cX8_isHeard 22 = .ok (.irem, 1) := by decide +kernel
theorem dX8_isHeard_10 : decode cX8_isHeard 10 = .ok (.iload 4, 2) := bdX8_isHeard_10.1
theorem dX8_isHeard_12 : decode cX8_isHeard 12 = .ok (.bipush 10, 2) := bdX8_isHeard_10.2.1
theorem dX8_isHeard_14 : decode cX8_isHeard 14 = .ok (.idiv, 1) := bdX8_isHeard_10.2.2.1
theorem dX8_isHeard_15 : decode cX8_isHeard 15 = .ok (.bipush 10, 2) := bdX8_isHeard_10.2.2.2.1
theorem dX8_isHeard_17 : decode cX8_isHeard 17 = .ok (.irem, 1) := bdX8_isHeard_10.2.2.2.2.1
theorem dX8_isHeard_18 : decode cX8_isHeard 18 = .ok (.iload 4, 2) := bdX8_isHeard_10.2.2.2.2.2.1
theorem dX8_isHeard_20 : decode cX8_isHeard 20 = .ok (.bipush 10, 2) := bdX8_isHeard_10.2.2.2.2.2.2.1
theorem dX8_isHeard_22 : decode cX8_isHeard 22 = .ok (.irem, 1) := bdX8_isHeard_10.2.2.2.2.2.2.2
theorem bdX8_isHeard_23 : decode cX8_isHeard 23 = .ok (.iload 5, 2) ∧ decode cX8_isHeard 25 = .ok (.invokevirtual 161, 3) ∧ decode cX8_isHeard 28 = .ok (.invokevirtual 138, 3) ∧ decode cX8_isHeard 31 = .ok (.ireturn, 1) := by decide +kernel
theorem dX8_isHeard_23 : decode cX8_isHeard 23 = .ok (.iload 5, 2) := bdX8_isHeard_23.1
theorem dX8_isHeard_25 : decode cX8_isHeard 25 = .ok (.invokevirtual 161, 3) := bdX8_isHeard_23.2.1
theorem dX8_isHeard_28 : decode cX8_isHeard 28 = .ok (.invokevirtual 138, 3) := bdX8_isHeard_23.2.2.1
theorem dX8_isHeard_31 : decode cX8_isHeard 31 = .ok (.ireturn, 1) := bdX8_isHeard_23.2.2.2
set_option maxRecDepth 20000 in
set_option maxRecDepth 100000 in
theorem ggX8_call_X8_areUnlike : GoodIn wsX8_call wsX8_areUnlike := goodIn_hd (goodIn_c ch_X8_call hc_X8_call ([.code yX8_areUnlike cX8_areUnlike 3 (some .boolean)] : List Cond) [(1, 4)] rfl (by decide +kernel)) (goodIn_app (goodIn_c ch_X8_call hc_X8_call ([.methodLink RX8 142 yX8_isOne, .instanceMethod yX8_isOne, .selects RX8 yX8_isOne yX8_isOne, .initialized RX8, .code yX8_isOne cX8_isOne 2 (some .boolean), .fieldLink RX8 13 "WordFletchersModel" "people" "[I", .methodLink RX8 72 yX8_in, .static yX8_in, .code yX8_in cX8_in 3 (some .boolean)] : List Cond) [(1, 5), (1, 6), (1, 7), (1, 3), (1, 8), (1, 9), (1, 10), (1, 11), (1, 12)] rfl (by decide +kernel)) (goodIn_sub (fun _ h => (List.mem_cons_of_mem _ (List.mem_append_right _ h))) gwX8))
set_option maxRecDepth 20000 in
theorem gX8_call_X8_areUnlike : GoodIn wsX8_call (wsV RX8 171 RX8 yX8_areUnlike wsX8_areUnlike) := goodIn_app (goodIn_of _ (by decide +kernel)) ggX8_call_X8_areUnlike
set_option maxRecDepth 20000 in
set_option maxRecDepth 100000 in
theorem ggX8_call_X8_isSaying : GoodIn wsX8_call wsX8_isSaying := goodIn_hd (goodIn_c ch_X8_call hc_X8_call ([.code yX8_isSaying cX8_isSaying 2 (some .boolean)] : List Cond) [(1, 16)] rfl (by decide +kernel)) (goodIn_app (goodIn_c ch_X8_call hc_X8_call ([.fieldLink RX8 23 "WordFletchersModel" "sayings" "[I", .methodLink RX8 72 yX8_in, .static yX8_in, .initialized RX8, .code yX8_in cX8_in 3 (some .boolean)] : List Cond) [(1, 17), (1, 10), (1, 11), (1, 3), (1, 12)] rfl (by decide +kernel)) (goodIn_sub (fun _ h => (List.mem_cons_of_mem _ (List.mem_append_right _ h))) gwX8))
set_option maxRecDepth 20000 in
theorem gX8_call_X8_isSaying : GoodIn wsX8_call (wsV RX8 148 RX8 yX8_isSaying wsX8_isSaying) := goodIn_app (goodIn_of _ (by decide +kernel)) ggX8_call_X8_isSaying
set_option maxRecDepth 20000 in
set_option maxRecDepth 100000 in
theorem ggX8_call_X8_windIn : GoodIn wsX8_call wsX8_windIn := goodIn_hd (goodIn_c ch_X8_call hc_X8_call ([.code yX8_windIn cX8_windIn 2 (some .int)] : List Cond) [(1, 21)] rfl (by decide +kernel)) (goodIn_app (goodIn_c ch_X8_call hc_X8_call ([.fieldLink RX8 38 "WordFletchersModel" "wind" "[I", .fieldLink RX8 44 "WordFletchersModel" "now" "[I", .fieldLink RX8 35 "WordFletchersModel" "winds" "[I"] : List Cond) [(1, 22), (1, 23), (2, 0)] rfl (by decide +kernel)) (goodIn_sub (fun _ h => (List.mem_cons_of_mem _ (List.mem_append_right _ h))) gwX8))
set_option maxRecDepth 20000 in
theorem gX8_call_X8_windIn : GoodIn wsX8_call (wsV RX8 151 RX8 yX8_windIn wsX8_windIn) := goodIn_app (goodIn_of _ (by decide +kernel)) ggX8_call_X8_windIn
set_option maxRecDepth 20000 in
set_option maxRecDepth 100000 in
theorem ggX8_call_X8_isHeard : GoodIn wsX8_call wsX8_isHeard := goodIn_hd (goodIn_c ch_X8_call hc_X8_call ([.code yX8_isHeard cX8_isHeard 6 (some .boolean)] : List Cond) [(2, 4)] rfl (by decide +kernel)) (goodIn_app (goodIn_c ch_X8_call hc_X8_call ([.methodLink RX8 161 yX8_landsBy, .instanceMethod yX8_landsBy, .selects RX8 yX8_landsBy yX8_landsBy, .initialized RX8, .code yX8_landsBy cX8_landsBy 11 (some .int), .fieldLink RX8 29 "WordFletchersModel" "twist" "[I", .fieldLink RX8 26 "WordFletchersModel" "weight" "[I", .fieldLink RX8 44 "WordFletchersModel" "now" "[I", .fieldLink RX8 17 "WordFletchersModel" "place" "[I", .methodLink RX8 134 yX8_liftOf, .static yX8_liftOf, .code yX8_liftOf cX8_liftOf 1 (some .int), .methodLink RX8 72 yX8_in, .static yX8_in, .code yX8_in cX8_in 3 (some .boolean), .methodLink RX8 138 yX8_doesHear, .instanceMethod yX8_doesHear, .selects RX8 yX8_doesHear yX8_doesHear, .code yX8_doesHear cX8_doesHear 4 (some .boolean), .fieldLink RX8 20 "WordFletchersModel" "ear" "[I"] : List Cond) [(2, 5), (2, 6), (2, 7), (1, 3), (2, 8), (2, 9), (2, 10), (1, 23), (2, 11), (2, 12), (2, 13), (2, 14), (1, 10), (1, 11), (1, 12), (2, 15), (2, 16), (2, 17), (2, 18), (2, 19)] rfl (by decide +kernel)) (goodIn_sub (fun _ h => (List.mem_cons_of_mem _ (List.mem_append_right _ h))) gwX8))
set_option maxRecDepth 20000 in
theorem gX8_call_X8_isHeard : GoodIn wsX8_call (wsV RX8 174 RX8 yX8_isHeard wsX8_isHeard) := goodIn_app (goodIn_of _ (by decide +kernel)) ggX8_call_X8_isHeard
theorem bdX8_call_0 : decode cX8_call 0 = .ok (.aload_n 0, 1) ∧ decode cX8_call 1 = .ok (.iload_n 1, 1) ∧ decode cX8_call 2 = .ok (.iload_n 2, 1) ∧ decode cX8_call 3 = .ok (.invokevirtual 171, 3) ∧ decode cX8_call 6 = .ok (.ifCond .eq 11, 3) ∧ decode cX8_call 9 = .ok (.aload_n 0, 1) ∧ decode cX8_call 10 = .ok (.iload_n 3, 1) ∧ decode cX8_call 11 = .ok (.invokevirtual 148, 3) := by decide +kernel
theorem dX8_call_0 : decode cX8_call 0 = .ok (.aload_n 0, 1) := bdX8_call_0.1
theorem dX8_call_1 : decode cX8_call 1 = .ok (.iload_n 1, 1) := bdX8_call_0.2.1
theorem dX8_call_2 : decode cX8_call 2 = .ok (.iload_n 2, 1) := bdX8_call_0.2.2.1
theorem dX8_call_3 : decode cX8_call 3 = .ok (.invokevirtual 171, 3) := bdX8_call_0.2.2.2.1
theorem dX8_call_6 : decode cX8_call 6 = .ok (.ifCond .eq 11, 3) := bdX8_call_0.2.2.2.2.1
theorem dX8_call_9 : decode cX8_call 9 = .ok (.aload_n 0, 1) := bdX8_call_0.2.2.2.2.2.1
theorem dX8_call_10 : decode cX8_call 10 = .ok (.iload_n 3, 1) := bdX8_call_0.2.2.2.2.2.2.1
theorem dX8_call_11 : decode cX8_call 11 = .ok (.invokevirtual 148, 3) := bdX8_call_0.2.2.2.2.2.2.2
theorem bdX8_call_14 : decode cX8_call 14 = .ok (.ifCond .ne 5, 3) ∧ decode cX8_call 17 = .ok (.iconst (-1), 1) ∧ decode cX8_call 18 = .ok (.ireturn, 1) ∧ decode cX8_call 19 = .ok (.iconst 0, 1) ∧ decode cX8_call 20 = .ok (.istore 4, 2) ∧ decode cX8_call 22 = .ok (.iload 4, 2) ∧ decode cX8_call 24 = .ok (.iconst 3, 1) ∧ decode cX8_call 25 = .ok (.if_icmp .gt 84, 3) := by decide +kernel
theorem dX8_call_14 : decode cX8_call 14 = .ok (.ifCond .ne 5, 3) := bdX8_call_14.1
theorem dX8_call_17 : decode cX8_call 17 = .ok (.iconst (-1), 1) := bdX8_call_14.2.1
theorem dX8_call_18 : decode cX8_call 18 = .ok (.ireturn, 1) := bdX8_call_14.2.2.1
theorem dX8_call_19 : decode cX8_call 19 = .ok (.iconst 0, 1) := bdX8_call_14.2.2.2.1
theorem dX8_call_20 : decode cX8_call 20 = .ok (.istore 4, 2) := bdX8_call_14.2.2.2.2.1
theorem dX8_call_22 : decode cX8_call 22 = .ok (.iload 4, 2) := bdX8_call_14.2.2.2.2.2.1
theorem dX8_call_24 : decode cX8_call 24 = .ok (.iconst 3, 1) := bdX8_call_14.2.2.2.2.2.2.1
theorem dX8_call_25 : decode cX8_call 25 = .ok (.if_icmp .gt 84, 3) := bdX8_call_14.2.2.2.2.2.2.2
theorem bdX8_call_28 : decode cX8_call 28 = .ok (.iconst 0, 1) ∧ decode cX8_call 29 = .ok (.istore 5, 2) ∧ decode cX8_call 31 = .ok (.iload 5, 2) ∧ decode cX8_call 33 = .ok (.iload 4, 2) ∧ decode cX8_call 35 = .ok (.ifCond .ne 7, 3) ∧ decode cX8_call 38 = .ok (.iconst 1, 1) ∧ decode cX8_call 39 = .ok (.goto 4, 3) ∧ decode cX8_call 42 = .ok (.iconst 4, 1) := by decide +kernel
theorem dX8_call_28 : decode cX8_call 28 = .ok (.iconst 0, 1) := bdX8_call_28.1
theorem dX8_call_29 : decode cX8_call 29 = .ok (.istore 5, 2) := bdX8_call_28.2.1
theorem dX8_call_31 : decode cX8_call 31 = .ok (.iload 5, 2) := bdX8_call_28.2.2.1
theorem dX8_call_33 : decode cX8_call 33 = .ok (.iload 4, 2) := bdX8_call_28.2.2.2.1
theorem dX8_call_35 : decode cX8_call 35 = .ok (.ifCond .ne 7, 3) := bdX8_call_28.2.2.2.2.1
theorem dX8_call_38 : decode cX8_call 38 = .ok (.iconst 1, 1) := bdX8_call_28.2.2.2.2.2.1
theorem dX8_call_39 : decode cX8_call 39 = .ok (.goto 4, 3) := bdX8_call_28.2.2.2.2.2.2.1
theorem dX8_call_42 : decode cX8_call 42 = .ok (.iconst 4, 1) := bdX8_call_28.2.2.2.2.2.2.2
theorem bdX8_call_43 : decode cX8_call 43 = .ok (.if_icmp .ge 60, 3) ∧ decode cX8_call 46 = .ok (.iconst 0, 1) ∧ decode cX8_call 47 = .ok (.istore 6, 2) ∧ decode cX8_call 49 = .ok (.iload 6, 2) ∧ decode cX8_call 51 = .ok (.iconst 1, 1) ∧ decode cX8_call 52 = .ok (.if_icmp .gt 45, 3) ∧ decode cX8_call 55 = .ok (.bipush 100, 2) ∧ decode cX8_call 57 = .ok (.iload 5, 2) := by decide +kernel
theorem dX8_call_43 : decode cX8_call 43 = .ok (.if_icmp .ge 60, 3) := bdX8_call_43.1
theorem dX8_call_46 : decode cX8_call 46 = .ok (.iconst 0, 1) := bdX8_call_43.2.1
theorem dX8_call_47 : decode cX8_call 47 = .ok (.istore 6, 2) := bdX8_call_43.2.2.1
theorem dX8_call_49 : decode cX8_call 49 = .ok (.iload 6, 2) := bdX8_call_43.2.2.2.1
theorem dX8_call_51 : decode cX8_call 51 = .ok (.iconst 1, 1) := bdX8_call_43.2.2.2.2.1
theorem dX8_call_52 : decode cX8_call 52 = .ok (.if_icmp .gt 45, 3) := bdX8_call_43.2.2.2.2.2.1
theorem dX8_call_55 : decode cX8_call 55 = .ok (.bipush 100, 2) := bdX8_call_43.2.2.2.2.2.2.1
theorem dX8_call_57 : decode cX8_call 57 = .ok (.iload 5, 2) := bdX8_call_43.2.2.2.2.2.2.2
theorem bdX8_call_59 : decode cX8_call 59 = .ok (.imul, 1) ∧ decode cX8_call 60 = .ok (.bipush 10, 2) ∧ decode cX8_call 62 = .ok (.iload 4, 2) ∧ decode cX8_call 64 = .ok (.imul, 1) ∧ decode cX8_call 65 = .ok (.iadd, 1) ∧ decode cX8_call 66 = .ok (.iload 6, 2) ∧ decode cX8_call 68 = .ok (.iadd, 1) ∧ decode cX8_call 69 = .ok (.istore 7, 2) := by decide +kernel
theorem dX8_call_59 : decode cX8_call 59 = .ok (.imul, 1) := bdX8_call_59.1
theorem dX8_call_60 : decode cX8_call 60 = .ok (.bipush 10, 2) := bdX8_call_59.2.1
theorem dX8_call_62 : decode cX8_call 62 = .ok (.iload 4, 2) := bdX8_call_59.2.2.1
theorem dX8_call_64 : decode cX8_call 64 = .ok (.imul, 1) := bdX8_call_59.2.2.2.1
theorem dX8_call_65 : decode cX8_call 65 = .ok (.iadd, 1) := bdX8_call_59.2.2.2.2.1
theorem dX8_call_66 : decode cX8_call 66 = .ok (.iload 6, 2) := bdX8_call_59.2.2.2.2.2.1
theorem dX8_call_68 : decode cX8_call 68 = .ok (.iadd, 1) := bdX8_call_59.2.2.2.2.2.2.1
theorem dX8_call_69 : decode cX8_call 69 = .ok (.istore 7, 2) := bdX8_call_59.2.2.2.2.2.2.2
theorem bdX8_call_71 : decode cX8_call 71 = .ok (.aload_n 0, 1) ∧ decode cX8_call 72 = .ok (.iload_n 1, 1) ∧ decode cX8_call 73 = .ok (.iload_n 2, 1) ∧ decode cX8_call 74 = .ok (.iload_n 3, 1) ∧ decode cX8_call 75 = .ok (.iload 7, 2) ∧ decode cX8_call 77 = .ok (.aload_n 0, 1) ∧ decode cX8_call 78 = .ok (.iconst 0, 1) ∧ decode cX8_call 79 = .ok (.invokevirtual 151, 3) := by decide +kernel
theorem dX8_call_71 : decode cX8_call 71 = .ok (.aload_n 0, 1) := bdX8_call_71.1
theorem dX8_call_72 : decode cX8_call 72 = .ok (.iload_n 1, 1) := bdX8_call_71.2.1
theorem dX8_call_73 : decode cX8_call 73 = .ok (.iload_n 2, 1) := bdX8_call_71.2.2.1
theorem dX8_call_74 : decode cX8_call 74 = .ok (.iload_n 3, 1) := bdX8_call_71.2.2.2.1
theorem dX8_call_75 : decode cX8_call 75 = .ok (.iload 7, 2) := bdX8_call_71.2.2.2.2.1
theorem dX8_call_77 : decode cX8_call 77 = .ok (.aload_n 0, 1) := bdX8_call_71.2.2.2.2.2.1
theorem dX8_call_78 : decode cX8_call 78 = .ok (.iconst 0, 1) := bdX8_call_71.2.2.2.2.2.2.1
theorem dX8_call_79 : decode cX8_call 79 = .ok (.invokevirtual 151, 3) := bdX8_call_71.2.2.2.2.2.2.2
theorem bdX8_call_82 : decode cX8_call 82 = .ok (.invokevirtual 174, 3) ∧ decode cX8_call 85 = .ok (.ifCond .eq 6, 3) ∧ decode cX8_call 88 = .ok (.iload 7, 2) ∧ decode cX8_call 90 = .ok (.ireturn, 1) ∧ decode cX8_call 91 = .ok (.iinc 6 1, 3) ∧ decode cX8_call 94 = .ok (.goto (-45), 3) ∧ decode cX8_call 97 = .ok (.iinc 5 1, 3) ∧ decode cX8_call 100 = .ok (.goto (-69), 3) := by decide +kernel
theorem dX8_call_82 : decode cX8_call 82 = .ok (.invokevirtual 174, 3) := bdX8_call_82.1
theorem dX8_call_85 : decode cX8_call 85 = .ok (.ifCond .eq 6, 3) := bdX8_call_82.2.1
theorem dX8_call_88 : decode cX8_call 88 = .ok (.iload 7, 2) := bdX8_call_82.2.2.1
theorem dX8_call_90 : decode cX8_call 90 = .ok (.ireturn, 1) := bdX8_call_82.2.2.2.1
theorem dX8_call_91 : decode cX8_call 91 = .ok (.iinc 6 1, 3) := bdX8_call_82.2.2.2.2.1
theorem dX8_call_94 : decode cX8_call 94 = .ok (.goto (-45), 3) := bdX8_call_82.2.2.2.2.2.1
theorem dX8_call_97 : decode cX8_call 97 = .ok (.iinc 5 1, 3) := bdX8_call_82.2.2.2.2.2.2.1
theorem dX8_call_100 : decode cX8_call 100 = .ok (.goto (-69), 3) := bdX8_call_82.2.2.2.2.2.2.2
theorem bdX8_call_103 : decode cX8_call 103 = .ok (.iinc 4 1, 3) ∧ decode cX8_call 106 = .ok (.goto (-84), 3) ∧ decode cX8_call 109 = .ok (.bipush (-9), 2) ∧ decode cX8_call 111 = .ok (.ireturn, 1) := by decide +kernel
theorem dX8_call_103 : decode cX8_call 103 = .ok (.iinc 4 1, 3) := bdX8_call_103.1
theorem dX8_call_106 : decode cX8_call 106 = .ok (.goto (-84), 3) := bdX8_call_103.2.1
theorem dX8_call_109 : decode cX8_call 109 = .ok (.bipush (-9), 2) := bdX8_call_103.2.2.1
theorem dX8_call_111 : decode cX8_call 111 = .ok (.ireturn, 1) := bdX8_call_103.2.2.2
set_option maxRecDepth 20000 in
set_option maxRecDepth 100000 in
theorem ggX8_isShotBy_X8_isShot : GoodIn wsX8_isShotBy wsX8_isShot := goodIn_hd (goodIn_c ch_X8_isShotBy hc_X8_isShotBy ([.code yX8_isShot cX8_isShot 3 (some .boolean)] : List Cond) [(1, 3)] rfl (by decide +kernel)) (goodIn_c ch_X8_isShotBy hc_X8_isShotBy ([.methodLink RX8 72 yX8_in, .static yX8_in, .initialized RX8, .code yX8_in cX8_in 3 (some .boolean)] : List Cond) [(1, 4), (1, 5), (1, 2), (1, 6)] rfl (by decide +kernel))
set_option maxRecDepth 20000 in
theorem gX8_isShotBy_X8_isShot : GoodIn wsX8_isShotBy (va_wsS RX8 155 yX8_isShot wsX8_isShot) := goodIn_app (goodIn_of _ (by decide +kernel)) ggX8_isShotBy_X8_isShot
theorem bdX8_isShotBy_0 : decode cX8_isShotBy 0 = .ok (.iload_n 0, 1) ∧ decode cX8_isShotBy 1 = .ok (.ifCond .lt 28, 3) ∧ decode cX8_isShotBy 4 = .ok (.iload_n 0, 1) ∧ decode cX8_isShotBy 5 = .ok (.bipush 100, 2) ∧ decode cX8_isShotBy 7 = .ok (.idiv, 1) ∧ decode cX8_isShotBy 8 = .ok (.iload_n 0, 1) ∧ decode cX8_isShotBy 9 = .ok (.bipush 10, 2) ∧ decode cX8_isShotBy 11 = .ok (.idiv, 1) := by decide +kernel
theorem dX8_isShotBy_0 : decode cX8_isShotBy 0 = .ok (.iload_n 0, 1) := bdX8_isShotBy_0.1
theorem dX8_isShotBy_1 : decode cX8_isShotBy 1 = .ok (.ifCond .lt 28, 3) := bdX8_isShotBy_0.2.1
theorem dX8_isShotBy_4 : decode cX8_isShotBy 4 = .ok (.iload_n 0, 1) := bdX8_isShotBy_0.2.2.1
theorem dX8_isShotBy_5 : decode cX8_isShotBy 5 = .ok (.bipush 100, 2) := bdX8_isShotBy_0.2.2.2.1
theorem dX8_isShotBy_7 : decode cX8_isShotBy 7 = .ok (.idiv, 1) := bdX8_isShotBy_0.2.2.2.2.1
theorem dX8_isShotBy_8 : decode cX8_isShotBy 8 = .ok (.iload_n 0, 1) := bdX8_isShotBy_0.2.2.2.2.2.1
theorem dX8_isShotBy_9 : decode cX8_isShotBy 9 = .ok (.bipush 10, 2) := bdX8_isShotBy_0.2.2.2.2.2.2.1
theorem dX8_isShotBy_11 : decode cX8_isShotBy 11 = .ok (.idiv, 1) := bdX8_isShotBy_0.2.2.2.2.2.2.2
theorem bdX8_isShotBy_12 : decode cX8_isShotBy 12 = .ok (.bipush 10, 2) ∧ decode cX8_isShotBy 14 = .ok (.irem, 1) ∧ decode cX8_isShotBy 15 = .ok (.iload_n 0, 1) ∧ decode cX8_isShotBy 16 = .ok (.bipush 10, 2) ∧ decode cX8_isShotBy 18 = .ok (.irem, 1) ∧ decode cX8_isShotBy 19 = .ok (.invokestatic 155, 3) ∧ decode cX8_isShotBy 22 = .ok (.ifCond .eq 7, 3) ∧ decode cX8_isShotBy 25 = .ok (.iconst 1, 1) := by decide +kernel
theorem dX8_isShotBy_12 : decode cX8_isShotBy 12 = .ok (.bipush 10, 2) := bdX8_isShotBy_12.1
theorem dX8_isShotBy_14 : decode cX8_isShotBy 14 = .ok (.irem, 1) := bdX8_isShotBy_12.2.1
theorem dX8_isShotBy_15 : decode cX8_isShotBy 15 = .ok (.iload_n 0, 1) := bdX8_isShotBy_12.2.2.1
theorem dX8_isShotBy_16 : decode cX8_isShotBy 16 = .ok (.bipush 10, 2) := bdX8_isShotBy_12.2.2.2.1
theorem dX8_isShotBy_18 : decode cX8_isShotBy 18 = .ok (.irem, 1) := bdX8_isShotBy_12.2.2.2.2.1
theorem dX8_isShotBy_19 : decode cX8_isShotBy 19 = .ok (.invokestatic 155, 3) := bdX8_isShotBy_12.2.2.2.2.2.1
theorem dX8_isShotBy_22 : decode cX8_isShotBy 22 = .ok (.ifCond .eq 7, 3) := bdX8_isShotBy_12.2.2.2.2.2.2.1
theorem dX8_isShotBy_25 : decode cX8_isShotBy 25 = .ok (.iconst 1, 1) := bdX8_isShotBy_12.2.2.2.2.2.2.2
theorem bdX8_isShotBy_26 : decode cX8_isShotBy 26 = .ok (.goto 4, 3) ∧ decode cX8_isShotBy 29 = .ok (.iconst 0, 1) ∧ decode cX8_isShotBy 30 = .ok (.ireturn, 1) := by decide +kernel
theorem dX8_isShotBy_26 : decode cX8_isShotBy 26 = .ok (.goto 4, 3) := bdX8_isShotBy_26.1
theorem dX8_isShotBy_29 : decode cX8_isShotBy 29 = .ok (.iconst 0, 1) := bdX8_isShotBy_26.2.1
theorem dX8_isShotBy_30 : decode cX8_isShotBy 30 = .ok (.ireturn, 1) := bdX8_isShotBy_26.2.2
set_option maxRecDepth 20000 in
set_option maxRecDepth 100000 in
theorem ggX8_waits_X8_areUnlike : GoodIn wsX8_waits wsX8_areUnlike := goodIn_hd (goodIn_c ch_X8_waits hc_X8_waits ([.code yX8_areUnlike cX8_areUnlike 3 (some .boolean)] : List Cond) [(1, 4)] rfl (by decide +kernel)) (goodIn_app (goodIn_c ch_X8_waits hc_X8_waits ([.methodLink RX8 142 yX8_isOne, .instanceMethod yX8_isOne, .selects RX8 yX8_isOne yX8_isOne, .initialized RX8, .code yX8_isOne cX8_isOne 2 (some .boolean), .fieldLink RX8 13 "WordFletchersModel" "people" "[I", .methodLink RX8 72 yX8_in, .static yX8_in, .code yX8_in cX8_in 3 (some .boolean)] : List Cond) [(1, 5), (1, 6), (1, 7), (1, 3), (1, 8), (1, 9), (1, 10), (1, 11), (1, 12)] rfl (by decide +kernel)) (goodIn_sub (fun _ h => (List.mem_cons_of_mem _ (List.mem_append_right _ h))) gwX8))
set_option maxRecDepth 20000 in
theorem gX8_waits_X8_areUnlike : GoodIn wsX8_waits (wsV RX8 171 RX8 yX8_areUnlike wsX8_areUnlike) := goodIn_app (goodIn_of _ (by decide +kernel)) ggX8_waits_X8_areUnlike
set_option maxRecDepth 20000 in
set_option maxRecDepth 100000 in
theorem ggX8_waits_X8_isSaying : GoodIn wsX8_waits wsX8_isSaying := goodIn_hd (goodIn_c ch_X8_waits hc_X8_waits ([.code yX8_isSaying cX8_isSaying 2 (some .boolean)] : List Cond) [(1, 16)] rfl (by decide +kernel)) (goodIn_app (goodIn_c ch_X8_waits hc_X8_waits ([.fieldLink RX8 23 "WordFletchersModel" "sayings" "[I", .methodLink RX8 72 yX8_in, .static yX8_in, .initialized RX8, .code yX8_in cX8_in 3 (some .boolean)] : List Cond) [(1, 17), (1, 10), (1, 11), (1, 3), (1, 12)] rfl (by decide +kernel)) (goodIn_sub (fun _ h => (List.mem_cons_of_mem _ (List.mem_append_right _ h))) gwX8))
set_option maxRecDepth 20000 in
theorem gX8_waits_X8_isSaying : GoodIn wsX8_waits (wsV RX8 148 RX8 yX8_isSaying wsX8_isSaying) := goodIn_app (goodIn_of _ (by decide +kernel)) ggX8_waits_X8_isSaying
set_option maxRecDepth 20000 in
set_option maxRecDepth 100000 in
theorem ggX8_waits_X8_isShotBy : GoodIn wsX8_waits wsX8_isShotBy := goodIn_hd (goodIn_c ch_X8_waits hc_X8_waits ([.code yX8_isShotBy cX8_isShotBy 1 (some .boolean)] : List Cond) [(1, 20)] rfl (by decide +kernel)) (goodIn_c ch_X8_waits hc_X8_waits ([.methodLink RX8 155 yX8_isShot, .static yX8_isShot, .initialized RX8, .code yX8_isShot cX8_isShot 3 (some .boolean), .methodLink RX8 72 yX8_in, .static yX8_in, .code yX8_in cX8_in 3 (some .boolean)] : List Cond) [(1, 21), (1, 22), (1, 3), (1, 23), (1, 10), (1, 11), (1, 12)] rfl (by decide +kernel))
set_option maxRecDepth 20000 in
theorem gX8_waits_X8_isShotBy : GoodIn wsX8_waits (va_wsS RX8 178 yX8_isShotBy wsX8_isShotBy) := goodIn_app (goodIn_of _ (by decide +kernel)) ggX8_waits_X8_isShotBy
set_option maxRecDepth 20000 in
set_option maxRecDepth 100000 in
theorem ggX8_waits_X8_windIn : GoodIn wsX8_waits wsX8_windIn := goodIn_hd (goodIn_c ch_X8_waits hc_X8_waits ([.code yX8_windIn cX8_windIn 2 (some .int)] : List Cond) [(2, 3)] rfl (by decide +kernel)) (goodIn_app (goodIn_c ch_X8_waits hc_X8_waits ([.fieldLink RX8 38 "WordFletchersModel" "wind" "[I", .fieldLink RX8 44 "WordFletchersModel" "now" "[I", .fieldLink RX8 35 "WordFletchersModel" "winds" "[I"] : List Cond) [(2, 4), (2, 5), (2, 6)] rfl (by decide +kernel)) (goodIn_sub (fun _ h => (List.mem_cons_of_mem _ (List.mem_append_right _ h))) gwX8))
set_option maxRecDepth 20000 in
theorem gX8_waits_X8_windIn : GoodIn wsX8_waits (wsV RX8 151 RX8 yX8_windIn wsX8_windIn) := goodIn_app (goodIn_of _ (by decide +kernel)) ggX8_waits_X8_windIn
set_option maxRecDepth 20000 in
set_option maxRecDepth 100000 in
theorem ggX8_waits_X8_isHeard : GoodIn wsX8_waits wsX8_isHeard := goodIn_hd (goodIn_c ch_X8_waits hc_X8_waits ([.code yX8_isHeard cX8_isHeard 6 (some .boolean)] : List Cond) [(2, 10)] rfl (by decide +kernel)) (goodIn_app (goodIn_c ch_X8_waits hc_X8_waits ([.methodLink RX8 161 yX8_landsBy, .instanceMethod yX8_landsBy, .selects RX8 yX8_landsBy yX8_landsBy, .initialized RX8, .code yX8_landsBy cX8_landsBy 11 (some .int), .fieldLink RX8 29 "WordFletchersModel" "twist" "[I", .fieldLink RX8 26 "WordFletchersModel" "weight" "[I", .fieldLink RX8 44 "WordFletchersModel" "now" "[I", .fieldLink RX8 17 "WordFletchersModel" "place" "[I", .methodLink RX8 134 yX8_liftOf, .static yX8_liftOf, .code yX8_liftOf cX8_liftOf 1 (some .int), .methodLink RX8 72 yX8_in, .static yX8_in, .code yX8_in cX8_in 3 (some .boolean), .methodLink RX8 138 yX8_doesHear, .instanceMethod yX8_doesHear, .selects RX8 yX8_doesHear yX8_doesHear, .code yX8_doesHear cX8_doesHear 4 (some .boolean), .fieldLink RX8 20 "WordFletchersModel" "ear" "[I"] : List Cond) [(2, 11), (2, 12), (2, 13), (1, 3), (2, 14), (2, 15), (2, 16), (2, 5), (2, 17), (2, 18), (2, 19), (2, 20), (1, 10), (1, 11), (1, 12), (2, 21), (2, 22), (2, 23), (3, 0), (3, 1)] rfl (by decide +kernel)) (goodIn_sub (fun _ h => (List.mem_cons_of_mem _ (List.mem_append_right _ h))) gwX8))
set_option maxRecDepth 20000 in
theorem gX8_waits_X8_isHeard : GoodIn wsX8_waits (wsV RX8 174 RX8 yX8_isHeard wsX8_isHeard) := goodIn_app (goodIn_of _ (by decide +kernel)) ggX8_waits_X8_isHeard
theorem bdX8_waits_0 : decode cX8_waits 0 = .ok (.aload_n 0, 1) ∧ decode cX8_waits 1 = .ok (.iload_n 1, 1) ∧ decode cX8_waits 2 = .ok (.iload_n 2, 1) ∧ decode cX8_waits 3 = .ok (.invokevirtual 171, 3) ∧ decode cX8_waits 6 = .ok (.ifCond .eq 19, 3) ∧ decode cX8_waits 9 = .ok (.aload_n 0, 1) ∧ decode cX8_waits 10 = .ok (.iload_n 3, 1) ∧ decode cX8_waits 11 = .ok (.invokevirtual 148, 3) := by decide +kernel
theorem dX8_waits_0 : decode cX8_waits 0 = .ok (.aload_n 0, 1) := bdX8_waits_0.1
theorem dX8_waits_1 : decode cX8_waits 1 = .ok (.iload_n 1, 1) := bdX8_waits_0.2.1
theorem dX8_waits_2 : decode cX8_waits 2 = .ok (.iload_n 2, 1) := bdX8_waits_0.2.2.1
theorem dX8_waits_3 : decode cX8_waits 3 = .ok (.invokevirtual 171, 3) := bdX8_waits_0.2.2.2.1
theorem dX8_waits_6 : decode cX8_waits 6 = .ok (.ifCond .eq 19, 3) := bdX8_waits_0.2.2.2.2.1
theorem dX8_waits_9 : decode cX8_waits 9 = .ok (.aload_n 0, 1) := bdX8_waits_0.2.2.2.2.2.1
theorem dX8_waits_10 : decode cX8_waits 10 = .ok (.iload_n 3, 1) := bdX8_waits_0.2.2.2.2.2.2.1
theorem dX8_waits_11 : decode cX8_waits 11 = .ok (.invokevirtual 148, 3) := bdX8_waits_0.2.2.2.2.2.2.2
theorem bdX8_waits_14 : decode cX8_waits 14 = .ok (.ifCond .eq 11, 3) ∧ decode cX8_waits 17 = .ok (.iload 4, 2) ∧ decode cX8_waits 19 = .ok (.invokestatic 178, 3) ∧ decode cX8_waits 22 = .ok (.ifCond .ne 5, 3) ∧ decode cX8_waits 25 = .ok (.iconst (-1), 1) ∧ decode cX8_waits 26 = .ok (.ireturn, 1) ∧ decode cX8_waits 27 = .ok (.iconst 0, 1) ∧ decode cX8_waits 28 = .ok (.istore 5, 2) := by decide +kernel
theorem dX8_waits_14 : decode cX8_waits 14 = .ok (.ifCond .eq 11, 3) := bdX8_waits_14.1
theorem dX8_waits_17 : decode cX8_waits 17 = .ok (.iload 4, 2) := bdX8_waits_14.2.1
theorem dX8_waits_19 : decode cX8_waits 19 = .ok (.invokestatic 178, 3) := bdX8_waits_14.2.2.1
theorem dX8_waits_22 : decode cX8_waits 22 = .ok (.ifCond .ne 5, 3) := bdX8_waits_14.2.2.2.1
theorem dX8_waits_25 : decode cX8_waits 25 = .ok (.iconst (-1), 1) := bdX8_waits_14.2.2.2.2.1
theorem dX8_waits_26 : decode cX8_waits 26 = .ok (.ireturn, 1) := bdX8_waits_14.2.2.2.2.2.1
theorem dX8_waits_27 : decode cX8_waits 27 = .ok (.iconst 0, 1) := bdX8_waits_14.2.2.2.2.2.2.1
theorem dX8_waits_28 : decode cX8_waits 28 = .ok (.istore 5, 2) := bdX8_waits_14.2.2.2.2.2.2.2
theorem bdX8_waits_30 : decode cX8_waits 30 = .ok (.iload 5, 2) ∧ decode cX8_waits 32 = .ok (.bipush 12, 2) ∧ decode cX8_waits 34 = .ok (.if_icmp .gt 30, 3) ∧ decode cX8_waits 37 = .ok (.aload_n 0, 1) ∧ decode cX8_waits 38 = .ok (.iload_n 1, 1) ∧ decode cX8_waits 39 = .ok (.iload_n 2, 1) ∧ decode cX8_waits 40 = .ok (.iload_n 3, 1) ∧ decode cX8_waits 41 = .ok (.iload 4, 2) := by decide +kernel
theorem dX8_waits_30 : decode cX8_waits 30 = .ok (.iload 5, 2) := bdX8_waits_30.1
theorem dX8_waits_32 : decode cX8_waits 32 = .ok (.bipush 12, 2) := bdX8_waits_30.2.1
theorem dX8_waits_34 : decode cX8_waits 34 = .ok (.if_icmp .gt 30, 3) := bdX8_waits_30.2.2.1
theorem dX8_waits_37 : decode cX8_waits 37 = .ok (.aload_n 0, 1) := bdX8_waits_30.2.2.2.1
theorem dX8_waits_38 : decode cX8_waits 38 = .ok (.iload_n 1, 1) := bdX8_waits_30.2.2.2.2.1
theorem dX8_waits_39 : decode cX8_waits 39 = .ok (.iload_n 2, 1) := bdX8_waits_30.2.2.2.2.2.1
theorem dX8_waits_40 : decode cX8_waits 40 = .ok (.iload_n 3, 1) := bdX8_waits_30.2.2.2.2.2.2.1
theorem dX8_waits_41 : decode cX8_waits 41 = .ok (.iload 4, 2) := bdX8_waits_30.2.2.2.2.2.2.2
theorem bdX8_waits_43 : decode cX8_waits 43 = .ok (.aload_n 0, 1) ∧ decode cX8_waits 44 = .ok (.iload 5, 2) ∧ decode cX8_waits 46 = .ok (.invokevirtual 151, 3) ∧ decode cX8_waits 49 = .ok (.invokevirtual 174, 3) ∧ decode cX8_waits 52 = .ok (.ifCond .eq 6, 3) ∧ decode cX8_waits 55 = .ok (.iload 5, 2) ∧ decode cX8_waits 57 = .ok (.ireturn, 1) ∧ decode cX8_waits 58 = .ok (.iinc 5 1, 3) := by decide +kernel
theorem dX8_waits_43 : decode cX8_waits 43 = .ok (.aload_n 0, 1) := bdX8_waits_43.1
theorem dX8_waits_44 : decode cX8_waits 44 = .ok (.iload 5, 2) := bdX8_waits_43.2.1
theorem dX8_waits_46 : decode cX8_waits 46 = .ok (.invokevirtual 151, 3) := bdX8_waits_43.2.2.1
theorem dX8_waits_49 : decode cX8_waits 49 = .ok (.invokevirtual 174, 3) := bdX8_waits_43.2.2.2.1
theorem dX8_waits_52 : decode cX8_waits 52 = .ok (.ifCond .eq 6, 3) := bdX8_waits_43.2.2.2.2.1
theorem dX8_waits_55 : decode cX8_waits 55 = .ok (.iload 5, 2) := bdX8_waits_43.2.2.2.2.2.1
theorem dX8_waits_57 : decode cX8_waits 57 = .ok (.ireturn, 1) := bdX8_waits_43.2.2.2.2.2.2.1
theorem dX8_waits_58 : decode cX8_waits 58 = .ok (.iinc 5 1, 3) := bdX8_waits_43.2.2.2.2.2.2.2
theorem bdX8_waits_61 : decode cX8_waits 61 = .ok (.goto (-31), 3) ∧ decode cX8_waits 64 = .ok (.bipush (-9), 2) ∧ decode cX8_waits 66 = .ok (.ireturn, 1) := by decide +kernel
theorem dX8_waits_61 : decode cX8_waits 61 = .ok (.goto (-31), 3) := bdX8_waits_61.1
theorem dX8_waits_64 : decode cX8_waits 64 = .ok (.bipush (-9), 2) := bdX8_waits_61.2.1
theorem dX8_waits_66 : decode cX8_waits 66 = .ok (.ireturn, 1) := bdX8_waits_61.2.2
set_option maxRecDepth 20000 in
set_option maxRecDepth 100000 in
theorem ggX8_behind_X8_windIn : GoodIn wsX8_behind wsX8_windIn := goodIn_hd (goodIn_c ch_X8_behind hc_X8_behind ([.code yX8_windIn cX8_windIn 2 (some .int)] : List Cond) [(1, 4)] rfl (by decide +kernel)) (goodIn_app (goodIn_c ch_X8_behind hc_X8_behind ([.fieldLink RX8 38 "WordFletchersModel" "wind" "[I", .fieldLink RX8 44 "WordFletchersModel" "now" "[I", .fieldLink RX8 35 "WordFletchersModel" "winds" "[I"] : List Cond) [(1, 5), (1, 6), (1, 7)] rfl (by decide +kernel)) (goodIn_sub (fun _ h => (List.mem_cons_of_mem _ (List.mem_append_right _ h))) gwX8))
set_option maxRecDepth 20000 in
theorem gX8_behind_X8_windIn : GoodIn wsX8_behind (wsV RX8 151 RX8 yX8_windIn wsX8_windIn) := goodIn_app (goodIn_of _ (by decide +kernel)) ggX8_behind_X8_windIn
set_option maxRecDepth 20000 in
set_option maxRecDepth 100000 in
theorem ggX8_behind_X8_landsBy : GoodIn wsX8_behind wsX8_landsBy := goodIn_hd (goodIn_c ch_X8_behind hc_X8_behind ([.code yX8_landsBy cX8_landsBy 11 (some .int)] : List Cond) [(1, 11)] rfl (by decide +kernel)) (goodIn_app (goodIn_c ch_X8_behind hc_X8_behind ([.fieldLink RX8 29 "WordFletchersModel" "twist" "[I", .fieldLink RX8 26 "WordFletchersModel" "weight" "[I", .fieldLink RX8 44 "WordFletchersModel" "now" "[I", .fieldLink RX8 17 "WordFletchersModel" "place" "[I", .methodLink RX8 134 yX8_liftOf, .static yX8_liftOf, .initialized RX8, .code yX8_liftOf cX8_liftOf 1 (some .int), .methodLink RX8 72 yX8_in, .static yX8_in, .code yX8_in cX8_in 3 (some .boolean)] : List Cond) [(1, 12), (1, 13), (1, 6), (1, 14), (1, 15), (1, 16), (1, 3), (1, 17), (1, 18), (1, 19), (1, 20)] rfl (by decide +kernel)) (goodIn_sub (fun _ h => (List.mem_cons_of_mem _ (List.mem_append_right _ h))) gwX8))
set_option maxRecDepth 20000 in
theorem gX8_behind_X8_landsBy : GoodIn wsX8_behind (wsV RX8 161 RX8 yX8_landsBy wsX8_landsBy) := goodIn_app (goodIn_of _ (by decide +kernel)) ggX8_behind_X8_landsBy
set_option maxRecDepth 20000 in
set_option maxRecDepth 100000 in
theorem ggX8_behind_X8_hearersOf : GoodIn wsX8_behind wsX8_hearersOf := goodIn_hd (goodIn_c ch_X8_behind hc_X8_behind ([.code yX8_hearersOf cX8_hearersOf 5 (some .int)] : List Cond) [(2, 0)] rfl (by decide +kernel)) (goodIn_app (goodIn_c ch_X8_behind hc_X8_behind ([.fieldLink RX8 13 "WordFletchersModel" "people" "[I", .methodLink RX8 138 yX8_doesHear, .instanceMethod yX8_doesHear, .selects RX8 yX8_doesHear yX8_doesHear, .initialized RX8, .code yX8_doesHear cX8_doesHear 4 (some .boolean), .fieldLink RX8 17 "WordFletchersModel" "place" "[I", .fieldLink RX8 20 "WordFletchersModel" "ear" "[I"] : List Cond) [(2, 1), (2, 2), (2, 3), (2, 4), (1, 3), (2, 5), (1, 14), (2, 6)] rfl (by decide +kernel)) (goodIn_sub (fun _ h => (List.mem_cons_of_mem _ (List.mem_append_right _ h))) gwX8))
set_option maxRecDepth 20000 in
theorem gX8_behind_X8_hearersOf : GoodIn wsX8_behind (wsV RX8 165 RX8 yX8_hearersOf wsX8_hearersOf) := goodIn_app (goodIn_of _ (by decide +kernel)) ggX8_behind_X8_hearersOf
theorem bdX8_behind_0 : decode cX8_behind 0 = .ok (.iload_n 1, 1) ∧ decode cX8_behind 1 = .ok (.aload_n 0, 1) ∧ decode cX8_behind 2 = .ok (.aload_n 0, 1) ∧ decode cX8_behind 3 = .ok (.iload_n 2, 1) ∧ decode cX8_behind 4 = .ok (.iload_n 3, 1) ∧ decode cX8_behind 5 = .ok (.iload 4, 2) ∧ decode cX8_behind 7 = .ok (.iload 5, 2) ∧ decode cX8_behind 9 = .ok (.iload 6, 2) := by decide +kernel
theorem dX8_behind_0 : decode cX8_behind 0 = .ok (.iload_n 1, 1) := bdX8_behind_0.1
theorem dX8_behind_1 : decode cX8_behind 1 = .ok (.aload_n 0, 1) := bdX8_behind_0.2.1
theorem dX8_behind_2 : decode cX8_behind 2 = .ok (.aload_n 0, 1) := bdX8_behind_0.2.2.1
theorem dX8_behind_3 : decode cX8_behind 3 = .ok (.iload_n 2, 1) := bdX8_behind_0.2.2.2.1
theorem dX8_behind_4 : decode cX8_behind 4 = .ok (.iload_n 3, 1) := bdX8_behind_0.2.2.2.2.1
theorem dX8_behind_5 : decode cX8_behind 5 = .ok (.iload 4, 2) := bdX8_behind_0.2.2.2.2.2.1
theorem dX8_behind_7 : decode cX8_behind 7 = .ok (.iload 5, 2) := bdX8_behind_0.2.2.2.2.2.2.1
theorem dX8_behind_9 : decode cX8_behind 9 = .ok (.iload 6, 2) := bdX8_behind_0.2.2.2.2.2.2.2
theorem bdX8_behind_11 : decode cX8_behind 11 = .ok (.aload_n 0, 1) ∧ decode cX8_behind 12 = .ok (.iconst 0, 1) ∧ decode cX8_behind 13 = .ok (.invokevirtual 151, 3) ∧ decode cX8_behind 16 = .ok (.invokevirtual 161, 3) ∧ decode cX8_behind 19 = .ok (.iload_n 2, 1) ∧ decode cX8_behind 20 = .ok (.invokevirtual 165, 3) ∧ decode cX8_behind 23 = .ok (.ior, 1) ∧ decode cX8_behind 24 = .ok (.ireturn, 1) := by decide +kernel
theorem dX8_behind_11 : decode cX8_behind 11 = .ok (.aload_n 0, 1) := bdX8_behind_11.1
theorem dX8_behind_12 : decode cX8_behind 12 = .ok (.iconst 0, 1) := bdX8_behind_11.2.1
theorem dX8_behind_13 : decode cX8_behind 13 = .ok (.invokevirtual 151, 3) := bdX8_behind_11.2.2.1
theorem dX8_behind_16 : decode cX8_behind 16 = .ok (.invokevirtual 161, 3) := bdX8_behind_11.2.2.2.1
theorem dX8_behind_19 : decode cX8_behind 19 = .ok (.iload_n 2, 1) := bdX8_behind_11.2.2.2.2.1
theorem dX8_behind_20 : decode cX8_behind 20 = .ok (.invokevirtual 165, 3) := bdX8_behind_11.2.2.2.2.2.1
theorem dX8_behind_23 : decode cX8_behind 23 = .ok (.ior, 1) := bdX8_behind_11.2.2.2.2.2.2.1
theorem dX8_behind_24 : decode cX8_behind 24 = .ok (.ireturn, 1) := bdX8_behind_11.2.2.2.2.2.2.2
set_option maxRecDepth 20000 in
set_option maxRecDepth 100000 in
theorem ggX8_measure_X8_has : GoodIn wsX8_measure wsX8_has := goodIn_hd (goodIn_c ch_X8_measure hc_X8_measure ([.code yX8_has cX8_has 2 (some .boolean)] : List Cond) [(1, 6)] rfl (by decide +kernel)) (goodIn_c ch_X8_measure hc_X8_measure ([] : List Cond) [] rfl (by decide +kernel))
set_option maxRecDepth 20000 in
theorem gX8_measure_X8_has : GoodIn wsX8_measure (va_wsS RX8 145 yX8_has wsX8_has) := goodIn_app (goodIn_of _ (by decide +kernel)) ggX8_measure_X8_has
set_option maxRecDepth 20000 in
set_option maxRecDepth 100000 in
theorem ggX8_measure_X8_behind : GoodIn wsX8_measure wsX8_behind := goodIn_hd (goodIn_c ch_X8_measure hc_X8_measure ([.code yX8_behind cX8_behind 7 (some .int)] : List Cond) [(1, 10)] rfl (by decide +kernel)) (goodIn_app (goodIn_app (goodIn_c ch_X8_measure hc_X8_measure wsX8_behind_r1 [(1, 11), (1, 12), (1, 13), (1, 5), (1, 14), (1, 15), (1, 16), (1, 17), (1, 18), (1, 19), (1, 20), (1, 21), (1, 22), (1, 23), (2, 0), (2, 1), (2, 2), (2, 3), (2, 4), (2, 5), (2, 6), (2, 7), (2, 8), (2, 9)] rfl (by decide +kernel)) (goodIn_c ch_X8_measure hc_X8_measure wsX8_behind_r2 [(2, 10), (1, 1), (2, 11), (2, 12), (2, 13), (2, 14), (2, 15)] rfl (by decide +kernel))) (goodIn_sub (fun _ h => (List.mem_cons_of_mem _ (List.mem_append_right _ h))) gwX8))
set_option maxRecDepth 20000 in
theorem gX8_measure_X8_behind : GoodIn wsX8_measure (wsV RX8 182 RX8 yX8_behind wsX8_behind) := goodIn_app (goodIn_of _ (by decide +kernel)) ggX8_measure_X8_behind
theorem bdX8_measure_0 : decode cX8_measure 0 = .ok (.bipush 63, 2) ∧ decode cX8_measure 2 = .ok (.istore_n 3, 1) ∧ decode cX8_measure 3 = .ok (.iload_n 3, 1) ∧ decode cX8_measure 4 = .ok (.ifCond .le 146, 3) ∧ decode cX8_measure 7 = .ok (.iload_n 3, 1) ∧ decode cX8_measure 8 = .ok (.iload_n 2, 1) ∧ decode cX8_measure 9 = .ok (.invokestatic 145, 3) ∧ decode cX8_measure 12 = .ok (.ifCond .eq 7, 3) := by decide +kernel
theorem dX8_measure_0 : decode cX8_measure 0 = .ok (.bipush 63, 2) := bdX8_measure_0.1
theorem dX8_measure_2 : decode cX8_measure 2 = .ok (.istore_n 3, 1) := bdX8_measure_0.2.1
theorem dX8_measure_3 : decode cX8_measure 3 = .ok (.iload_n 3, 1) := bdX8_measure_0.2.2.1
theorem dX8_measure_4 : decode cX8_measure 4 = .ok (.ifCond .le 146, 3) := bdX8_measure_0.2.2.2.1
theorem dX8_measure_7 : decode cX8_measure 7 = .ok (.iload_n 3, 1) := bdX8_measure_0.2.2.2.2.1
theorem dX8_measure_8 : decode cX8_measure 8 = .ok (.iload_n 2, 1) := bdX8_measure_0.2.2.2.2.2.1
theorem dX8_measure_9 : decode cX8_measure 9 = .ok (.invokestatic 145, 3) := bdX8_measure_0.2.2.2.2.2.2.1
theorem dX8_measure_12 : decode cX8_measure 12 = .ok (.ifCond .eq 7, 3) := bdX8_measure_0.2.2.2.2.2.2.2
theorem bdX8_measure_15 : decode cX8_measure 15 = .ok (.iconst 0, 1) ∧ decode cX8_measure 16 = .ok (.goto 5, 3) ∧ decode cX8_measure 19 = .ok (.ldc 181, 2) ∧ decode cX8_measure 21 = .ok (.istore 4, 2) ∧ decode cX8_measure 23 = .ok (.iconst 0, 1) ∧ decode cX8_measure 24 = .ok (.istore 5, 2) ∧ decode cX8_measure 26 = .ok (.iload 5, 2) ∧ decode cX8_measure 28 = .ok (.aload_n 0, 1) := by decide +kernel
theorem dX8_measure_15 : decode cX8_measure 15 = .ok (.iconst 0, 1) := bdX8_measure_15.1
theorem dX8_measure_16 : decode cX8_measure 16 = .ok (.goto 5, 3) := bdX8_measure_15.2.1
theorem dX8_measure_19 : decode cX8_measure 19 = .ok (.ldc 181, 2) := bdX8_measure_15.2.2.1
theorem dX8_measure_21 : decode cX8_measure 21 = .ok (.istore 4, 2) := bdX8_measure_15.2.2.2.1
theorem dX8_measure_23 : decode cX8_measure 23 = .ok (.iconst 0, 1) := bdX8_measure_15.2.2.2.2.1
theorem dX8_measure_24 : decode cX8_measure 24 = .ok (.istore 5, 2) := bdX8_measure_15.2.2.2.2.2.1
theorem dX8_measure_26 : decode cX8_measure 26 = .ok (.iload 5, 2) := bdX8_measure_15.2.2.2.2.2.2.1
theorem dX8_measure_28 : decode cX8_measure 28 = .ok (.aload_n 0, 1) := bdX8_measure_15.2.2.2.2.2.2.2
theorem bdX8_measure_29 : decode cX8_measure 29 = .ok (.getfield 13, 3) ∧ decode cX8_measure 32 = .ok (.iconst 0, 1) ∧ decode cX8_measure 33 = .ok (.iaload, 1) ∧ decode cX8_measure 34 = .ok (.if_icmp .ge 102, 3) ∧ decode cX8_measure 37 = .ok (.iload 4, 2) ∧ decode cX8_measure 39 = .ok (.ifCond .le 97, 3) ∧ decode cX8_measure 42 = .ok (.iconst 0, 1) ∧ decode cX8_measure 43 = .ok (.istore 6, 2) := by decide +kernel
theorem dX8_measure_29 : decode cX8_measure 29 = .ok (.getfield 13, 3) := bdX8_measure_29.1
theorem dX8_measure_32 : decode cX8_measure 32 = .ok (.iconst 0, 1) := bdX8_measure_29.2.1
theorem dX8_measure_33 : decode cX8_measure 33 = .ok (.iaload, 1) := bdX8_measure_29.2.2.1
theorem dX8_measure_34 : decode cX8_measure 34 = .ok (.if_icmp .ge 102, 3) := bdX8_measure_29.2.2.2.1
theorem dX8_measure_37 : decode cX8_measure 37 = .ok (.iload 4, 2) := bdX8_measure_29.2.2.2.2.1
theorem dX8_measure_39 : decode cX8_measure 39 = .ok (.ifCond .le 97, 3) := bdX8_measure_29.2.2.2.2.2.1
theorem dX8_measure_42 : decode cX8_measure 42 = .ok (.iconst 0, 1) := bdX8_measure_29.2.2.2.2.2.2.1
theorem dX8_measure_43 : decode cX8_measure 43 = .ok (.istore 6, 2) := bdX8_measure_29.2.2.2.2.2.2.2
theorem bdX8_measure_45 : decode cX8_measure 45 = .ok (.iload 6, 2) ∧ decode cX8_measure 47 = .ok (.bipush 32, 2) ∧ decode cX8_measure 49 = .ok (.if_icmp .ge 81, 3) ∧ decode cX8_measure 52 = .ok (.iload_n 3, 1) ∧ decode cX8_measure 53 = .ok (.iload 5, 2) ∧ decode cX8_measure 55 = .ok (.invokestatic 145, 3) ∧ decode cX8_measure 58 = .ok (.ifCond .eq 72, 3) ∧ decode cX8_measure 61 = .ok (.aload_n 0, 1) := by decide +kernel
theorem dX8_measure_45 : decode cX8_measure 45 = .ok (.iload 6, 2) := bdX8_measure_45.1
theorem dX8_measure_47 : decode cX8_measure 47 = .ok (.bipush 32, 2) := bdX8_measure_45.2.1
theorem dX8_measure_49 : decode cX8_measure 49 = .ok (.if_icmp .ge 81, 3) := bdX8_measure_45.2.2.1
theorem dX8_measure_52 : decode cX8_measure 52 = .ok (.iload_n 3, 1) := bdX8_measure_45.2.2.2.1
theorem dX8_measure_53 : decode cX8_measure 53 = .ok (.iload 5, 2) := bdX8_measure_45.2.2.2.2.1
theorem dX8_measure_55 : decode cX8_measure 55 = .ok (.invokestatic 145, 3) := bdX8_measure_45.2.2.2.2.2.1
theorem dX8_measure_58 : decode cX8_measure 58 = .ok (.ifCond .eq 72, 3) := bdX8_measure_45.2.2.2.2.2.2.1
theorem dX8_measure_61 : decode cX8_measure 61 = .ok (.aload_n 0, 1) := bdX8_measure_45.2.2.2.2.2.2.2
theorem bdX8_measure_62 : decode cX8_measure 62 = .ok (.iload_n 3, 1) ∧ decode cX8_measure 63 = .ok (.iload 5, 2) ∧ decode cX8_measure 65 = .ok (.iload_n 1, 1) ∧ decode cX8_measure 66 = .ok (.iload 6, 2) ∧ decode cX8_measure 68 = .ok (.bipush 8, 2) ∧ decode cX8_measure 70 = .ok (.idiv, 1) ∧ decode cX8_measure 71 = .ok (.iload 6, 2) ∧ decode cX8_measure 73 = .ok (.iconst 2, 1) := by decide +kernel
theorem dX8_measure_62 : decode cX8_measure 62 = .ok (.iload_n 3, 1) := bdX8_measure_62.1
theorem dX8_measure_63 : decode cX8_measure 63 = .ok (.iload 5, 2) := bdX8_measure_62.2.1
theorem dX8_measure_65 : decode cX8_measure 65 = .ok (.iload_n 1, 1) := bdX8_measure_62.2.2.1
theorem dX8_measure_66 : decode cX8_measure 66 = .ok (.iload 6, 2) := bdX8_measure_62.2.2.2.1
theorem dX8_measure_68 : decode cX8_measure 68 = .ok (.bipush 8, 2) := bdX8_measure_62.2.2.2.2.1
theorem dX8_measure_70 : decode cX8_measure 70 = .ok (.idiv, 1) := bdX8_measure_62.2.2.2.2.2.1
theorem dX8_measure_71 : decode cX8_measure 71 = .ok (.iload 6, 2) := bdX8_measure_62.2.2.2.2.2.2.1
theorem dX8_measure_73 : decode cX8_measure 73 = .ok (.iconst 2, 1) := bdX8_measure_62.2.2.2.2.2.2.2
theorem bdX8_measure_74 : decode cX8_measure 74 = .ok (.idiv, 1) ∧ decode cX8_measure 75 = .ok (.iconst 4, 1) ∧ decode cX8_measure 76 = .ok (.irem, 1) ∧ decode cX8_measure 77 = .ok (.iload 6, 2) ∧ decode cX8_measure 79 = .ok (.iconst 2, 1) ∧ decode cX8_measure 80 = .ok (.irem, 1) ∧ decode cX8_measure 81 = .ok (.invokevirtual 182, 3) ∧ decode cX8_measure 84 = .ok (.istore 7, 2) := by decide +kernel
theorem dX8_measure_74 : decode cX8_measure 74 = .ok (.idiv, 1) := bdX8_measure_74.1
theorem dX8_measure_75 : decode cX8_measure 75 = .ok (.iconst 4, 1) := bdX8_measure_74.2.1
theorem dX8_measure_76 : decode cX8_measure 76 = .ok (.irem, 1) := bdX8_measure_74.2.2.1
theorem dX8_measure_77 : decode cX8_measure 77 = .ok (.iload 6, 2) := bdX8_measure_74.2.2.2.1
theorem dX8_measure_79 : decode cX8_measure 79 = .ok (.iconst 2, 1) := bdX8_measure_74.2.2.2.2.1
theorem dX8_measure_80 : decode cX8_measure 80 = .ok (.irem, 1) := bdX8_measure_74.2.2.2.2.2.1
theorem dX8_measure_81 : decode cX8_measure 81 = .ok (.invokevirtual 182, 3) := bdX8_measure_74.2.2.2.2.2.2.1
theorem dX8_measure_84 : decode cX8_measure 84 = .ok (.istore 7, 2) := bdX8_measure_74.2.2.2.2.2.2.2
theorem bdX8_measure_86 : decode cX8_measure 86 = .ok (.iload 7, 2) ∧ decode cX8_measure 88 = .ok (.iload_n 3, 1) ∧ decode cX8_measure 89 = .ok (.if_icmp .ne 8, 3) ∧ decode cX8_measure 92 = .ok (.ldc 181, 2) ∧ decode cX8_measure 94 = .ok (.goto 12, 3) ∧ decode cX8_measure 97 = .ok (.aload_n 0, 1) ∧ decode cX8_measure 98 = .ok (.getfield 60, 3) ∧ decode cX8_measure 101 = .ok (.iload 7, 2) := by decide +kernel
theorem dX8_measure_86 : decode cX8_measure 86 = .ok (.iload 7, 2) := bdX8_measure_86.1
theorem dX8_measure_88 : decode cX8_measure 88 = .ok (.iload_n 3, 1) := bdX8_measure_86.2.1
theorem dX8_measure_89 : decode cX8_measure 89 = .ok (.if_icmp .ne 8, 3) := bdX8_measure_86.2.2.1
theorem dX8_measure_92 : decode cX8_measure 92 = .ok (.ldc 181, 2) := bdX8_measure_86.2.2.2.1
theorem dX8_measure_94 : decode cX8_measure 94 = .ok (.goto 12, 3) := bdX8_measure_86.2.2.2.2.1
theorem dX8_measure_97 : decode cX8_measure 97 = .ok (.aload_n 0, 1) := bdX8_measure_86.2.2.2.2.2.1
theorem dX8_measure_98 : decode cX8_measure 98 = .ok (.getfield 60, 3) := bdX8_measure_86.2.2.2.2.2.2.1
theorem dX8_measure_101 : decode cX8_measure 101 = .ok (.iload 7, 2) := bdX8_measure_86.2.2.2.2.2.2.2
theorem bdX8_measure_103 : decode cX8_measure 103 = .ok (.iaload, 1) ∧ decode cX8_measure 104 = .ok (.iconst 1, 1) ∧ decode cX8_measure 105 = .ok (.iadd, 1) ∧ decode cX8_measure 106 = .ok (.istore 8, 2) ∧ decode cX8_measure 108 = .ok (.iload 8, 2) ∧ decode cX8_measure 110 = .ok (.iload 4, 2) ∧ decode cX8_measure 112 = .ok (.if_icmp .ge 8, 3) ∧ decode cX8_measure 115 = .ok (.iload 8, 2) := by decide +kernel
theorem dX8_measure_103 : decode cX8_measure 103 = .ok (.iaload, 1) := bdX8_measure_103.1
theorem dX8_measure_104 : decode cX8_measure 104 = .ok (.iconst 1, 1) := bdX8_measure_103.2.1
theorem dX8_measure_105 : decode cX8_measure 105 = .ok (.iadd, 1) := bdX8_measure_103.2.2.1
theorem dX8_measure_106 : decode cX8_measure 106 = .ok (.istore 8, 2) := bdX8_measure_103.2.2.2.1
theorem dX8_measure_108 : decode cX8_measure 108 = .ok (.iload 8, 2) := bdX8_measure_103.2.2.2.2.1
theorem dX8_measure_110 : decode cX8_measure 110 = .ok (.iload 4, 2) := bdX8_measure_103.2.2.2.2.2.1
theorem dX8_measure_112 : decode cX8_measure 112 = .ok (.if_icmp .ge 8, 3) := bdX8_measure_103.2.2.2.2.2.2.1
theorem dX8_measure_115 : decode cX8_measure 115 = .ok (.iload 8, 2) := bdX8_measure_103.2.2.2.2.2.2.2
theorem bdX8_measure_117 : decode cX8_measure 117 = .ok (.goto 5, 3) ∧ decode cX8_measure 120 = .ok (.iload 4, 2) ∧ decode cX8_measure 122 = .ok (.istore 4, 2) ∧ decode cX8_measure 124 = .ok (.iinc 6 1, 3) ∧ decode cX8_measure 127 = .ok (.goto (-82), 3) ∧ decode cX8_measure 130 = .ok (.iinc 5 1, 3) ∧ decode cX8_measure 133 = .ok (.goto (-107), 3) ∧ decode cX8_measure 136 = .ok (.aload_n 0, 1) := by decide +kernel
theorem dX8_measure_117 : decode cX8_measure 117 = .ok (.goto 5, 3) := bdX8_measure_117.1
theorem dX8_measure_120 : decode cX8_measure 120 = .ok (.iload 4, 2) := bdX8_measure_117.2.1
theorem dX8_measure_122 : decode cX8_measure 122 = .ok (.istore 4, 2) := bdX8_measure_117.2.2.1
theorem dX8_measure_124 : decode cX8_measure 124 = .ok (.iinc 6 1, 3) := bdX8_measure_117.2.2.2.1
theorem dX8_measure_127 : decode cX8_measure 127 = .ok (.goto (-82), 3) := bdX8_measure_117.2.2.2.2.1
theorem dX8_measure_130 : decode cX8_measure 130 = .ok (.iinc 5 1, 3) := bdX8_measure_117.2.2.2.2.2.1
theorem dX8_measure_133 : decode cX8_measure 133 = .ok (.goto (-107), 3) := bdX8_measure_117.2.2.2.2.2.2.1
theorem dX8_measure_136 : decode cX8_measure 136 = .ok (.aload_n 0, 1) := bdX8_measure_117.2.2.2.2.2.2.2
theorem bdX8_measure_137 : decode cX8_measure 137 = .ok (.getfield 60, 3) ∧ decode cX8_measure 140 = .ok (.iload_n 3, 1) ∧ decode cX8_measure 141 = .ok (.iload 4, 2) ∧ decode cX8_measure 143 = .ok (.iastore, 1) ∧ decode cX8_measure 144 = .ok (.iinc 3 (-1), 3) ∧ decode cX8_measure 147 = .ok (.goto (-144), 3) ∧ decode cX8_measure 150 = .ok (.return_, 1) := by decide +kernel
theorem dX8_measure_137 : decode cX8_measure 137 = .ok (.getfield 60, 3) := bdX8_measure_137.1
theorem dX8_measure_140 : decode cX8_measure 140 = .ok (.iload_n 3, 1) := bdX8_measure_137.2.1
theorem dX8_measure_141 : decode cX8_measure 141 = .ok (.iload 4, 2) := bdX8_measure_137.2.2.1
theorem dX8_measure_143 : decode cX8_measure 143 = .ok (.iastore, 1) := bdX8_measure_137.2.2.2.1
theorem dX8_measure_144 : decode cX8_measure 144 = .ok (.iinc 3 (-1), 3) := bdX8_measure_137.2.2.2.2.1
theorem dX8_measure_147 : decode cX8_measure 147 = .ok (.goto (-144), 3) := bdX8_measure_137.2.2.2.2.2.1
theorem dX8_measure_150 : decode cX8_measure 150 = .ok (.return_, 1) := bdX8_measure_137.2.2.2.2.2.2
set_option maxRecDepth 20000 in
set_option maxRecDepth 100000 in
theorem ggX8_relay_X8_isSaying : GoodIn wsX8_relay wsX8_isSaying := goodIn_hd (goodIn_c ch_X8_relay hc_X8_relay ([.code yX8_isSaying cX8_isSaying 2 (some .boolean)] : List Cond) [(1, 8)] rfl (by decide +kernel)) (goodIn_app (goodIn_c ch_X8_relay hc_X8_relay ([.fieldLink RX8 23 "WordFletchersModel" "sayings" "[I", .methodLink RX8 72 yX8_in, .static yX8_in, .initialized RX8, .code yX8_in cX8_in 3 (some .boolean)] : List Cond) [(1, 9), (1, 10), (1, 11), (1, 7), (1, 12)] rfl (by decide +kernel)) (goodIn_sub (fun _ h => (List.mem_cons_of_mem _ (List.mem_append_right _ h))) gwX8))
set_option maxRecDepth 20000 in
theorem gX8_relay_X8_isSaying : GoodIn wsX8_relay (wsV RX8 148 RX8 yX8_isSaying wsX8_isSaying) := goodIn_app (goodIn_of _ (by decide +kernel)) ggX8_relay_X8_isSaying
set_option maxRecDepth 20000 in
set_option maxRecDepth 100000 in
theorem ggX8_relay_X8_isOne : GoodIn wsX8_relay wsX8_isOne := goodIn_hd (goodIn_c ch_X8_relay hc_X8_relay ([.code yX8_isOne cX8_isOne 2 (some .boolean)] : List Cond) [(1, 16)] rfl (by decide +kernel)) (goodIn_app (goodIn_c ch_X8_relay hc_X8_relay ([.fieldLink RX8 13 "WordFletchersModel" "people" "[I", .methodLink RX8 72 yX8_in, .static yX8_in, .initialized RX8, .code yX8_in cX8_in 3 (some .boolean)] : List Cond) [(1, 3), (1, 10), (1, 11), (1, 7), (1, 12)] rfl (by decide +kernel)) (goodIn_sub (fun _ h => (List.mem_cons_of_mem _ (List.mem_append_right _ h))) gwX8))
set_option maxRecDepth 20000 in
theorem gX8_relay_X8_isOne : GoodIn wsX8_relay (wsV RX8 142 RX8 yX8_isOne wsX8_isOne) := goodIn_app (goodIn_of _ (by decide +kernel)) ggX8_relay_X8_isOne
set_option maxRecDepth 20000 in
set_option maxRecDepth 100000 in
theorem ggX8_relay_X8_in : GoodIn wsX8_relay wsX8_in := goodIn_hd (goodIn_c ch_X8_relay hc_X8_relay ([.code yX8_in cX8_in 3 (some .boolean)] : List Cond) [(1, 12)] rfl (by decide +kernel)) (goodIn_c ch_X8_relay hc_X8_relay ([] : List Cond) [] rfl (by decide +kernel))
set_option maxRecDepth 20000 in
theorem gX8_relay_X8_in : GoodIn wsX8_relay (va_wsS RX8 72 yX8_in wsX8_in) := goodIn_app (goodIn_of _ (by decide +kernel)) ggX8_relay_X8_in
set_option maxRecDepth 20000 in
set_option maxRecDepth 100000 in
theorem ggX8_relay_X8_measure : GoodIn wsX8_relay wsX8_measure := goodIn_hd (goodIn_c ch_X8_relay hc_X8_relay ([.code yX8_measure cX8_measure 9 none] : List Cond) [(1, 20)] rfl (by decide +kernel)) (goodIn_app (goodIn_app (goodIn_c ch_X8_relay hc_X8_relay wsX8_measure_r1 [(1, 2), (1, 3), (1, 1), (1, 21), (1, 22), (1, 7), (1, 23), (2, 0), (2, 1), (2, 2), (2, 3), (2, 4), (2, 5), (2, 6), (2, 7), (2, 8), (1, 0), (2, 9), (2, 10), (2, 11), (2, 12), (2, 13), (2, 14), (2, 15)] rfl (by decide +kernel)) (goodIn_c ch_X8_relay hc_X8_relay wsX8_measure_r2 [(2, 16), (2, 17), (2, 18), (2, 19), (1, 10), (1, 11), (1, 12), (2, 20), (2, 21), (2, 22), (2, 23), (3, 0), (3, 1), (3, 2), (3, 3), (3, 4)] rfl (by decide +kernel))) (goodIn_sub (fun _ h => (List.mem_cons_of_mem _ (List.mem_append_right _ h))) gwX8))
set_option maxRecDepth 20000 in
theorem gX8_relay_X8_measure : GoodIn wsX8_relay (wsV RX8 185 RX8 yX8_measure wsX8_measure) := goodIn_app (goodIn_of _ (by decide +kernel)) ggX8_relay_X8_measure
set_option maxRecDepth 20000 in
set_option maxRecDepth 100000 in
theorem ggX8_relay_X8_has : GoodIn wsX8_relay wsX8_has := goodIn_hd (goodIn_c ch_X8_relay hc_X8_relay ([.code yX8_has cX8_has 2 (some .boolean)] : List Cond) [(1, 23)] rfl (by decide +kernel)) (goodIn_c ch_X8_relay hc_X8_relay ([] : List Cond) [] rfl (by decide +kernel))
set_option maxRecDepth 20000 in
theorem gX8_relay_X8_has : GoodIn wsX8_relay (va_wsS RX8 145 yX8_has wsX8_has) := goodIn_app (goodIn_of _ (by decide +kernel)) ggX8_relay_X8_has
set_option maxRecDepth 20000 in
set_option maxRecDepth 100000 in
theorem ggX8_relay_X8_behind : GoodIn wsX8_relay wsX8_behind := goodIn_hd (goodIn_c ch_X8_relay hc_X8_relay ([.code yX8_behind cX8_behind 7 (some .int)] : List Cond) [(2, 3)] rfl (by decide +kernel)) (goodIn_app (goodIn_app (goodIn_c ch_X8_relay hc_X8_relay wsX8_behind_r1 [(2, 4), (2, 5), (2, 6), (1, 7), (2, 7), (2, 8), (1, 0), (2, 9), (2, 10), (2, 11), (2, 12), (2, 13), (2, 14), (2, 15), (2, 16), (2, 17), (2, 18), (2, 19), (1, 10), (1, 11), (1, 12), (2, 20), (2, 21), (2, 22)] rfl (by decide +kernel)) (goodIn_c ch_X8_relay hc_X8_relay wsX8_behind_r2 [(2, 23), (1, 3), (3, 0), (3, 1), (3, 2), (3, 3), (3, 4)] rfl (by decide +kernel))) (goodIn_sub (fun _ h => (List.mem_cons_of_mem _ (List.mem_append_right _ h))) gwX8))
set_option maxRecDepth 20000 in
theorem gX8_relay_X8_behind : GoodIn wsX8_relay (wsV RX8 182 RX8 yX8_behind wsX8_behind) := goodIn_app (goodIn_of _ (by decide +kernel)) ggX8_relay_X8_behind
theorem bdX8_relay_0 : decode cX8_relay 0 = .ok (.aload_n 0, 1) ∧ decode cX8_relay 1 = .ok (.iload_n 1, 1) ∧ decode cX8_relay 2 = .ok (.invokevirtual 148, 3) ∧ decode cX8_relay 5 = .ok (.ifCond .eq 20, 3) ∧ decode cX8_relay 8 = .ok (.aload_n 0, 1) ∧ decode cX8_relay 9 = .ok (.iload_n 2, 1) ∧ decode cX8_relay 10 = .ok (.invokevirtual 142, 3) ∧ decode cX8_relay 13 = .ok (.ifCond .eq 12, 3) := by decide +kernel
theorem dX8_relay_0 : decode cX8_relay 0 = .ok (.aload_n 0, 1) := bdX8_relay_0.1
theorem dX8_relay_1 : decode cX8_relay 1 = .ok (.iload_n 1, 1) := bdX8_relay_0.2.1
theorem dX8_relay_2 : decode cX8_relay 2 = .ok (.invokevirtual 148, 3) := bdX8_relay_0.2.2.1
theorem dX8_relay_5 : decode cX8_relay 5 = .ok (.ifCond .eq 20, 3) := bdX8_relay_0.2.2.2.1
theorem dX8_relay_8 : decode cX8_relay 8 = .ok (.aload_n 0, 1) := bdX8_relay_0.2.2.2.2.1
theorem dX8_relay_9 : decode cX8_relay 9 = .ok (.iload_n 2, 1) := bdX8_relay_0.2.2.2.2.2.1
theorem dX8_relay_10 : decode cX8_relay 10 = .ok (.invokevirtual 142, 3) := bdX8_relay_0.2.2.2.2.2.2.1
theorem dX8_relay_13 : decode cX8_relay 13 = .ok (.ifCond .eq 12, 3) := bdX8_relay_0.2.2.2.2.2.2.2
theorem bdX8_relay_16 : decode cX8_relay 16 = .ok (.iload_n 3, 1) ∧ decode cX8_relay 17 = .ok (.iconst 0, 1) ∧ decode cX8_relay 18 = .ok (.iconst 2, 1) ∧ decode cX8_relay 19 = .ok (.invokestatic 72, 3) ∧ decode cX8_relay 22 = .ok (.ifCond .ne 5, 3) ∧ decode cX8_relay 25 = .ok (.iconst (-1), 1) ∧ decode cX8_relay 26 = .ok (.ireturn, 1) ∧ decode cX8_relay 27 = .ok (.aload_n 0, 1) := by decide +kernel
theorem dX8_relay_16 : decode cX8_relay 16 = .ok (.iload_n 3, 1) := bdX8_relay_16.1
theorem dX8_relay_17 : decode cX8_relay 17 = .ok (.iconst 0, 1) := bdX8_relay_16.2.1
theorem dX8_relay_18 : decode cX8_relay 18 = .ok (.iconst 2, 1) := bdX8_relay_16.2.2.1
theorem dX8_relay_19 : decode cX8_relay 19 = .ok (.invokestatic 72, 3) := bdX8_relay_16.2.2.2.1
theorem dX8_relay_22 : decode cX8_relay 22 = .ok (.ifCond .ne 5, 3) := bdX8_relay_16.2.2.2.2.1
theorem dX8_relay_25 : decode cX8_relay 25 = .ok (.iconst (-1), 1) := bdX8_relay_16.2.2.2.2.2.1
theorem dX8_relay_26 : decode cX8_relay 26 = .ok (.ireturn, 1) := bdX8_relay_16.2.2.2.2.2.2.1
theorem dX8_relay_27 : decode cX8_relay 27 = .ok (.aload_n 0, 1) := bdX8_relay_16.2.2.2.2.2.2.2
theorem bdX8_relay_28 : decode cX8_relay 28 = .ok (.iload_n 1, 1) ∧ decode cX8_relay 29 = .ok (.iload_n 2, 1) ∧ decode cX8_relay 30 = .ok (.invokevirtual 185, 3) ∧ decode cX8_relay 33 = .ok (.aload_n 0, 1) ∧ decode cX8_relay 34 = .ok (.getfield 44, 3) ∧ decode cX8_relay 37 = .ok (.bipush 6, 2) ∧ decode cX8_relay 39 = .ok (.iload_n 1, 1) ∧ decode cX8_relay 40 = .ok (.iadd, 1) := by decide +kernel
theorem dX8_relay_28 : decode cX8_relay 28 = .ok (.iload_n 1, 1) := bdX8_relay_28.1
theorem dX8_relay_29 : decode cX8_relay 29 = .ok (.iload_n 2, 1) := bdX8_relay_28.2.1
theorem dX8_relay_30 : decode cX8_relay 30 = .ok (.invokevirtual 185, 3) := bdX8_relay_28.2.2.1
theorem dX8_relay_33 : decode cX8_relay 33 = .ok (.aload_n 0, 1) := bdX8_relay_28.2.2.2.1
theorem dX8_relay_34 : decode cX8_relay 34 = .ok (.getfield 44, 3) := bdX8_relay_28.2.2.2.2.1
theorem dX8_relay_37 : decode cX8_relay 37 = .ok (.bipush 6, 2) := bdX8_relay_28.2.2.2.2.2.1
theorem dX8_relay_39 : decode cX8_relay 39 = .ok (.iload_n 1, 1) := bdX8_relay_28.2.2.2.2.2.2.1
theorem dX8_relay_40 : decode cX8_relay 40 = .ok (.iadd, 1) := bdX8_relay_28.2.2.2.2.2.2.2
theorem bdX8_relay_41 : decode cX8_relay 41 = .ok (.iaload, 1) ∧ decode cX8_relay 42 = .ok (.istore 4, 2) ∧ decode cX8_relay 44 = .ok (.aload_n 0, 1) ∧ decode cX8_relay 45 = .ok (.getfield 60, 3) ∧ decode cX8_relay 48 = .ok (.iload 4, 2) ∧ decode cX8_relay 50 = .ok (.iaload, 1) ∧ decode cX8_relay 51 = .ok (.istore 5, 2) ∧ decode cX8_relay 53 = .ok (.iload 5, 2) := by decide +kernel
theorem dX8_relay_41 : decode cX8_relay 41 = .ok (.iaload, 1) := bdX8_relay_41.1
theorem dX8_relay_42 : decode cX8_relay 42 = .ok (.istore 4, 2) := bdX8_relay_41.2.1
theorem dX8_relay_44 : decode cX8_relay 44 = .ok (.aload_n 0, 1) := bdX8_relay_41.2.2.1
theorem dX8_relay_45 : decode cX8_relay 45 = .ok (.getfield 60, 3) := bdX8_relay_41.2.2.2.1
theorem dX8_relay_48 : decode cX8_relay 48 = .ok (.iload 4, 2) := bdX8_relay_41.2.2.2.2.1
theorem dX8_relay_50 : decode cX8_relay 50 = .ok (.iaload, 1) := bdX8_relay_41.2.2.2.2.2.1
theorem dX8_relay_51 : decode cX8_relay 51 = .ok (.istore 5, 2) := bdX8_relay_41.2.2.2.2.2.2.1
theorem dX8_relay_53 : decode cX8_relay 53 = .ok (.iload 5, 2) := bdX8_relay_41.2.2.2.2.2.2.2
theorem bdX8_relay_55 : decode cX8_relay 55 = .ok (.ldc 181, 2) ∧ decode cX8_relay 57 = .ok (.if_icmp .lt 6, 3) ∧ decode cX8_relay 60 = .ok (.bipush (-9), 2) ∧ decode cX8_relay 62 = .ok (.ireturn, 1) ∧ decode cX8_relay 63 = .ok (.iload_n 3, 1) ∧ decode cX8_relay 64 = .ok (.ifCond .ne 6, 3) ∧ decode cX8_relay 67 = .ok (.iload 5, 2) ∧ decode cX8_relay 69 = .ok (.ireturn, 1) := by decide +kernel
theorem dX8_relay_55 : decode cX8_relay 55 = .ok (.ldc 181, 2) := bdX8_relay_55.1
theorem dX8_relay_57 : decode cX8_relay 57 = .ok (.if_icmp .lt 6, 3) := bdX8_relay_55.2.1
theorem dX8_relay_60 : decode cX8_relay 60 = .ok (.bipush (-9), 2) := bdX8_relay_55.2.2.1
theorem dX8_relay_62 : decode cX8_relay 62 = .ok (.ireturn, 1) := bdX8_relay_55.2.2.2.1
theorem dX8_relay_63 : decode cX8_relay 63 = .ok (.iload_n 3, 1) := bdX8_relay_55.2.2.2.2.1
theorem dX8_relay_64 : decode cX8_relay 64 = .ok (.ifCond .ne 6, 3) := bdX8_relay_55.2.2.2.2.2.1
theorem dX8_relay_67 : decode cX8_relay 67 = .ok (.iload 5, 2) := bdX8_relay_55.2.2.2.2.2.2.1
theorem dX8_relay_69 : decode cX8_relay 69 = .ok (.ireturn, 1) := bdX8_relay_55.2.2.2.2.2.2.2
theorem bdX8_relay_70 : decode cX8_relay 70 = .ok (.iconst 0, 1) ∧ decode cX8_relay 71 = .ok (.istore 6, 2) ∧ decode cX8_relay 73 = .ok (.iload 6, 2) ∧ decode cX8_relay 75 = .ok (.aload_n 0, 1) ∧ decode cX8_relay 76 = .ok (.getfield 13, 3) ∧ decode cX8_relay 79 = .ok (.iconst 0, 1) ∧ decode cX8_relay 80 = .ok (.iaload, 1) ∧ decode cX8_relay 81 = .ok (.if_icmp .ge 132, 3) := by decide +kernel
theorem dX8_relay_70 : decode cX8_relay 70 = .ok (.iconst 0, 1) := bdX8_relay_70.1
theorem dX8_relay_71 : decode cX8_relay 71 = .ok (.istore 6, 2) := bdX8_relay_70.2.1
theorem dX8_relay_73 : decode cX8_relay 73 = .ok (.iload 6, 2) := bdX8_relay_70.2.2.1
theorem dX8_relay_75 : decode cX8_relay 75 = .ok (.aload_n 0, 1) := bdX8_relay_70.2.2.2.1
theorem dX8_relay_76 : decode cX8_relay 76 = .ok (.getfield 13, 3) := bdX8_relay_70.2.2.2.2.1
theorem dX8_relay_79 : decode cX8_relay 79 = .ok (.iconst 0, 1) := bdX8_relay_70.2.2.2.2.2.1
theorem dX8_relay_80 : decode cX8_relay 80 = .ok (.iaload, 1) := bdX8_relay_70.2.2.2.2.2.2.1
theorem dX8_relay_81 : decode cX8_relay 81 = .ok (.if_icmp .ge 132, 3) := bdX8_relay_70.2.2.2.2.2.2.2
theorem bdX8_relay_84 : decode cX8_relay 84 = .ok (.iload 5, 2) ∧ decode cX8_relay 86 = .ok (.ifCond .le 127, 3) ∧ decode cX8_relay 89 = .ok (.iconst 0, 1) ∧ decode cX8_relay 90 = .ok (.istore 7, 2) ∧ decode cX8_relay 92 = .ok (.iload 7, 2) ∧ decode cX8_relay 94 = .ok (.bipush 32, 2) ∧ decode cX8_relay 96 = .ok (.if_icmp .ge 111, 3) ∧ decode cX8_relay 99 = .ok (.iload 4, 2) := by decide +kernel
theorem dX8_relay_84 : decode cX8_relay 84 = .ok (.iload 5, 2) := bdX8_relay_84.1
theorem dX8_relay_86 : decode cX8_relay 86 = .ok (.ifCond .le 127, 3) := bdX8_relay_84.2.1
theorem dX8_relay_89 : decode cX8_relay 89 = .ok (.iconst 0, 1) := bdX8_relay_84.2.2.1
theorem dX8_relay_90 : decode cX8_relay 90 = .ok (.istore 7, 2) := bdX8_relay_84.2.2.2.1
theorem dX8_relay_92 : decode cX8_relay 92 = .ok (.iload 7, 2) := bdX8_relay_84.2.2.2.2.1
theorem dX8_relay_94 : decode cX8_relay 94 = .ok (.bipush 32, 2) := bdX8_relay_84.2.2.2.2.2.1
theorem dX8_relay_96 : decode cX8_relay 96 = .ok (.if_icmp .ge 111, 3) := bdX8_relay_84.2.2.2.2.2.2.1
theorem dX8_relay_99 : decode cX8_relay 99 = .ok (.iload 4, 2) := bdX8_relay_84.2.2.2.2.2.2.2
theorem bdX8_relay_101 : decode cX8_relay 101 = .ok (.iload 6, 2) ∧ decode cX8_relay 103 = .ok (.invokestatic 145, 3) ∧ decode cX8_relay 106 = .ok (.ifCond .eq 101, 3) ∧ decode cX8_relay 109 = .ok (.iload 7, 2) ∧ decode cX8_relay 111 = .ok (.bipush 8, 2) ∧ decode cX8_relay 113 = .ok (.idiv, 1) ∧ decode cX8_relay 114 = .ok (.istore 8, 2) ∧ decode cX8_relay 116 = .ok (.iload 7, 2) := by decide +kernel
theorem dX8_relay_101 : decode cX8_relay 101 = .ok (.iload 6, 2) := bdX8_relay_101.1
theorem dX8_relay_103 : decode cX8_relay 103 = .ok (.invokestatic 145, 3) := bdX8_relay_101.2.1
theorem dX8_relay_106 : decode cX8_relay 106 = .ok (.ifCond .eq 101, 3) := bdX8_relay_101.2.2.1
theorem dX8_relay_109 : decode cX8_relay 109 = .ok (.iload 7, 2) := bdX8_relay_101.2.2.2.1
theorem dX8_relay_111 : decode cX8_relay 111 = .ok (.bipush 8, 2) := bdX8_relay_101.2.2.2.2.1
theorem dX8_relay_113 : decode cX8_relay 113 = .ok (.idiv, 1) := bdX8_relay_101.2.2.2.2.2.1
theorem dX8_relay_114 : decode cX8_relay 114 = .ok (.istore 8, 2) := bdX8_relay_101.2.2.2.2.2.2.1
theorem dX8_relay_116 : decode cX8_relay 116 = .ok (.iload 7, 2) := bdX8_relay_101.2.2.2.2.2.2.2
theorem bdX8_relay_118 : decode cX8_relay 118 = .ok (.iconst 2, 1) ∧ decode cX8_relay 119 = .ok (.idiv, 1) ∧ decode cX8_relay 120 = .ok (.iconst 4, 1) ∧ decode cX8_relay 121 = .ok (.irem, 1) ∧ decode cX8_relay 122 = .ok (.istore 9, 2) ∧ decode cX8_relay 124 = .ok (.aload_n 0, 1) ∧ decode cX8_relay 125 = .ok (.iload 4, 2) ∧ decode cX8_relay 127 = .ok (.iload 6, 2) := by decide +kernel
theorem dX8_relay_118 : decode cX8_relay 118 = .ok (.iconst 2, 1) := bdX8_relay_118.1
theorem dX8_relay_119 : decode cX8_relay 119 = .ok (.idiv, 1) := bdX8_relay_118.2.1
theorem dX8_relay_120 : decode cX8_relay 120 = .ok (.iconst 4, 1) := bdX8_relay_118.2.2.1
theorem dX8_relay_121 : decode cX8_relay 121 = .ok (.irem, 1) := bdX8_relay_118.2.2.2.1
theorem dX8_relay_122 : decode cX8_relay 122 = .ok (.istore 9, 2) := bdX8_relay_118.2.2.2.2.1
theorem dX8_relay_124 : decode cX8_relay 124 = .ok (.aload_n 0, 1) := bdX8_relay_118.2.2.2.2.2.1
theorem dX8_relay_125 : decode cX8_relay 125 = .ok (.iload 4, 2) := bdX8_relay_118.2.2.2.2.2.2.1
theorem dX8_relay_127 : decode cX8_relay 127 = .ok (.iload 6, 2) := bdX8_relay_118.2.2.2.2.2.2.2
theorem bdX8_relay_129 : decode cX8_relay 129 = .ok (.iload_n 1, 1) ∧ decode cX8_relay 130 = .ok (.iload 8, 2) ∧ decode cX8_relay 132 = .ok (.iload 9, 2) ∧ decode cX8_relay 134 = .ok (.iload 7, 2) ∧ decode cX8_relay 136 = .ok (.iconst 2, 1) ∧ decode cX8_relay 137 = .ok (.irem, 1) ∧ decode cX8_relay 138 = .ok (.invokevirtual 182, 3) ∧ decode cX8_relay 141 = .ok (.istore 10, 2) := by decide +kernel
theorem dX8_relay_129 : decode cX8_relay 129 = .ok (.iload_n 1, 1) := bdX8_relay_129.1
theorem dX8_relay_130 : decode cX8_relay 130 = .ok (.iload 8, 2) := bdX8_relay_129.2.1
theorem dX8_relay_132 : decode cX8_relay 132 = .ok (.iload 9, 2) := bdX8_relay_129.2.2.1
theorem dX8_relay_134 : decode cX8_relay 134 = .ok (.iload 7, 2) := bdX8_relay_129.2.2.2.1
theorem dX8_relay_136 : decode cX8_relay 136 = .ok (.iconst 2, 1) := bdX8_relay_129.2.2.2.2.1
theorem dX8_relay_137 : decode cX8_relay 137 = .ok (.irem, 1) := bdX8_relay_129.2.2.2.2.2.1
theorem dX8_relay_138 : decode cX8_relay 138 = .ok (.invokevirtual 182, 3) := bdX8_relay_129.2.2.2.2.2.2.1
theorem dX8_relay_141 : decode cX8_relay 141 = .ok (.istore 10, 2) := bdX8_relay_129.2.2.2.2.2.2.2
theorem bdX8_relay_143 : decode cX8_relay 143 = .ok (.iload 10, 2) ∧ decode cX8_relay 145 = .ok (.iload 4, 2) ∧ decode cX8_relay 147 = .ok (.if_icmp .eq 54, 3) ∧ decode cX8_relay 150 = .ok (.iload 9, 2) ∧ decode cX8_relay 152 = .ok (.ifCond .gt 8, 3) ∧ decode cX8_relay 155 = .ok (.iload 8, 2) ∧ decode cX8_relay 157 = .ok (.ifCond .ne 44, 3) ∧ decode cX8_relay 160 = .ok (.aload_n 0, 1) := by decide +kernel
theorem dX8_relay_143 : decode cX8_relay 143 = .ok (.iload 10, 2) := bdX8_relay_143.1
theorem dX8_relay_145 : decode cX8_relay 145 = .ok (.iload 4, 2) := bdX8_relay_143.2.1
theorem dX8_relay_147 : decode cX8_relay 147 = .ok (.if_icmp .eq 54, 3) := bdX8_relay_143.2.2.1
theorem dX8_relay_150 : decode cX8_relay 150 = .ok (.iload 9, 2) := bdX8_relay_143.2.2.2.1
theorem dX8_relay_152 : decode cX8_relay 152 = .ok (.ifCond .gt 8, 3) := bdX8_relay_143.2.2.2.2.1
theorem dX8_relay_155 : decode cX8_relay 155 = .ok (.iload 8, 2) := bdX8_relay_143.2.2.2.2.2.1
theorem dX8_relay_157 : decode cX8_relay 157 = .ok (.ifCond .ne 44, 3) := bdX8_relay_143.2.2.2.2.2.2.1
theorem dX8_relay_160 : decode cX8_relay 160 = .ok (.aload_n 0, 1) := bdX8_relay_143.2.2.2.2.2.2.2
theorem bdX8_relay_161 : decode cX8_relay 161 = .ok (.getfield 60, 3) ∧ decode cX8_relay 164 = .ok (.iload 10, 2) ∧ decode cX8_relay 166 = .ok (.iaload, 1) ∧ decode cX8_relay 167 = .ok (.iload 5, 2) ∧ decode cX8_relay 169 = .ok (.iconst 1, 1) ∧ decode cX8_relay 170 = .ok (.isub, 1) ∧ decode cX8_relay 171 = .ok (.if_icmp .ne 30, 3) ∧ decode cX8_relay 174 = .ok (.iload_n 3, 1) := by decide +kernel
theorem dX8_relay_161 : decode cX8_relay 161 = .ok (.getfield 60, 3) := bdX8_relay_161.1
theorem dX8_relay_164 : decode cX8_relay 164 = .ok (.iload 10, 2) := bdX8_relay_161.2.1
theorem dX8_relay_166 : decode cX8_relay 166 = .ok (.iaload, 1) := bdX8_relay_161.2.2.1
theorem dX8_relay_167 : decode cX8_relay 167 = .ok (.iload 5, 2) := bdX8_relay_161.2.2.2.1
theorem dX8_relay_169 : decode cX8_relay 169 = .ok (.iconst 1, 1) := bdX8_relay_161.2.2.2.2.1
theorem dX8_relay_170 : decode cX8_relay 170 = .ok (.isub, 1) := bdX8_relay_161.2.2.2.2.2.1
theorem dX8_relay_171 : decode cX8_relay 171 = .ok (.if_icmp .ne 30, 3) := bdX8_relay_161.2.2.2.2.2.2.1
theorem dX8_relay_174 : decode cX8_relay 174 = .ok (.iload_n 3, 1) := bdX8_relay_161.2.2.2.2.2.2.2
theorem bdX8_relay_175 : decode cX8_relay 175 = .ok (.iconst 1, 1) ∧ decode cX8_relay 176 = .ok (.if_icmp .ne 8, 3) ∧ decode cX8_relay 179 = .ok (.iload 6, 2) ∧ decode cX8_relay 181 = .ok (.goto 19, 3) ∧ decode cX8_relay 184 = .ok (.bipush 100, 2) ∧ decode cX8_relay 186 = .ok (.iload 8, 2) ∧ decode cX8_relay 188 = .ok (.imul, 1) ∧ decode cX8_relay 189 = .ok (.bipush 10, 2) := by decide +kernel
theorem dX8_relay_175 : decode cX8_relay 175 = .ok (.iconst 1, 1) := bdX8_relay_175.1
theorem dX8_relay_176 : decode cX8_relay 176 = .ok (.if_icmp .ne 8, 3) := bdX8_relay_175.2.1
theorem dX8_relay_179 : decode cX8_relay 179 = .ok (.iload 6, 2) := bdX8_relay_175.2.2.1
theorem dX8_relay_181 : decode cX8_relay 181 = .ok (.goto 19, 3) := bdX8_relay_175.2.2.2.1
theorem dX8_relay_184 : decode cX8_relay 184 = .ok (.bipush 100, 2) := bdX8_relay_175.2.2.2.2.1
theorem dX8_relay_186 : decode cX8_relay 186 = .ok (.iload 8, 2) := bdX8_relay_175.2.2.2.2.2.1
theorem dX8_relay_188 : decode cX8_relay 188 = .ok (.imul, 1) := bdX8_relay_175.2.2.2.2.2.2.1
theorem dX8_relay_189 : decode cX8_relay 189 = .ok (.bipush 10, 2) := bdX8_relay_175.2.2.2.2.2.2.2
theorem bdX8_relay_191 : decode cX8_relay 191 = .ok (.iload 9, 2) ∧ decode cX8_relay 193 = .ok (.imul, 1) ∧ decode cX8_relay 194 = .ok (.iadd, 1) ∧ decode cX8_relay 195 = .ok (.iload 7, 2) ∧ decode cX8_relay 197 = .ok (.iconst 2, 1) ∧ decode cX8_relay 198 = .ok (.irem, 1) ∧ decode cX8_relay 199 = .ok (.iadd, 1) ∧ decode cX8_relay 200 = .ok (.ireturn, 1) := by decide +kernel
theorem dX8_relay_191 : decode cX8_relay 191 = .ok (.iload 9, 2) := bdX8_relay_191.1
theorem dX8_relay_193 : decode cX8_relay 193 = .ok (.imul, 1) := bdX8_relay_191.2.1
theorem dX8_relay_194 : decode cX8_relay 194 = .ok (.iadd, 1) := bdX8_relay_191.2.2.1
theorem dX8_relay_195 : decode cX8_relay 195 = .ok (.iload 7, 2) := bdX8_relay_191.2.2.2.1
theorem dX8_relay_197 : decode cX8_relay 197 = .ok (.iconst 2, 1) := bdX8_relay_191.2.2.2.2.1
theorem dX8_relay_198 : decode cX8_relay 198 = .ok (.irem, 1) := bdX8_relay_191.2.2.2.2.2.1
theorem dX8_relay_199 : decode cX8_relay 199 = .ok (.iadd, 1) := bdX8_relay_191.2.2.2.2.2.2.1
theorem dX8_relay_200 : decode cX8_relay 200 = .ok (.ireturn, 1) := bdX8_relay_191.2.2.2.2.2.2.2
theorem bdX8_relay_201 : decode cX8_relay 201 = .ok (.iinc 7 1, 3) ∧ decode cX8_relay 204 = .ok (.goto (-112), 3) ∧ decode cX8_relay 207 = .ok (.iinc 6 1, 3) ∧ decode cX8_relay 210 = .ok (.goto (-137), 3) ∧ decode cX8_relay 213 = .ok (.bipush (-9), 2) ∧ decode cX8_relay 215 = .ok (.ireturn, 1) := by decide +kernel
theorem dX8_relay_201 : decode cX8_relay 201 = .ok (.iinc 7 1, 3) := bdX8_relay_201.1
theorem dX8_relay_204 : decode cX8_relay 204 = .ok (.goto (-112), 3) := bdX8_relay_201.2.1
theorem dX8_relay_207 : decode cX8_relay 207 = .ok (.iinc 6 1, 3) := bdX8_relay_201.2.2.1
theorem dX8_relay_210 : decode cX8_relay 210 = .ok (.goto (-137), 3) := bdX8_relay_201.2.2.2.1
theorem dX8_relay_213 : decode cX8_relay 213 = .ok (.bipush (-9), 2) := bdX8_relay_201.2.2.2.2.1
theorem dX8_relay_215 : decode cX8_relay 215 = .ok (.ireturn, 1) := bdX8_relay_201.2.2.2.2.2
set_option maxRecDepth 20000 in
set_option maxRecDepth 100000 in
theorem ggX8_tellDue_X8_windIn : GoodIn wsX8_tellDue wsX8_windIn := goodIn_hd (goodIn_c ch_X8_tellDue hc_X8_tellDue ([.code yX8_windIn cX8_windIn 2 (some .int)] : List Cond) [(1, 8)] rfl (by decide +kernel)) (goodIn_app (goodIn_c ch_X8_tellDue hc_X8_tellDue ([.fieldLink RX8 38 "WordFletchersModel" "wind" "[I", .fieldLink RX8 44 "WordFletchersModel" "now" "[I", .fieldLink RX8 35 "WordFletchersModel" "winds" "[I"] : List Cond) [(1, 9), (1, 10), (1, 11)] rfl (by decide +kernel)) (goodIn_sub (fun _ h => (List.mem_cons_of_mem _ (List.mem_append_right _ h))) gwX8))
set_option maxRecDepth 20000 in
theorem gX8_tellDue_X8_windIn : GoodIn wsX8_tellDue (wsV RX8 151 RX8 yX8_windIn wsX8_windIn) := goodIn_app (goodIn_of _ (by decide +kernel)) ggX8_tellDue_X8_windIn
set_option maxRecDepth 20000 in
set_option maxRecDepth 100000 in
theorem ggX8_tellDue_X8_landsBy : GoodIn wsX8_tellDue wsX8_landsBy := goodIn_hd (goodIn_c ch_X8_tellDue hc_X8_tellDue ([.code yX8_landsBy cX8_landsBy 11 (some .int)] : List Cond) [(1, 15)] rfl (by decide +kernel)) (goodIn_app (goodIn_c ch_X8_tellDue hc_X8_tellDue ([.fieldLink RX8 29 "WordFletchersModel" "twist" "[I", .fieldLink RX8 26 "WordFletchersModel" "weight" "[I", .fieldLink RX8 44 "WordFletchersModel" "now" "[I", .fieldLink RX8 17 "WordFletchersModel" "place" "[I", .methodLink RX8 134 yX8_liftOf, .static yX8_liftOf, .initialized RX8, .code yX8_liftOf cX8_liftOf 1 (some .int), .methodLink RX8 72 yX8_in, .static yX8_in, .code yX8_in cX8_in 3 (some .boolean)] : List Cond) [(1, 16), (1, 17), (1, 10), (1, 18), (1, 19), (1, 20), (1, 7), (1, 21), (1, 22), (1, 23), (2, 0)] rfl (by decide +kernel)) (goodIn_sub (fun _ h => (List.mem_cons_of_mem _ (List.mem_append_right _ h))) gwX8))
set_option maxRecDepth 20000 in
theorem gX8_tellDue_X8_landsBy : GoodIn wsX8_tellDue (wsV RX8 161 RX8 yX8_landsBy wsX8_landsBy) := goodIn_app (goodIn_of _ (by decide +kernel)) ggX8_tellDue_X8_landsBy
set_option maxRecDepth 20000 in
set_option maxRecDepth 100000 in
theorem ggX8_tellDue_X8_hearersOf : GoodIn wsX8_tellDue wsX8_hearersOf := goodIn_hd (goodIn_c ch_X8_tellDue hc_X8_tellDue ([.code yX8_hearersOf cX8_hearersOf 5 (some .int)] : List Cond) [(2, 4)] rfl (by decide +kernel)) (goodIn_app (goodIn_c ch_X8_tellDue hc_X8_tellDue ([.fieldLink RX8 13 "WordFletchersModel" "people" "[I", .methodLink RX8 138 yX8_doesHear, .instanceMethod yX8_doesHear, .selects RX8 yX8_doesHear yX8_doesHear, .initialized RX8, .code yX8_doesHear cX8_doesHear 4 (some .boolean), .fieldLink RX8 17 "WordFletchersModel" "place" "[I", .fieldLink RX8 20 "WordFletchersModel" "ear" "[I"] : List Cond) [(2, 5), (2, 6), (2, 7), (2, 8), (1, 7), (2, 9), (1, 18), (2, 10)] rfl (by decide +kernel)) (goodIn_sub (fun _ h => (List.mem_cons_of_mem _ (List.mem_append_right _ h))) gwX8))
set_option maxRecDepth 20000 in
theorem gX8_tellDue_X8_hearersOf : GoodIn wsX8_tellDue (wsV RX8 165 RX8 yX8_hearersOf wsX8_hearersOf) := goodIn_app (goodIn_of _ (by decide +kernel)) ggX8_tellDue_X8_hearersOf
theorem bdX8_tellDue_0 : decode cX8_tellDue 0 = .ok (.iconst 0, 1) ∧ decode cX8_tellDue 1 = .ok (.istore_n 1, 1) ∧ decode cX8_tellDue 2 = .ok (.iload_n 1, 1) ∧ decode cX8_tellDue 3 = .ok (.aload_n 0, 1) ∧ decode cX8_tellDue 4 = .ok (.getfield 23, 3) ∧ decode cX8_tellDue 7 = .ok (.iconst 0, 1) ∧ decode cX8_tellDue 8 = .ok (.iaload, 1) ∧ decode cX8_tellDue 9 = .ok (.if_icmp .ge 102, 3) := by decide +kernel
theorem dX8_tellDue_0 : decode cX8_tellDue 0 = .ok (.iconst 0, 1) := bdX8_tellDue_0.1
theorem dX8_tellDue_1 : decode cX8_tellDue 1 = .ok (.istore_n 1, 1) := bdX8_tellDue_0.2.1
theorem dX8_tellDue_2 : decode cX8_tellDue 2 = .ok (.iload_n 1, 1) := bdX8_tellDue_0.2.2.1
theorem dX8_tellDue_3 : decode cX8_tellDue 3 = .ok (.aload_n 0, 1) := bdX8_tellDue_0.2.2.2.1
theorem dX8_tellDue_4 : decode cX8_tellDue 4 = .ok (.getfield 23, 3) := bdX8_tellDue_0.2.2.2.2.1
theorem dX8_tellDue_7 : decode cX8_tellDue 7 = .ok (.iconst 0, 1) := bdX8_tellDue_0.2.2.2.2.2.1
theorem dX8_tellDue_8 : decode cX8_tellDue 8 = .ok (.iaload, 1) := bdX8_tellDue_0.2.2.2.2.2.2.1
theorem dX8_tellDue_9 : decode cX8_tellDue 9 = .ok (.if_icmp .ge 102, 3) := bdX8_tellDue_0.2.2.2.2.2.2.2
theorem bdX8_tellDue_12 : decode cX8_tellDue 12 = .ok (.iconst 0, 1) ∧ decode cX8_tellDue 13 = .ok (.istore_n 2, 1) ∧ decode cX8_tellDue 14 = .ok (.iload_n 2, 1) ∧ decode cX8_tellDue 15 = .ok (.iconst 4, 1) ∧ decode cX8_tellDue 16 = .ok (.if_icmp .ge 89, 3) ∧ decode cX8_tellDue 19 = .ok (.aload_n 0, 1) ∧ decode cX8_tellDue 20 = .ok (.getfield 63, 3) ∧ decode cX8_tellDue 23 = .ok (.iconst 4, 1) := by decide +kernel
theorem dX8_tellDue_12 : decode cX8_tellDue 12 = .ok (.iconst 0, 1) := bdX8_tellDue_12.1
theorem dX8_tellDue_13 : decode cX8_tellDue 13 = .ok (.istore_n 2, 1) := bdX8_tellDue_12.2.1
theorem dX8_tellDue_14 : decode cX8_tellDue 14 = .ok (.iload_n 2, 1) := bdX8_tellDue_12.2.2.1
theorem dX8_tellDue_15 : decode cX8_tellDue 15 = .ok (.iconst 4, 1) := bdX8_tellDue_12.2.2.2.1
theorem dX8_tellDue_16 : decode cX8_tellDue 16 = .ok (.if_icmp .ge 89, 3) := bdX8_tellDue_12.2.2.2.2.1
theorem dX8_tellDue_19 : decode cX8_tellDue 19 = .ok (.aload_n 0, 1) := bdX8_tellDue_12.2.2.2.2.2.1
theorem dX8_tellDue_20 : decode cX8_tellDue 20 = .ok (.getfield 63, 3) := bdX8_tellDue_12.2.2.2.2.2.2.1
theorem dX8_tellDue_23 : decode cX8_tellDue 23 = .ok (.iconst 4, 1) := bdX8_tellDue_12.2.2.2.2.2.2.2
theorem bdX8_tellDue_24 : decode cX8_tellDue 24 = .ok (.iload_n 1, 1) ∧ decode cX8_tellDue 25 = .ok (.imul, 1) ∧ decode cX8_tellDue 26 = .ok (.iload_n 2, 1) ∧ decode cX8_tellDue 27 = .ok (.iadd, 1) ∧ decode cX8_tellDue 28 = .ok (.ldc 181, 2) ∧ decode cX8_tellDue 30 = .ok (.iastore, 1) ∧ decode cX8_tellDue 31 = .ok (.iconst 3, 1) ∧ decode cX8_tellDue 32 = .ok (.istore_n 3, 1) := by decide +kernel
theorem dX8_tellDue_24 : decode cX8_tellDue 24 = .ok (.iload_n 1, 1) := bdX8_tellDue_24.1
theorem dX8_tellDue_25 : decode cX8_tellDue 25 = .ok (.imul, 1) := bdX8_tellDue_24.2.1
theorem dX8_tellDue_26 : decode cX8_tellDue 26 = .ok (.iload_n 2, 1) := bdX8_tellDue_24.2.2.1
theorem dX8_tellDue_27 : decode cX8_tellDue 27 = .ok (.iadd, 1) := bdX8_tellDue_24.2.2.2.1
theorem dX8_tellDue_28 : decode cX8_tellDue 28 = .ok (.ldc 181, 2) := bdX8_tellDue_24.2.2.2.2.1
theorem dX8_tellDue_30 : decode cX8_tellDue 30 = .ok (.iastore, 1) := bdX8_tellDue_24.2.2.2.2.2.1
theorem dX8_tellDue_31 : decode cX8_tellDue 31 = .ok (.iconst 3, 1) := bdX8_tellDue_24.2.2.2.2.2.2.1
theorem dX8_tellDue_32 : decode cX8_tellDue 32 = .ok (.istore_n 3, 1) := bdX8_tellDue_24.2.2.2.2.2.2.2
theorem bdX8_tellDue_33 : decode cX8_tellDue 33 = .ok (.iload_n 3, 1) ∧ decode cX8_tellDue 34 = .ok (.iload_n 2, 1) ∧ decode cX8_tellDue 35 = .ok (.ifCond .ne 7, 3) ∧ decode cX8_tellDue 38 = .ok (.iconst 0, 1) ∧ decode cX8_tellDue 39 = .ok (.goto 4, 3) ∧ decode cX8_tellDue 42 = .ok (.iconst 1, 1) ∧ decode cX8_tellDue 43 = .ok (.if_icmp .lt 56, 3) ∧ decode cX8_tellDue 46 = .ok (.aload_n 0, 1) := by decide +kernel
theorem dX8_tellDue_33 : decode cX8_tellDue 33 = .ok (.iload_n 3, 1) := bdX8_tellDue_33.1
theorem dX8_tellDue_34 : decode cX8_tellDue 34 = .ok (.iload_n 2, 1) := bdX8_tellDue_33.2.1
theorem dX8_tellDue_35 : decode cX8_tellDue 35 = .ok (.ifCond .ne 7, 3) := bdX8_tellDue_33.2.2.1
theorem dX8_tellDue_38 : decode cX8_tellDue 38 = .ok (.iconst 0, 1) := bdX8_tellDue_33.2.2.2.1
theorem dX8_tellDue_39 : decode cX8_tellDue 39 = .ok (.goto 4, 3) := bdX8_tellDue_33.2.2.2.2.1
theorem dX8_tellDue_42 : decode cX8_tellDue 42 = .ok (.iconst 1, 1) := bdX8_tellDue_33.2.2.2.2.2.1
theorem dX8_tellDue_43 : decode cX8_tellDue 43 = .ok (.if_icmp .lt 56, 3) := bdX8_tellDue_33.2.2.2.2.2.2.1
theorem dX8_tellDue_46 : decode cX8_tellDue 46 = .ok (.aload_n 0, 1) := bdX8_tellDue_33.2.2.2.2.2.2.2
theorem bdX8_tellDue_47 : decode cX8_tellDue 47 = .ok (.aload_n 0, 1) ∧ decode cX8_tellDue 48 = .ok (.getfield 32, 3) ∧ decode cX8_tellDue 51 = .ok (.iload_n 1, 1) ∧ decode cX8_tellDue 52 = .ok (.iaload, 1) ∧ decode cX8_tellDue 53 = .ok (.iload_n 1, 1) ∧ decode cX8_tellDue 54 = .ok (.iload_n 2, 1) ∧ decode cX8_tellDue 55 = .ok (.iload_n 3, 1) ∧ decode cX8_tellDue 56 = .ok (.iconst 1, 1) := by decide +kernel
theorem dX8_tellDue_47 : decode cX8_tellDue 47 = .ok (.aload_n 0, 1) := bdX8_tellDue_47.1
theorem dX8_tellDue_48 : decode cX8_tellDue 48 = .ok (.getfield 32, 3) := bdX8_tellDue_47.2.1
theorem dX8_tellDue_51 : decode cX8_tellDue 51 = .ok (.iload_n 1, 1) := bdX8_tellDue_47.2.2.1
theorem dX8_tellDue_52 : decode cX8_tellDue 52 = .ok (.iaload, 1) := bdX8_tellDue_47.2.2.2.1
theorem dX8_tellDue_53 : decode cX8_tellDue 53 = .ok (.iload_n 1, 1) := bdX8_tellDue_47.2.2.2.2.1
theorem dX8_tellDue_54 : decode cX8_tellDue 54 = .ok (.iload_n 2, 1) := bdX8_tellDue_47.2.2.2.2.2.1
theorem dX8_tellDue_55 : decode cX8_tellDue 55 = .ok (.iload_n 3, 1) := bdX8_tellDue_47.2.2.2.2.2.2.1
theorem dX8_tellDue_56 : decode cX8_tellDue 56 = .ok (.iconst 1, 1) := bdX8_tellDue_47.2.2.2.2.2.2.2
theorem bdX8_tellDue_57 : decode cX8_tellDue 57 = .ok (.aload_n 0, 1) ∧ decode cX8_tellDue 58 = .ok (.iconst 0, 1) ∧ decode cX8_tellDue 59 = .ok (.invokevirtual 151, 3) ∧ decode cX8_tellDue 62 = .ok (.invokevirtual 161, 3) ∧ decode cX8_tellDue 65 = .ok (.istore 4, 2) ∧ decode cX8_tellDue 67 = .ok (.aload_n 0, 1) ∧ decode cX8_tellDue 68 = .ok (.iload 4, 2) ∧ decode cX8_tellDue 70 = .ok (.aload_n 0, 1) := by decide +kernel
theorem dX8_tellDue_57 : decode cX8_tellDue 57 = .ok (.aload_n 0, 1) := bdX8_tellDue_57.1
theorem dX8_tellDue_58 : decode cX8_tellDue 58 = .ok (.iconst 0, 1) := bdX8_tellDue_57.2.1
theorem dX8_tellDue_59 : decode cX8_tellDue 59 = .ok (.invokevirtual 151, 3) := bdX8_tellDue_57.2.2.1
theorem dX8_tellDue_62 : decode cX8_tellDue 62 = .ok (.invokevirtual 161, 3) := bdX8_tellDue_57.2.2.2.1
theorem dX8_tellDue_65 : decode cX8_tellDue 65 = .ok (.istore 4, 2) := bdX8_tellDue_57.2.2.2.2.1
theorem dX8_tellDue_67 : decode cX8_tellDue 67 = .ok (.aload_n 0, 1) := bdX8_tellDue_57.2.2.2.2.2.1
theorem dX8_tellDue_68 : decode cX8_tellDue 68 = .ok (.iload 4, 2) := bdX8_tellDue_57.2.2.2.2.2.2.1
theorem dX8_tellDue_70 : decode cX8_tellDue 70 = .ok (.aload_n 0, 1) := bdX8_tellDue_57.2.2.2.2.2.2.2
theorem bdX8_tellDue_71 : decode cX8_tellDue 71 = .ok (.getfield 32, 3) ∧ decode cX8_tellDue 74 = .ok (.iload_n 1, 1) ∧ decode cX8_tellDue 75 = .ok (.iaload, 1) ∧ decode cX8_tellDue 76 = .ok (.invokevirtual 165, 3) ∧ decode cX8_tellDue 79 = .ok (.ifCond .eq 14, 3) ∧ decode cX8_tellDue 82 = .ok (.aload_n 0, 1) ∧ decode cX8_tellDue 83 = .ok (.getfield 63, 3) ∧ decode cX8_tellDue 86 = .ok (.iconst 4, 1) := by decide +kernel
theorem dX8_tellDue_71 : decode cX8_tellDue 71 = .ok (.getfield 32, 3) := bdX8_tellDue_71.1
theorem dX8_tellDue_74 : decode cX8_tellDue 74 = .ok (.iload_n 1, 1) := bdX8_tellDue_71.2.1
theorem dX8_tellDue_75 : decode cX8_tellDue 75 = .ok (.iaload, 1) := bdX8_tellDue_71.2.2.1
theorem dX8_tellDue_76 : decode cX8_tellDue 76 = .ok (.invokevirtual 165, 3) := bdX8_tellDue_71.2.2.2.1
theorem dX8_tellDue_79 : decode cX8_tellDue 79 = .ok (.ifCond .eq 14, 3) := bdX8_tellDue_71.2.2.2.2.1
theorem dX8_tellDue_82 : decode cX8_tellDue 82 = .ok (.aload_n 0, 1) := bdX8_tellDue_71.2.2.2.2.2.1
theorem dX8_tellDue_83 : decode cX8_tellDue 83 = .ok (.getfield 63, 3) := bdX8_tellDue_71.2.2.2.2.2.2.1
theorem dX8_tellDue_86 : decode cX8_tellDue 86 = .ok (.iconst 4, 1) := bdX8_tellDue_71.2.2.2.2.2.2.2
theorem bdX8_tellDue_87 : decode cX8_tellDue 87 = .ok (.iload_n 1, 1) ∧ decode cX8_tellDue 88 = .ok (.imul, 1) ∧ decode cX8_tellDue 89 = .ok (.iload_n 2, 1) ∧ decode cX8_tellDue 90 = .ok (.iadd, 1) ∧ decode cX8_tellDue 91 = .ok (.iload_n 3, 1) ∧ decode cX8_tellDue 92 = .ok (.iastore, 1) ∧ decode cX8_tellDue 93 = .ok (.iinc 3 (-1), 3) ∧ decode cX8_tellDue 96 = .ok (.goto (-63), 3) := by decide +kernel
theorem dX8_tellDue_87 : decode cX8_tellDue 87 = .ok (.iload_n 1, 1) := bdX8_tellDue_87.1
theorem dX8_tellDue_88 : decode cX8_tellDue 88 = .ok (.imul, 1) := bdX8_tellDue_87.2.1
theorem dX8_tellDue_89 : decode cX8_tellDue 89 = .ok (.iload_n 2, 1) := bdX8_tellDue_87.2.2.1
theorem dX8_tellDue_90 : decode cX8_tellDue 90 = .ok (.iadd, 1) := bdX8_tellDue_87.2.2.2.1
theorem dX8_tellDue_91 : decode cX8_tellDue 91 = .ok (.iload_n 3, 1) := bdX8_tellDue_87.2.2.2.2.1
theorem dX8_tellDue_92 : decode cX8_tellDue 92 = .ok (.iastore, 1) := bdX8_tellDue_87.2.2.2.2.2.1
theorem dX8_tellDue_93 : decode cX8_tellDue 93 = .ok (.iinc 3 (-1), 3) := bdX8_tellDue_87.2.2.2.2.2.2.1
theorem dX8_tellDue_96 : decode cX8_tellDue 96 = .ok (.goto (-63), 3) := bdX8_tellDue_87.2.2.2.2.2.2.2
theorem bdX8_tellDue_99 : decode cX8_tellDue 99 = .ok (.iinc 2 1, 3) ∧ decode cX8_tellDue 102 = .ok (.goto (-88), 3) ∧ decode cX8_tellDue 105 = .ok (.iinc 1 1, 3) ∧ decode cX8_tellDue 108 = .ok (.goto (-106), 3) ∧ decode cX8_tellDue 111 = .ok (.return_, 1) := by decide +kernel
theorem dX8_tellDue_99 : decode cX8_tellDue 99 = .ok (.iinc 2 1, 3) := bdX8_tellDue_99.1
theorem dX8_tellDue_102 : decode cX8_tellDue 102 = .ok (.goto (-88), 3) := bdX8_tellDue_99.2.1
theorem dX8_tellDue_105 : decode cX8_tellDue 105 = .ok (.iinc 1 1, 3) := bdX8_tellDue_99.2.2.1
theorem dX8_tellDue_108 : decode cX8_tellDue 108 = .ok (.goto (-106), 3) := bdX8_tellDue_99.2.2.2.1
theorem dX8_tellDue_111 : decode cX8_tellDue 111 = .ok (.return_, 1) := bdX8_tellDue_99.2.2.2.2
set_option maxRecDepth 20000 in
set_option maxRecDepth 100000 in
theorem ggX8_takes_X8_has : GoodIn wsX8_takes wsX8_has := goodIn_hd (goodIn_c ch_X8_takes hc_X8_takes ([.code yX8_has cX8_has 2 (some .boolean)] : List Cond) [(1, 7)] rfl (by decide +kernel)) (goodIn_c ch_X8_takes hc_X8_takes ([] : List Cond) [] rfl (by decide +kernel))
set_option maxRecDepth 20000 in
theorem gX8_takes_X8_has : GoodIn wsX8_takes (va_wsS RX8 145 yX8_has wsX8_has) := goodIn_app (goodIn_of _ (by decide +kernel)) ggX8_takes_X8_has
theorem bdX8_takes_0 : decode cX8_takes 0 = .ok (.iconst 0, 1) ∧ decode cX8_takes 1 = .ok (.istore_n 3, 1) ∧ decode cX8_takes 2 = .ok (.iload_n 2, 1) ∧ decode cX8_takes 3 = .ok (.istore 4, 2) ∧ decode cX8_takes 5 = .ok (.iconst 0, 1) ∧ decode cX8_takes 6 = .ok (.istore 5, 2) ∧ decode cX8_takes 8 = .ok (.iconst 0, 1) ∧ decode cX8_takes 9 = .ok (.istore 6, 2) := by decide +kernel
theorem dX8_takes_0 : decode cX8_takes 0 = .ok (.iconst 0, 1) := bdX8_takes_0.1
theorem dX8_takes_1 : decode cX8_takes 1 = .ok (.istore_n 3, 1) := bdX8_takes_0.2.1
theorem dX8_takes_2 : decode cX8_takes 2 = .ok (.iload_n 2, 1) := bdX8_takes_0.2.2.1
theorem dX8_takes_3 : decode cX8_takes 3 = .ok (.istore 4, 2) := bdX8_takes_0.2.2.2.1
theorem dX8_takes_5 : decode cX8_takes 5 = .ok (.iconst 0, 1) := bdX8_takes_0.2.2.2.2.1
theorem dX8_takes_6 : decode cX8_takes 6 = .ok (.istore 5, 2) := bdX8_takes_0.2.2.2.2.2.1
theorem dX8_takes_8 : decode cX8_takes 8 = .ok (.iconst 0, 1) := bdX8_takes_0.2.2.2.2.2.2.1
theorem dX8_takes_9 : decode cX8_takes 9 = .ok (.istore 6, 2) := bdX8_takes_0.2.2.2.2.2.2.2
theorem bdX8_takes_11 : decode cX8_takes 11 = .ok (.iconst 0, 1) ∧ decode cX8_takes 12 = .ok (.istore 7, 2) ∧ decode cX8_takes 14 = .ok (.iconst 0, 1) ∧ decode cX8_takes 15 = .ok (.istore 8, 2) ∧ decode cX8_takes 17 = .ok (.aload_n 0, 1) ∧ decode cX8_takes 18 = .ok (.getfield 23, 3) ∧ decode cX8_takes 21 = .ok (.iconst 0, 1) ∧ decode cX8_takes 22 = .ok (.iaload, 1) := by decide +kernel
theorem dX8_takes_11 : decode cX8_takes 11 = .ok (.iconst 0, 1) := bdX8_takes_11.1
theorem dX8_takes_12 : decode cX8_takes 12 = .ok (.istore 7, 2) := bdX8_takes_11.2.1
theorem dX8_takes_14 : decode cX8_takes 14 = .ok (.iconst 0, 1) := bdX8_takes_11.2.2.1
theorem dX8_takes_15 : decode cX8_takes 15 = .ok (.istore 8, 2) := bdX8_takes_11.2.2.2.1
theorem dX8_takes_17 : decode cX8_takes 17 = .ok (.aload_n 0, 1) := bdX8_takes_11.2.2.2.2.1
theorem dX8_takes_18 : decode cX8_takes 18 = .ok (.getfield 23, 3) := bdX8_takes_11.2.2.2.2.2.1
theorem dX8_takes_21 : decode cX8_takes 21 = .ok (.iconst 0, 1) := bdX8_takes_11.2.2.2.2.2.2.1
theorem dX8_takes_22 : decode cX8_takes 22 = .ok (.iaload, 1) := bdX8_takes_11.2.2.2.2.2.2.2
theorem bdX8_takes_23 : decode cX8_takes 23 = .ok (.iconst 1, 1) ∧ decode cX8_takes 24 = .ok (.isub, 1) ∧ decode cX8_takes 25 = .ok (.istore 9, 2) ∧ decode cX8_takes 27 = .ok (.iload 9, 2) ∧ decode cX8_takes 29 = .ok (.ifCond .lt 116, 3) ∧ decode cX8_takes 32 = .ok (.iload_n 1, 1) ∧ decode cX8_takes 33 = .ok (.iload 9, 2) ∧ decode cX8_takes 35 = .ok (.invokestatic 145, 3) := by decide +kernel
theorem dX8_takes_23 : decode cX8_takes 23 = .ok (.iconst 1, 1) := bdX8_takes_23.1
theorem dX8_takes_24 : decode cX8_takes 24 = .ok (.isub, 1) := bdX8_takes_23.2.1
theorem dX8_takes_25 : decode cX8_takes 25 = .ok (.istore 9, 2) := bdX8_takes_23.2.2.1
theorem dX8_takes_27 : decode cX8_takes 27 = .ok (.iload 9, 2) := bdX8_takes_23.2.2.2.1
theorem dX8_takes_29 : decode cX8_takes 29 = .ok (.ifCond .lt 116, 3) := bdX8_takes_23.2.2.2.2.1
theorem dX8_takes_32 : decode cX8_takes 32 = .ok (.iload_n 1, 1) := bdX8_takes_23.2.2.2.2.2.1
theorem dX8_takes_33 : decode cX8_takes 33 = .ok (.iload 9, 2) := bdX8_takes_23.2.2.2.2.2.2.1
theorem dX8_takes_35 : decode cX8_takes 35 = .ok (.invokestatic 145, 3) := bdX8_takes_23.2.2.2.2.2.2.2
theorem bdX8_takes_38 : decode cX8_takes 38 = .ok (.ifCond .eq 101, 3) ∧ decode cX8_takes 41 = .ok (.iload 4, 2) ∧ decode cX8_takes 43 = .ok (.iconst 4, 1) ∧ decode cX8_takes 44 = .ok (.irem, 1) ∧ decode cX8_takes 45 = .ok (.istore 10, 2) ∧ decode cX8_takes 47 = .ok (.aload_n 0, 1) ∧ decode cX8_takes 48 = .ok (.getfield 63, 3) ∧ decode cX8_takes 51 = .ok (.iconst 4, 1) := by decide +kernel
theorem dX8_takes_38 : decode cX8_takes 38 = .ok (.ifCond .eq 101, 3) := bdX8_takes_38.1
theorem dX8_takes_41 : decode cX8_takes 41 = .ok (.iload 4, 2) := bdX8_takes_38.2.1
theorem dX8_takes_43 : decode cX8_takes 43 = .ok (.iconst 4, 1) := bdX8_takes_38.2.2.1
theorem dX8_takes_44 : decode cX8_takes 44 = .ok (.irem, 1) := bdX8_takes_38.2.2.2.1
theorem dX8_takes_45 : decode cX8_takes 45 = .ok (.istore 10, 2) := bdX8_takes_38.2.2.2.2.1
theorem dX8_takes_47 : decode cX8_takes 47 = .ok (.aload_n 0, 1) := bdX8_takes_38.2.2.2.2.2.1
theorem dX8_takes_48 : decode cX8_takes 48 = .ok (.getfield 63, 3) := bdX8_takes_38.2.2.2.2.2.2.1
theorem dX8_takes_51 : decode cX8_takes 51 = .ok (.iconst 4, 1) := bdX8_takes_38.2.2.2.2.2.2.2
theorem bdX8_takes_52 : decode cX8_takes 52 = .ok (.iload 9, 2) ∧ decode cX8_takes 54 = .ok (.imul, 1) ∧ decode cX8_takes 55 = .ok (.iload 10, 2) ∧ decode cX8_takes 57 = .ok (.iadd, 1) ∧ decode cX8_takes 58 = .ok (.iaload, 1) ∧ decode cX8_takes 59 = .ok (.istore 11, 2) ∧ decode cX8_takes 61 = .ok (.iload 4, 2) ∧ decode cX8_takes 63 = .ok (.iconst 4, 1) := by decide +kernel
theorem dX8_takes_52 : decode cX8_takes 52 = .ok (.iload 9, 2) := bdX8_takes_52.1
theorem dX8_takes_54 : decode cX8_takes 54 = .ok (.imul, 1) := bdX8_takes_52.2.1
theorem dX8_takes_55 : decode cX8_takes 55 = .ok (.iload 10, 2) := bdX8_takes_52.2.2.1
theorem dX8_takes_57 : decode cX8_takes 57 = .ok (.iadd, 1) := bdX8_takes_52.2.2.2.1
theorem dX8_takes_58 : decode cX8_takes 58 = .ok (.iaload, 1) := bdX8_takes_52.2.2.2.2.1
theorem dX8_takes_59 : decode cX8_takes 59 = .ok (.istore 11, 2) := bdX8_takes_52.2.2.2.2.2.1
theorem dX8_takes_61 : decode cX8_takes 61 = .ok (.iload 4, 2) := bdX8_takes_52.2.2.2.2.2.2.1
theorem dX8_takes_63 : decode cX8_takes 63 = .ok (.iconst 4, 1) := bdX8_takes_52.2.2.2.2.2.2.2
theorem bdX8_takes_64 : decode cX8_takes 64 = .ok (.idiv, 1) ∧ decode cX8_takes 65 = .ok (.istore 4, 2) ∧ decode cX8_takes 67 = .ok (.iload_n 3, 1) ∧ decode cX8_takes 68 = .ok (.iload 11, 2) ∧ decode cX8_takes 70 = .ok (.iadd, 1) ∧ decode cX8_takes 71 = .ok (.istore_n 3, 1) ∧ decode cX8_takes 72 = .ok (.iload 5, 2) ∧ decode cX8_takes 74 = .ok (.iload 10, 2) := by decide +kernel
theorem dX8_takes_64 : decode cX8_takes 64 = .ok (.idiv, 1) := bdX8_takes_64.1
theorem dX8_takes_65 : decode cX8_takes 65 = .ok (.istore 4, 2) := bdX8_takes_64.2.1
theorem dX8_takes_67 : decode cX8_takes 67 = .ok (.iload_n 3, 1) := bdX8_takes_64.2.2.1
theorem dX8_takes_68 : decode cX8_takes 68 = .ok (.iload 11, 2) := bdX8_takes_64.2.2.2.1
theorem dX8_takes_70 : decode cX8_takes 70 = .ok (.iadd, 1) := bdX8_takes_64.2.2.2.2.1
theorem dX8_takes_71 : decode cX8_takes 71 = .ok (.istore_n 3, 1) := bdX8_takes_64.2.2.2.2.2.1
theorem dX8_takes_72 : decode cX8_takes 72 = .ok (.iload 5, 2) := bdX8_takes_64.2.2.2.2.2.2.1
theorem dX8_takes_74 : decode cX8_takes 74 = .ok (.iload 10, 2) := bdX8_takes_64.2.2.2.2.2.2.2
theorem bdX8_takes_76 : decode cX8_takes 76 = .ok (.ifCond .ne 8, 3) ∧ decode cX8_takes 79 = .ok (.iload 11, 2) ∧ decode cX8_takes 81 = .ok (.goto 4, 3) ∧ decode cX8_takes 84 = .ok (.iconst 0, 1) ∧ decode cX8_takes 85 = .ok (.iadd, 1) ∧ decode cX8_takes 86 = .ok (.istore 5, 2) ∧ decode cX8_takes 88 = .ok (.iload 6, 2) ∧ decode cX8_takes 90 = .ok (.iload 10, 2) := by decide +kernel
theorem dX8_takes_76 : decode cX8_takes 76 = .ok (.ifCond .ne 8, 3) := bdX8_takes_76.1
theorem dX8_takes_79 : decode cX8_takes 79 = .ok (.iload 11, 2) := bdX8_takes_76.2.1
theorem dX8_takes_81 : decode cX8_takes 81 = .ok (.goto 4, 3) := bdX8_takes_76.2.2.1
theorem dX8_takes_84 : decode cX8_takes 84 = .ok (.iconst 0, 1) := bdX8_takes_76.2.2.2.1
theorem dX8_takes_85 : decode cX8_takes 85 = .ok (.iadd, 1) := bdX8_takes_76.2.2.2.2.1
theorem dX8_takes_86 : decode cX8_takes 86 = .ok (.istore 5, 2) := bdX8_takes_76.2.2.2.2.2.1
theorem dX8_takes_88 : decode cX8_takes 88 = .ok (.iload 6, 2) := bdX8_takes_76.2.2.2.2.2.2.1
theorem dX8_takes_90 : decode cX8_takes 90 = .ok (.iload 10, 2) := bdX8_takes_76.2.2.2.2.2.2.2
theorem bdX8_takes_92 : decode cX8_takes 92 = .ok (.iconst 1, 1) ∧ decode cX8_takes 93 = .ok (.if_icmp .ne 8, 3) ∧ decode cX8_takes 96 = .ok (.iload 11, 2) ∧ decode cX8_takes 98 = .ok (.goto 4, 3) ∧ decode cX8_takes 101 = .ok (.iconst 0, 1) ∧ decode cX8_takes 102 = .ok (.iadd, 1) ∧ decode cX8_takes 103 = .ok (.istore 6, 2) ∧ decode cX8_takes 105 = .ok (.iload 7, 2) := by decide +kernel
theorem dX8_takes_92 : decode cX8_takes 92 = .ok (.iconst 1, 1) := bdX8_takes_92.1
theorem dX8_takes_93 : decode cX8_takes 93 = .ok (.if_icmp .ne 8, 3) := bdX8_takes_92.2.1
theorem dX8_takes_96 : decode cX8_takes 96 = .ok (.iload 11, 2) := bdX8_takes_92.2.2.1
theorem dX8_takes_98 : decode cX8_takes 98 = .ok (.goto 4, 3) := bdX8_takes_92.2.2.2.1
theorem dX8_takes_101 : decode cX8_takes 101 = .ok (.iconst 0, 1) := bdX8_takes_92.2.2.2.2.1
theorem dX8_takes_102 : decode cX8_takes 102 = .ok (.iadd, 1) := bdX8_takes_92.2.2.2.2.2.1
theorem dX8_takes_103 : decode cX8_takes 103 = .ok (.istore 6, 2) := bdX8_takes_92.2.2.2.2.2.2.1
theorem dX8_takes_105 : decode cX8_takes 105 = .ok (.iload 7, 2) := bdX8_takes_92.2.2.2.2.2.2.2
theorem bdX8_takes_107 : decode cX8_takes 107 = .ok (.iload 10, 2) ∧ decode cX8_takes 109 = .ok (.iconst 2, 1) ∧ decode cX8_takes 110 = .ok (.if_icmp .ne 8, 3) ∧ decode cX8_takes 113 = .ok (.iload 11, 2) ∧ decode cX8_takes 115 = .ok (.goto 4, 3) ∧ decode cX8_takes 118 = .ok (.iconst 0, 1) ∧ decode cX8_takes 119 = .ok (.iadd, 1) ∧ decode cX8_takes 120 = .ok (.istore 7, 2) := by decide +kernel
theorem dX8_takes_107 : decode cX8_takes 107 = .ok (.iload 10, 2) := bdX8_takes_107.1
theorem dX8_takes_109 : decode cX8_takes 109 = .ok (.iconst 2, 1) := bdX8_takes_107.2.1
theorem dX8_takes_110 : decode cX8_takes 110 = .ok (.if_icmp .ne 8, 3) := bdX8_takes_107.2.2.1
theorem dX8_takes_113 : decode cX8_takes 113 = .ok (.iload 11, 2) := bdX8_takes_107.2.2.2.1
theorem dX8_takes_115 : decode cX8_takes 115 = .ok (.goto 4, 3) := bdX8_takes_107.2.2.2.2.1
theorem dX8_takes_118 : decode cX8_takes 118 = .ok (.iconst 0, 1) := bdX8_takes_107.2.2.2.2.2.1
theorem dX8_takes_119 : decode cX8_takes 119 = .ok (.iadd, 1) := bdX8_takes_107.2.2.2.2.2.2.1
theorem dX8_takes_120 : decode cX8_takes 120 = .ok (.istore 7, 2) := bdX8_takes_107.2.2.2.2.2.2.2
theorem bdX8_takes_122 : decode cX8_takes 122 = .ok (.iload 8, 2) ∧ decode cX8_takes 124 = .ok (.iload 10, 2) ∧ decode cX8_takes 126 = .ok (.iconst 3, 1) ∧ decode cX8_takes 127 = .ok (.if_icmp .ne 8, 3) ∧ decode cX8_takes 130 = .ok (.iload 11, 2) ∧ decode cX8_takes 132 = .ok (.goto 4, 3) ∧ decode cX8_takes 135 = .ok (.iconst 0, 1) ∧ decode cX8_takes 136 = .ok (.iadd, 1) := by decide +kernel
theorem dX8_takes_122 : decode cX8_takes 122 = .ok (.iload 8, 2) := bdX8_takes_122.1
theorem dX8_takes_124 : decode cX8_takes 124 = .ok (.iload 10, 2) := bdX8_takes_122.2.1
theorem dX8_takes_126 : decode cX8_takes 126 = .ok (.iconst 3, 1) := bdX8_takes_122.2.2.1
theorem dX8_takes_127 : decode cX8_takes 127 = .ok (.if_icmp .ne 8, 3) := bdX8_takes_122.2.2.2.1
theorem dX8_takes_130 : decode cX8_takes 130 = .ok (.iload 11, 2) := bdX8_takes_122.2.2.2.2.1
theorem dX8_takes_132 : decode cX8_takes 132 = .ok (.goto 4, 3) := bdX8_takes_122.2.2.2.2.2.1
theorem dX8_takes_135 : decode cX8_takes 135 = .ok (.iconst 0, 1) := bdX8_takes_122.2.2.2.2.2.2.1
theorem dX8_takes_136 : decode cX8_takes 136 = .ok (.iadd, 1) := bdX8_takes_122.2.2.2.2.2.2.2
theorem bdX8_takes_137 : decode cX8_takes 137 = .ok (.istore 8, 2) ∧ decode cX8_takes 139 = .ok (.iinc 9 (-1), 3) ∧ decode cX8_takes 142 = .ok (.goto (-115), 3) ∧ decode cX8_takes 145 = .ok (.iload 5, 2) ∧ decode cX8_takes 147 = .ok (.aload_n 0, 1) ∧ decode cX8_takes 148 = .ok (.getfield 44, 3) ∧ decode cX8_takes 151 = .ok (.iconst 2, 1) ∧ decode cX8_takes 152 = .ok (.iaload, 1) := by decide +kernel
theorem dX8_takes_137 : decode cX8_takes 137 = .ok (.istore 8, 2) := bdX8_takes_137.1
theorem dX8_takes_139 : decode cX8_takes 139 = .ok (.iinc 9 (-1), 3) := bdX8_takes_137.2.1
theorem dX8_takes_142 : decode cX8_takes 142 = .ok (.goto (-115), 3) := bdX8_takes_137.2.2.1
theorem dX8_takes_145 : decode cX8_takes 145 = .ok (.iload 5, 2) := bdX8_takes_137.2.2.2.1
theorem dX8_takes_147 : decode cX8_takes 147 = .ok (.aload_n 0, 1) := bdX8_takes_137.2.2.2.2.1
theorem dX8_takes_148 : decode cX8_takes 148 = .ok (.getfield 44, 3) := bdX8_takes_137.2.2.2.2.2.1
theorem dX8_takes_151 : decode cX8_takes 151 = .ok (.iconst 2, 1) := bdX8_takes_137.2.2.2.2.2.2.1
theorem dX8_takes_152 : decode cX8_takes 152 = .ok (.iaload, 1) := bdX8_takes_137.2.2.2.2.2.2.2
theorem bdX8_takes_153 : decode cX8_takes 153 = .ok (.if_icmp .gt 40, 3) ∧ decode cX8_takes 156 = .ok (.iload 6, 2) ∧ decode cX8_takes 158 = .ok (.aload_n 0, 1) ∧ decode cX8_takes 159 = .ok (.getfield 44, 3) ∧ decode cX8_takes 162 = .ok (.iconst 3, 1) ∧ decode cX8_takes 163 = .ok (.iaload, 1) ∧ decode cX8_takes 164 = .ok (.if_icmp .gt 29, 3) ∧ decode cX8_takes 167 = .ok (.iload 7, 2) := by decide +kernel
theorem dX8_takes_153 : decode cX8_takes 153 = .ok (.if_icmp .gt 40, 3) := bdX8_takes_153.1
theorem dX8_takes_156 : decode cX8_takes 156 = .ok (.iload 6, 2) := bdX8_takes_153.2.1
theorem dX8_takes_158 : decode cX8_takes 158 = .ok (.aload_n 0, 1) := bdX8_takes_153.2.2.1
theorem dX8_takes_159 : decode cX8_takes 159 = .ok (.getfield 44, 3) := bdX8_takes_153.2.2.2.1
theorem dX8_takes_162 : decode cX8_takes 162 = .ok (.iconst 3, 1) := bdX8_takes_153.2.2.2.2.1
theorem dX8_takes_163 : decode cX8_takes 163 = .ok (.iaload, 1) := bdX8_takes_153.2.2.2.2.2.1
theorem dX8_takes_164 : decode cX8_takes 164 = .ok (.if_icmp .gt 29, 3) := bdX8_takes_153.2.2.2.2.2.2.1
theorem dX8_takes_167 : decode cX8_takes 167 = .ok (.iload 7, 2) := bdX8_takes_153.2.2.2.2.2.2.2
theorem bdX8_takes_169 : decode cX8_takes 169 = .ok (.aload_n 0, 1) ∧ decode cX8_takes 170 = .ok (.getfield 44, 3) ∧ decode cX8_takes 173 = .ok (.iconst 4, 1) ∧ decode cX8_takes 174 = .ok (.iaload, 1) ∧ decode cX8_takes 175 = .ok (.if_icmp .gt 18, 3) ∧ decode cX8_takes 178 = .ok (.iload 8, 2) ∧ decode cX8_takes 180 = .ok (.aload_n 0, 1) ∧ decode cX8_takes 181 = .ok (.getfield 44, 3) := by decide +kernel
theorem dX8_takes_169 : decode cX8_takes 169 = .ok (.aload_n 0, 1) := bdX8_takes_169.1
theorem dX8_takes_170 : decode cX8_takes 170 = .ok (.getfield 44, 3) := bdX8_takes_169.2.1
theorem dX8_takes_173 : decode cX8_takes 173 = .ok (.iconst 4, 1) := bdX8_takes_169.2.2.1
theorem dX8_takes_174 : decode cX8_takes 174 = .ok (.iaload, 1) := bdX8_takes_169.2.2.2.1
theorem dX8_takes_175 : decode cX8_takes 175 = .ok (.if_icmp .gt 18, 3) := bdX8_takes_169.2.2.2.2.1
theorem dX8_takes_178 : decode cX8_takes 178 = .ok (.iload 8, 2) := bdX8_takes_169.2.2.2.2.2.1
theorem dX8_takes_180 : decode cX8_takes 180 = .ok (.aload_n 0, 1) := bdX8_takes_169.2.2.2.2.2.2.1
theorem dX8_takes_181 : decode cX8_takes 181 = .ok (.getfield 44, 3) := bdX8_takes_169.2.2.2.2.2.2.2
theorem bdX8_takes_184 : decode cX8_takes 184 = .ok (.iconst 5, 1) ∧ decode cX8_takes 185 = .ok (.iaload, 1) ∧ decode cX8_takes 186 = .ok (.if_icmp .gt 7, 3) ∧ decode cX8_takes 189 = .ok (.iconst 1, 1) ∧ decode cX8_takes 190 = .ok (.goto 4, 3) ∧ decode cX8_takes 193 = .ok (.iconst 0, 1) ∧ decode cX8_takes 194 = .ok (.istore 9, 2) ∧ decode cX8_takes 196 = .ok (.iload 9, 2) := by decide +kernel
theorem dX8_takes_184 : decode cX8_takes 184 = .ok (.iconst 5, 1) := bdX8_takes_184.1
theorem dX8_takes_185 : decode cX8_takes 185 = .ok (.iaload, 1) := bdX8_takes_184.2.1
theorem dX8_takes_186 : decode cX8_takes 186 = .ok (.if_icmp .gt 7, 3) := bdX8_takes_184.2.2.1
theorem dX8_takes_189 : decode cX8_takes 189 = .ok (.iconst 1, 1) := bdX8_takes_184.2.2.2.1
theorem dX8_takes_190 : decode cX8_takes 190 = .ok (.goto 4, 3) := bdX8_takes_184.2.2.2.2.1
theorem dX8_takes_193 : decode cX8_takes 193 = .ok (.iconst 0, 1) := bdX8_takes_184.2.2.2.2.2.1
theorem dX8_takes_194 : decode cX8_takes 194 = .ok (.istore 9, 2) := bdX8_takes_184.2.2.2.2.2.2.1
theorem dX8_takes_196 : decode cX8_takes 196 = .ok (.iload 9, 2) := bdX8_takes_184.2.2.2.2.2.2.2
theorem bdX8_takes_198 : decode cX8_takes 198 = .ok (.ifCond .eq 13, 3) ∧ decode cX8_takes 201 = .ok (.iload_n 3, 1) ∧ decode cX8_takes 202 = .ok (.ldc 181, 2) ∧ decode cX8_takes 204 = .ok (.if_icmp .ge 7, 3) ∧ decode cX8_takes 207 = .ok (.iload_n 3, 1) ∧ decode cX8_takes 208 = .ok (.goto 5, 3) ∧ decode cX8_takes 211 = .ok (.ldc 181, 2) ∧ decode cX8_takes 213 = .ok (.ireturn, 1) := by decide +kernel
theorem dX8_takes_198 : decode cX8_takes 198 = .ok (.ifCond .eq 13, 3) := bdX8_takes_198.1
theorem dX8_takes_201 : decode cX8_takes 201 = .ok (.iload_n 3, 1) := bdX8_takes_198.2.1
theorem dX8_takes_202 : decode cX8_takes 202 = .ok (.ldc 181, 2) := bdX8_takes_198.2.2.1
theorem dX8_takes_204 : decode cX8_takes 204 = .ok (.if_icmp .ge 7, 3) := bdX8_takes_198.2.2.2.1
theorem dX8_takes_207 : decode cX8_takes 207 = .ok (.iload_n 3, 1) := bdX8_takes_198.2.2.2.2.1
theorem dX8_takes_208 : decode cX8_takes 208 = .ok (.goto 5, 3) := bdX8_takes_198.2.2.2.2.2.1
theorem dX8_takes_211 : decode cX8_takes 211 = .ok (.ldc 181, 2) := bdX8_takes_198.2.2.2.2.2.2.1
theorem dX8_takes_213 : decode cX8_takes 213 = .ok (.ireturn, 1) := bdX8_takes_198.2.2.2.2.2.2.2
set_option maxRecDepth 20000 in
set_option maxRecDepth 100000 in
theorem ggX8_allot_X8_in : GoodIn wsX8_allot wsX8_in := goodIn_hd (goodIn_c ch_X8_allot hc_X8_allot ([.code yX8_in cX8_in 3 (some .boolean)] : List Cond) [(1, 6)] rfl (by decide +kernel)) (goodIn_c ch_X8_allot hc_X8_allot ([] : List Cond) [] rfl (by decide +kernel))
set_option maxRecDepth 20000 in
theorem gX8_allot_X8_in : GoodIn wsX8_allot (va_wsS RX8 72 yX8_in wsX8_in) := goodIn_app (goodIn_of _ (by decide +kernel)) ggX8_allot_X8_in
set_option maxRecDepth 20000 in
set_option maxRecDepth 100000 in
theorem ggX8_allot_X8_isSaying : GoodIn wsX8_allot wsX8_isSaying := goodIn_hd (goodIn_c ch_X8_allot hc_X8_allot ([.code yX8_isSaying cX8_isSaying 2 (some .boolean)] : List Cond) [(1, 10)] rfl (by decide +kernel)) (goodIn_app (goodIn_c ch_X8_allot hc_X8_allot ([.fieldLink RX8 23 "WordFletchersModel" "sayings" "[I", .methodLink RX8 72 yX8_in, .static yX8_in, .initialized RX8, .code yX8_in cX8_in 3 (some .boolean)] : List Cond) [(1, 0), (1, 3), (1, 4), (1, 5), (1, 6)] rfl (by decide +kernel)) (goodIn_sub (fun _ h => (List.mem_cons_of_mem _ (List.mem_append_right _ h))) gwX8))
set_option maxRecDepth 20000 in
theorem gX8_allot_X8_isSaying : GoodIn wsX8_allot (wsV RX8 148 RX8 yX8_isSaying wsX8_isSaying) := goodIn_app (goodIn_of _ (by decide +kernel)) ggX8_allot_X8_isSaying
set_option maxRecDepth 20000 in
set_option maxRecDepth 100000 in
theorem ggX8_allot_X8_has : GoodIn wsX8_allot wsX8_has := goodIn_hd (goodIn_c ch_X8_allot hc_X8_allot ([.code yX8_has cX8_has 2 (some .boolean)] : List Cond) [(1, 13)] rfl (by decide +kernel)) (goodIn_c ch_X8_allot hc_X8_allot ([] : List Cond) [] rfl (by decide +kernel))
set_option maxRecDepth 20000 in
theorem gX8_allot_X8_has : GoodIn wsX8_allot (va_wsS RX8 145 yX8_has wsX8_has) := goodIn_app (goodIn_of _ (by decide +kernel)) ggX8_allot_X8_has
set_option maxRecDepth 20000 in
set_option maxRecDepth 100000 in
theorem ggX8_allot_X8_tellDue : GoodIn wsX8_allot wsX8_tellDue := goodIn_hd (goodIn_c ch_X8_allot hc_X8_allot ([.code yX8_tellDue cX8_tellDue 5 none] : List Cond) [(1, 17)] rfl (by decide +kernel)) (goodIn_app (goodIn_app (goodIn_c ch_X8_allot hc_X8_allot wsX8_tellDue_r1 [(1, 0), (1, 2), (1, 1), (1, 18), (1, 19), (1, 20), (1, 21), (1, 5), (1, 22), (1, 23), (2, 0), (2, 1), (2, 2), (2, 3), (2, 4), (2, 5), (2, 6), (2, 7), (2, 8), (2, 9), (2, 10), (2, 11), (1, 3), (1, 4)] rfl (by decide +kernel)) (goodIn_c ch_X8_allot hc_X8_allot wsX8_tellDue_r2 [(1, 6), (2, 12), (2, 13), (2, 14), (2, 15), (2, 16), (2, 17), (2, 18), (2, 19), (2, 20), (2, 21)] rfl (by decide +kernel))) (goodIn_sub (fun _ h => (List.mem_cons_of_mem _ (List.mem_append_right _ h))) gwX8))
set_option maxRecDepth 20000 in
theorem gX8_allot_X8_tellDue : GoodIn wsX8_allot (wsV RX8 189 RX8 yX8_tellDue wsX8_tellDue) := goodIn_app (goodIn_of _ (by decide +kernel)) ggX8_allot_X8_tellDue
set_option maxRecDepth 20000 in
set_option maxRecDepth 100000 in
theorem ggX8_allot_X8_bitsOf : GoodIn wsX8_allot wsX8_bitsOf := goodIn_hd (goodIn_c ch_X8_allot hc_X8_allot ([.code yX8_bitsOf cX8_bitsOf 3 (some .int)] : List Cond) [(3, 0)] rfl (by decide +kernel)) (goodIn_c ch_X8_allot hc_X8_allot ([] : List Cond) [] rfl (by decide +kernel))
set_option maxRecDepth 20000 in
theorem gX8_allot_X8_bitsOf : GoodIn wsX8_allot (va_wsS RX8 192 yX8_bitsOf wsX8_bitsOf) := goodIn_app (goodIn_of _ (by decide +kernel)) ggX8_allot_X8_bitsOf
set_option maxRecDepth 20000 in
set_option maxRecDepth 100000 in
theorem ggX8_allot_X8_takes : GoodIn wsX8_allot wsX8_takes := goodIn_hd (goodIn_c ch_X8_allot hc_X8_allot ([.code yX8_takes cX8_takes 12 (some .int)] : List Cond) [(3, 4)] rfl (by decide +kernel)) (goodIn_app (goodIn_c ch_X8_allot hc_X8_allot ([.fieldLink RX8 23 "WordFletchersModel" "sayings" "[I", .fieldLink RX8 63 "WordFletchersModel" "least" "[I", .fieldLink RX8 44 "WordFletchersModel" "now" "[I", .constant RX8 181 (1000000), .methodLink RX8 145 yX8_has, .static yX8_has, .initialized RX8, .code yX8_has cX8_has 2 (some .boolean)] : List Cond) [(1, 0), (1, 2), (2, 0), (1, 1), (1, 11), (1, 12), (1, 5), (1, 13)] rfl (by decide +kernel)) (goodIn_sub (fun _ h => (List.mem_cons_of_mem _ (List.mem_append_right _ h))) gwX8))
set_option maxRecDepth 20000 in
theorem gX8_allot_X8_takes : GoodIn wsX8_allot (wsV RX8 195 RX8 yX8_takes wsX8_takes) := goodIn_app (goodIn_of _ (by decide +kernel)) ggX8_allot_X8_takes
theorem bdX8_allot_0 : decode cX8_allot 0 = .ok (.iload_n 1, 1) ∧ decode cX8_allot 1 = .ok (.iconst 1, 1) ∧ decode cX8_allot 2 = .ok (.iconst 1, 1) ∧ decode cX8_allot 3 = .ok (.aload_n 0, 1) ∧ decode cX8_allot 4 = .ok (.getfield 23, 3) ∧ decode cX8_allot 7 = .ok (.iconst 0, 1) ∧ decode cX8_allot 8 = .ok (.iaload, 1) ∧ decode cX8_allot 9 = .ok (.ishl, 1) := by decide +kernel
theorem dX8_allot_0 : decode cX8_allot 0 = .ok (.iload_n 1, 1) := bdX8_allot_0.1
theorem dX8_allot_1 : decode cX8_allot 1 = .ok (.iconst 1, 1) := bdX8_allot_0.2.1
theorem dX8_allot_2 : decode cX8_allot 2 = .ok (.iconst 1, 1) := bdX8_allot_0.2.2.1
theorem dX8_allot_3 : decode cX8_allot 3 = .ok (.aload_n 0, 1) := bdX8_allot_0.2.2.2.1
theorem dX8_allot_4 : decode cX8_allot 4 = .ok (.getfield 23, 3) := bdX8_allot_0.2.2.2.2.1
theorem dX8_allot_7 : decode cX8_allot 7 = .ok (.iconst 0, 1) := bdX8_allot_0.2.2.2.2.2.1
theorem dX8_allot_8 : decode cX8_allot 8 = .ok (.iaload, 1) := bdX8_allot_0.2.2.2.2.2.2.1
theorem dX8_allot_9 : decode cX8_allot 9 = .ok (.ishl, 1) := bdX8_allot_0.2.2.2.2.2.2.2
theorem bdX8_allot_10 : decode cX8_allot 10 = .ok (.iconst 1, 1) ∧ decode cX8_allot 11 = .ok (.isub, 1) ∧ decode cX8_allot 12 = .ok (.invokestatic 72, 3) ∧ decode cX8_allot 15 = .ok (.ifCond .eq 24, 3) ∧ decode cX8_allot 18 = .ok (.iload_n 2, 1) ∧ decode cX8_allot 19 = .ok (.iconst (-1), 1) ∧ decode cX8_allot 20 = .ok (.if_icmp .eq 21, 3) ∧ decode cX8_allot 23 = .ok (.aload_n 0, 1) := by decide +kernel
theorem dX8_allot_10 : decode cX8_allot 10 = .ok (.iconst 1, 1) := bdX8_allot_10.1
theorem dX8_allot_11 : decode cX8_allot 11 = .ok (.isub, 1) := bdX8_allot_10.2.1
theorem dX8_allot_12 : decode cX8_allot 12 = .ok (.invokestatic 72, 3) := bdX8_allot_10.2.2.1
theorem dX8_allot_15 : decode cX8_allot 15 = .ok (.ifCond .eq 24, 3) := bdX8_allot_10.2.2.2.1
theorem dX8_allot_18 : decode cX8_allot 18 = .ok (.iload_n 2, 1) := bdX8_allot_10.2.2.2.2.1
theorem dX8_allot_19 : decode cX8_allot 19 = .ok (.iconst (-1), 1) := bdX8_allot_10.2.2.2.2.2.1
theorem dX8_allot_20 : decode cX8_allot 20 = .ok (.if_icmp .eq 21, 3) := bdX8_allot_10.2.2.2.2.2.2.1
theorem dX8_allot_23 : decode cX8_allot 23 = .ok (.aload_n 0, 1) := bdX8_allot_10.2.2.2.2.2.2.2
theorem bdX8_allot_24 : decode cX8_allot 24 = .ok (.iload_n 2, 1) ∧ decode cX8_allot 25 = .ok (.invokevirtual 148, 3) ∧ decode cX8_allot 28 = .ok (.ifCond .eq 11, 3) ∧ decode cX8_allot 31 = .ok (.iload_n 1, 1) ∧ decode cX8_allot 32 = .ok (.iload_n 2, 1) ∧ decode cX8_allot 33 = .ok (.invokestatic 145, 3) ∧ decode cX8_allot 36 = .ok (.ifCond .ne 5, 3) ∧ decode cX8_allot 39 = .ok (.iconst (-1), 1) := by decide +kernel
theorem dX8_allot_24 : decode cX8_allot 24 = .ok (.iload_n 2, 1) := bdX8_allot_24.1
theorem dX8_allot_25 : decode cX8_allot 25 = .ok (.invokevirtual 148, 3) := bdX8_allot_24.2.1
theorem dX8_allot_28 : decode cX8_allot 28 = .ok (.ifCond .eq 11, 3) := bdX8_allot_24.2.2.1
theorem dX8_allot_31 : decode cX8_allot 31 = .ok (.iload_n 1, 1) := bdX8_allot_24.2.2.2.1
theorem dX8_allot_32 : decode cX8_allot 32 = .ok (.iload_n 2, 1) := bdX8_allot_24.2.2.2.2.1
theorem dX8_allot_33 : decode cX8_allot 33 = .ok (.invokestatic 145, 3) := bdX8_allot_24.2.2.2.2.2.1
theorem dX8_allot_36 : decode cX8_allot 36 = .ok (.ifCond .ne 5, 3) := bdX8_allot_24.2.2.2.2.2.2.1
theorem dX8_allot_39 : decode cX8_allot 39 = .ok (.iconst (-1), 1) := bdX8_allot_24.2.2.2.2.2.2.2
theorem bdX8_allot_40 : decode cX8_allot 40 = .ok (.ireturn, 1) ∧ decode cX8_allot 41 = .ok (.aload_n 0, 1) ∧ decode cX8_allot 42 = .ok (.invokevirtual 189, 3) ∧ decode cX8_allot 45 = .ok (.iconst 1, 1) ∧ decode cX8_allot 46 = .ok (.istore_n 3, 1) ∧ decode cX8_allot 47 = .ok (.iconst 0, 1) ∧ decode cX8_allot 48 = .ok (.istore 4, 2) ∧ decode cX8_allot 50 = .ok (.iload 4, 2) := by decide +kernel
theorem dX8_allot_40 : decode cX8_allot 40 = .ok (.ireturn, 1) := bdX8_allot_40.1
theorem dX8_allot_41 : decode cX8_allot 41 = .ok (.aload_n 0, 1) := bdX8_allot_40.2.1
theorem dX8_allot_42 : decode cX8_allot 42 = .ok (.invokevirtual 189, 3) := bdX8_allot_40.2.2.1
theorem dX8_allot_45 : decode cX8_allot 45 = .ok (.iconst 1, 1) := bdX8_allot_40.2.2.2.1
theorem dX8_allot_46 : decode cX8_allot 46 = .ok (.istore_n 3, 1) := bdX8_allot_40.2.2.2.2.1
theorem dX8_allot_47 : decode cX8_allot 47 = .ok (.iconst 0, 1) := bdX8_allot_40.2.2.2.2.2.1
theorem dX8_allot_48 : decode cX8_allot 48 = .ok (.istore 4, 2) := bdX8_allot_40.2.2.2.2.2.2.1
theorem dX8_allot_50 : decode cX8_allot 50 = .ok (.iload 4, 2) := bdX8_allot_40.2.2.2.2.2.2.2
theorem bdX8_allot_52 : decode cX8_allot 52 = .ok (.iload_n 1, 1) ∧ decode cX8_allot 53 = .ok (.invokestatic 192, 3) ∧ decode cX8_allot 56 = .ok (.if_icmp .ge 13, 3) ∧ decode cX8_allot 59 = .ok (.iload_n 3, 1) ∧ decode cX8_allot 60 = .ok (.iconst 4, 1) ∧ decode cX8_allot 61 = .ok (.imul, 1) ∧ decode cX8_allot 62 = .ok (.istore_n 3, 1) ∧ decode cX8_allot 63 = .ok (.iinc 4 1, 3) := by decide +kernel
theorem dX8_allot_52 : decode cX8_allot 52 = .ok (.iload_n 1, 1) := bdX8_allot_52.1
theorem dX8_allot_53 : decode cX8_allot 53 = .ok (.invokestatic 192, 3) := bdX8_allot_52.2.1
theorem dX8_allot_56 : decode cX8_allot 56 = .ok (.if_icmp .ge 13, 3) := bdX8_allot_52.2.2.1
theorem dX8_allot_59 : decode cX8_allot 59 = .ok (.iload_n 3, 1) := bdX8_allot_52.2.2.2.1
theorem dX8_allot_60 : decode cX8_allot 60 = .ok (.iconst 4, 1) := bdX8_allot_52.2.2.2.2.1
theorem dX8_allot_61 : decode cX8_allot 61 = .ok (.imul, 1) := bdX8_allot_52.2.2.2.2.2.1
theorem dX8_allot_62 : decode cX8_allot 62 = .ok (.istore_n 3, 1) := bdX8_allot_52.2.2.2.2.2.2.1
theorem dX8_allot_63 : decode cX8_allot 63 = .ok (.iinc 4 1, 3) := bdX8_allot_52.2.2.2.2.2.2.2
theorem bdX8_allot_66 : decode cX8_allot 66 = .ok (.goto (-16), 3) ∧ decode cX8_allot 69 = .ok (.iconst 0, 1) ∧ decode cX8_allot 70 = .ok (.istore 4, 2) ∧ decode cX8_allot 72 = .ok (.ldc 181, 2) ∧ decode cX8_allot 74 = .ok (.istore 5, 2) ∧ decode cX8_allot 76 = .ok (.iconst 0, 1) ∧ decode cX8_allot 77 = .ok (.istore 6, 2) ∧ decode cX8_allot 79 = .ok (.iload 6, 2) := by decide +kernel
theorem dX8_allot_66 : decode cX8_allot 66 = .ok (.goto (-16), 3) := bdX8_allot_66.1
theorem dX8_allot_69 : decode cX8_allot 69 = .ok (.iconst 0, 1) := bdX8_allot_66.2.1
theorem dX8_allot_70 : decode cX8_allot 70 = .ok (.istore 4, 2) := bdX8_allot_66.2.2.1
theorem dX8_allot_72 : decode cX8_allot 72 = .ok (.ldc 181, 2) := bdX8_allot_66.2.2.2.1
theorem dX8_allot_74 : decode cX8_allot 74 = .ok (.istore 5, 2) := bdX8_allot_66.2.2.2.2.1
theorem dX8_allot_76 : decode cX8_allot 76 = .ok (.iconst 0, 1) := bdX8_allot_66.2.2.2.2.2.1
theorem dX8_allot_77 : decode cX8_allot 77 = .ok (.istore 6, 2) := bdX8_allot_66.2.2.2.2.2.2.1
theorem dX8_allot_79 : decode cX8_allot 79 = .ok (.iload 6, 2) := bdX8_allot_66.2.2.2.2.2.2.2
theorem bdX8_allot_81 : decode cX8_allot 81 = .ok (.iload_n 3, 1) ∧ decode cX8_allot 82 = .ok (.if_icmp .ge 33, 3) ∧ decode cX8_allot 85 = .ok (.aload_n 0, 1) ∧ decode cX8_allot 86 = .ok (.iload_n 1, 1) ∧ decode cX8_allot 87 = .ok (.iload 6, 2) ∧ decode cX8_allot 89 = .ok (.invokevirtual 195, 3) ∧ decode cX8_allot 92 = .ok (.istore 7, 2) ∧ decode cX8_allot 94 = .ok (.iload 7, 2) := by decide +kernel
theorem dX8_allot_81 : decode cX8_allot 81 = .ok (.iload_n 3, 1) := bdX8_allot_81.1
theorem dX8_allot_82 : decode cX8_allot 82 = .ok (.if_icmp .ge 33, 3) := bdX8_allot_81.2.1
theorem dX8_allot_85 : decode cX8_allot 85 = .ok (.aload_n 0, 1) := bdX8_allot_81.2.2.1
theorem dX8_allot_86 : decode cX8_allot 86 = .ok (.iload_n 1, 1) := bdX8_allot_81.2.2.2.1
theorem dX8_allot_87 : decode cX8_allot 87 = .ok (.iload 6, 2) := bdX8_allot_81.2.2.2.2.1
theorem dX8_allot_89 : decode cX8_allot 89 = .ok (.invokevirtual 195, 3) := bdX8_allot_81.2.2.2.2.2.1
theorem dX8_allot_92 : decode cX8_allot 92 = .ok (.istore 7, 2) := bdX8_allot_81.2.2.2.2.2.2.1
theorem dX8_allot_94 : decode cX8_allot 94 = .ok (.iload 7, 2) := bdX8_allot_81.2.2.2.2.2.2.2
theorem bdX8_allot_96 : decode cX8_allot 96 = .ok (.iload 5, 2) ∧ decode cX8_allot 98 = .ok (.if_icmp .ge 11, 3) ∧ decode cX8_allot 101 = .ok (.iload 6, 2) ∧ decode cX8_allot 103 = .ok (.istore 4, 2) ∧ decode cX8_allot 105 = .ok (.iload 7, 2) ∧ decode cX8_allot 107 = .ok (.istore 5, 2) ∧ decode cX8_allot 109 = .ok (.iinc 6 1, 3) ∧ decode cX8_allot 112 = .ok (.goto (-33), 3) := by decide +kernel
theorem dX8_allot_96 : decode cX8_allot 96 = .ok (.iload 5, 2) := bdX8_allot_96.1
theorem dX8_allot_98 : decode cX8_allot 98 = .ok (.if_icmp .ge 11, 3) := bdX8_allot_96.2.1
theorem dX8_allot_101 : decode cX8_allot 101 = .ok (.iload 6, 2) := bdX8_allot_96.2.2.1
theorem dX8_allot_103 : decode cX8_allot 103 = .ok (.istore 4, 2) := bdX8_allot_96.2.2.2.1
theorem dX8_allot_105 : decode cX8_allot 105 = .ok (.iload 7, 2) := bdX8_allot_96.2.2.2.2.1
theorem dX8_allot_107 : decode cX8_allot 107 = .ok (.istore 5, 2) := bdX8_allot_96.2.2.2.2.2.1
theorem dX8_allot_109 : decode cX8_allot 109 = .ok (.iinc 6 1, 3) := bdX8_allot_96.2.2.2.2.2.2.1
theorem dX8_allot_112 : decode cX8_allot 112 = .ok (.goto (-33), 3) := bdX8_allot_96.2.2.2.2.2.2.2
theorem bdX8_allot_115 : decode cX8_allot 115 = .ok (.iload 5, 2) ∧ decode cX8_allot 117 = .ok (.ldc 181, 2) ∧ decode cX8_allot 119 = .ok (.if_icmp .lt 6, 3) ∧ decode cX8_allot 122 = .ok (.bipush (-9), 2) ∧ decode cX8_allot 124 = .ok (.ireturn, 1) ∧ decode cX8_allot 125 = .ok (.iload_n 2, 1) ∧ decode cX8_allot 126 = .ok (.iconst (-1), 1) ∧ decode cX8_allot 127 = .ok (.if_icmp .ne 6, 3) := by decide +kernel
theorem dX8_allot_115 : decode cX8_allot 115 = .ok (.iload 5, 2) := bdX8_allot_115.1
theorem dX8_allot_117 : decode cX8_allot 117 = .ok (.ldc 181, 2) := bdX8_allot_115.2.1
theorem dX8_allot_119 : decode cX8_allot 119 = .ok (.if_icmp .lt 6, 3) := bdX8_allot_115.2.2.1
theorem dX8_allot_122 : decode cX8_allot 122 = .ok (.bipush (-9), 2) := bdX8_allot_115.2.2.2.1
theorem dX8_allot_124 : decode cX8_allot 124 = .ok (.ireturn, 1) := bdX8_allot_115.2.2.2.2.1
theorem dX8_allot_125 : decode cX8_allot 125 = .ok (.iload_n 2, 1) := bdX8_allot_115.2.2.2.2.2.1
theorem dX8_allot_126 : decode cX8_allot 126 = .ok (.iconst (-1), 1) := bdX8_allot_115.2.2.2.2.2.2.1
theorem dX8_allot_127 : decode cX8_allot 127 = .ok (.if_icmp .ne 6, 3) := bdX8_allot_115.2.2.2.2.2.2.2
theorem bdX8_allot_130 : decode cX8_allot 130 = .ok (.iload 5, 2) ∧ decode cX8_allot 132 = .ok (.ireturn, 1) ∧ decode cX8_allot 133 = .ok (.aload_n 0, 1) ∧ decode cX8_allot 134 = .ok (.getfield 23, 3) ∧ decode cX8_allot 137 = .ok (.iconst 0, 1) ∧ decode cX8_allot 138 = .ok (.iaload, 1) ∧ decode cX8_allot 139 = .ok (.iconst 1, 1) ∧ decode cX8_allot 140 = .ok (.isub, 1) := by decide +kernel
theorem dX8_allot_130 : decode cX8_allot 130 = .ok (.iload 5, 2) := bdX8_allot_130.1
theorem dX8_allot_132 : decode cX8_allot 132 = .ok (.ireturn, 1) := bdX8_allot_130.2.1
theorem dX8_allot_133 : decode cX8_allot 133 = .ok (.aload_n 0, 1) := bdX8_allot_130.2.2.1
theorem dX8_allot_134 : decode cX8_allot 134 = .ok (.getfield 23, 3) := bdX8_allot_130.2.2.2.1
theorem dX8_allot_137 : decode cX8_allot 137 = .ok (.iconst 0, 1) := bdX8_allot_130.2.2.2.2.1
theorem dX8_allot_138 : decode cX8_allot 138 = .ok (.iaload, 1) := bdX8_allot_130.2.2.2.2.2.1
theorem dX8_allot_139 : decode cX8_allot 139 = .ok (.iconst 1, 1) := bdX8_allot_130.2.2.2.2.2.2.1
theorem dX8_allot_140 : decode cX8_allot 140 = .ok (.isub, 1) := bdX8_allot_130.2.2.2.2.2.2.2
theorem bdX8_allot_141 : decode cX8_allot 141 = .ok (.istore 6, 2) ∧ decode cX8_allot 143 = .ok (.iload 6, 2) ∧ decode cX8_allot 145 = .ok (.iload_n 2, 1) ∧ decode cX8_allot 146 = .ok (.if_icmp .le 28, 3) ∧ decode cX8_allot 149 = .ok (.iload 4, 2) ∧ decode cX8_allot 151 = .ok (.iload_n 1, 1) ∧ decode cX8_allot 152 = .ok (.iload 6, 2) ∧ decode cX8_allot 154 = .ok (.invokestatic 145, 3) := by decide +kernel
theorem dX8_allot_141 : decode cX8_allot 141 = .ok (.istore 6, 2) := bdX8_allot_141.1
theorem dX8_allot_143 : decode cX8_allot 143 = .ok (.iload 6, 2) := bdX8_allot_141.2.1
theorem dX8_allot_145 : decode cX8_allot 145 = .ok (.iload_n 2, 1) := bdX8_allot_141.2.2.1
theorem dX8_allot_146 : decode cX8_allot 146 = .ok (.if_icmp .le 28, 3) := bdX8_allot_141.2.2.2.1
theorem dX8_allot_149 : decode cX8_allot 149 = .ok (.iload 4, 2) := bdX8_allot_141.2.2.2.2.1
theorem dX8_allot_151 : decode cX8_allot 151 = .ok (.iload_n 1, 1) := bdX8_allot_141.2.2.2.2.2.1
theorem dX8_allot_152 : decode cX8_allot 152 = .ok (.iload 6, 2) := bdX8_allot_141.2.2.2.2.2.2.1
theorem dX8_allot_154 : decode cX8_allot 154 = .ok (.invokestatic 145, 3) := bdX8_allot_141.2.2.2.2.2.2.2
theorem bdX8_allot_157 : decode cX8_allot 157 = .ok (.ifCond .eq 7, 3) ∧ decode cX8_allot 160 = .ok (.iconst 4, 1) ∧ decode cX8_allot 161 = .ok (.goto 4, 3) ∧ decode cX8_allot 164 = .ok (.iconst 1, 1) ∧ decode cX8_allot 165 = .ok (.idiv, 1) ∧ decode cX8_allot 166 = .ok (.istore 4, 2) ∧ decode cX8_allot 168 = .ok (.iinc 6 (-1), 3) ∧ decode cX8_allot 171 = .ok (.goto (-28), 3) := by decide +kernel
theorem dX8_allot_157 : decode cX8_allot 157 = .ok (.ifCond .eq 7, 3) := bdX8_allot_157.1
theorem dX8_allot_160 : decode cX8_allot 160 = .ok (.iconst 4, 1) := bdX8_allot_157.2.1
theorem dX8_allot_161 : decode cX8_allot 161 = .ok (.goto 4, 3) := bdX8_allot_157.2.2.1
theorem dX8_allot_164 : decode cX8_allot 164 = .ok (.iconst 1, 1) := bdX8_allot_157.2.2.2.1
theorem dX8_allot_165 : decode cX8_allot 165 = .ok (.idiv, 1) := bdX8_allot_157.2.2.2.2.1
theorem dX8_allot_166 : decode cX8_allot 166 = .ok (.istore 4, 2) := bdX8_allot_157.2.2.2.2.2.1
theorem dX8_allot_168 : decode cX8_allot 168 = .ok (.iinc 6 (-1), 3) := bdX8_allot_157.2.2.2.2.2.2.1
theorem dX8_allot_171 : decode cX8_allot 171 = .ok (.goto (-28), 3) := bdX8_allot_157.2.2.2.2.2.2.2
theorem bdX8_allot_174 : decode cX8_allot 174 = .ok (.bipush 10, 2) ∧ decode cX8_allot 176 = .ok (.iload 4, 2) ∧ decode cX8_allot 178 = .ok (.iconst 4, 1) ∧ decode cX8_allot 179 = .ok (.irem, 1) ∧ decode cX8_allot 180 = .ok (.imul, 1) ∧ decode cX8_allot 181 = .ok (.aload_n 0, 1) ∧ decode cX8_allot 182 = .ok (.getfield 63, 3) ∧ decode cX8_allot 185 = .ok (.iconst 4, 1) := by decide +kernel
theorem dX8_allot_174 : decode cX8_allot 174 = .ok (.bipush 10, 2) := bdX8_allot_174.1
theorem dX8_allot_176 : decode cX8_allot 176 = .ok (.iload 4, 2) := bdX8_allot_174.2.1
theorem dX8_allot_178 : decode cX8_allot 178 = .ok (.iconst 4, 1) := bdX8_allot_174.2.2.1
theorem dX8_allot_179 : decode cX8_allot 179 = .ok (.irem, 1) := bdX8_allot_174.2.2.2.1
theorem dX8_allot_180 : decode cX8_allot 180 = .ok (.imul, 1) := bdX8_allot_174.2.2.2.2.1
theorem dX8_allot_181 : decode cX8_allot 181 = .ok (.aload_n 0, 1) := bdX8_allot_174.2.2.2.2.2.1
theorem dX8_allot_182 : decode cX8_allot 182 = .ok (.getfield 63, 3) := bdX8_allot_174.2.2.2.2.2.2.1
theorem dX8_allot_185 : decode cX8_allot 185 = .ok (.iconst 4, 1) := bdX8_allot_174.2.2.2.2.2.2.2
theorem bdX8_allot_186 : decode cX8_allot 186 = .ok (.iload_n 2, 1) ∧ decode cX8_allot 187 = .ok (.imul, 1) ∧ decode cX8_allot 188 = .ok (.iload 4, 2) ∧ decode cX8_allot 190 = .ok (.iconst 4, 1) ∧ decode cX8_allot 191 = .ok (.irem, 1) ∧ decode cX8_allot 192 = .ok (.iadd, 1) ∧ decode cX8_allot 193 = .ok (.iaload, 1) ∧ decode cX8_allot 194 = .ok (.iadd, 1) := by decide +kernel
theorem dX8_allot_186 : decode cX8_allot 186 = .ok (.iload_n 2, 1) := bdX8_allot_186.1
theorem dX8_allot_187 : decode cX8_allot 187 = .ok (.imul, 1) := bdX8_allot_186.2.1
theorem dX8_allot_188 : decode cX8_allot 188 = .ok (.iload 4, 2) := bdX8_allot_186.2.2.1
theorem dX8_allot_190 : decode cX8_allot 190 = .ok (.iconst 4, 1) := bdX8_allot_186.2.2.2.1
theorem dX8_allot_191 : decode cX8_allot 191 = .ok (.irem, 1) := bdX8_allot_186.2.2.2.2.1
theorem dX8_allot_192 : decode cX8_allot 192 = .ok (.iadd, 1) := bdX8_allot_186.2.2.2.2.2.1
theorem dX8_allot_193 : decode cX8_allot 193 = .ok (.iaload, 1) := bdX8_allot_186.2.2.2.2.2.2.1
theorem dX8_allot_194 : decode cX8_allot 194 = .ok (.iadd, 1) := bdX8_allot_186.2.2.2.2.2.2.2
theorem dX8_allot_195 : decode cX8_allot 195 = .ok (.ireturn, 1) := by decide +kernel
set_option maxRecDepth 20000 in
set_option maxRecDepth 100000 in
theorem ggX8_odds_X8_areUnlike : GoodIn wsX8_odds wsX8_areUnlike := goodIn_hd (goodIn_c ch_X8_odds hc_X8_odds ([.code yX8_areUnlike cX8_areUnlike 3 (some .boolean)] : List Cond) [(1, 6)] rfl (by decide +kernel)) (goodIn_app (goodIn_c ch_X8_odds hc_X8_odds ([.methodLink RX8 142 yX8_isOne, .instanceMethod yX8_isOne, .selects RX8 yX8_isOne yX8_isOne, .initialized RX8, .code yX8_isOne cX8_isOne 2 (some .boolean), .fieldLink RX8 13 "WordFletchersModel" "people" "[I", .methodLink RX8 72 yX8_in, .static yX8_in, .code yX8_in cX8_in 3 (some .boolean)] : List Cond) [(1, 7), (1, 8), (1, 9), (1, 5), (1, 10), (1, 11), (1, 12), (1, 13), (1, 14)] rfl (by decide +kernel)) (goodIn_sub (fun _ h => (List.mem_cons_of_mem _ (List.mem_append_right _ h))) gwX8))
set_option maxRecDepth 20000 in
theorem gX8_odds_X8_areUnlike : GoodIn wsX8_odds (wsV RX8 171 RX8 yX8_areUnlike wsX8_areUnlike) := goodIn_app (goodIn_of _ (by decide +kernel)) ggX8_odds_X8_areUnlike
set_option maxRecDepth 20000 in
set_option maxRecDepth 100000 in
theorem ggX8_odds_X8_isSaying : GoodIn wsX8_odds wsX8_isSaying := goodIn_hd (goodIn_c ch_X8_odds hc_X8_odds ([.code yX8_isSaying cX8_isSaying 2 (some .boolean)] : List Cond) [(1, 18)] rfl (by decide +kernel)) (goodIn_app (goodIn_c ch_X8_odds hc_X8_odds ([.fieldLink RX8 23 "WordFletchersModel" "sayings" "[I", .methodLink RX8 72 yX8_in, .static yX8_in, .initialized RX8, .code yX8_in cX8_in 3 (some .boolean)] : List Cond) [(1, 19), (1, 12), (1, 13), (1, 5), (1, 14)] rfl (by decide +kernel)) (goodIn_sub (fun _ h => (List.mem_cons_of_mem _ (List.mem_append_right _ h))) gwX8))
set_option maxRecDepth 20000 in
theorem gX8_odds_X8_isSaying : GoodIn wsX8_odds (wsV RX8 148 RX8 yX8_isSaying wsX8_isSaying) := goodIn_app (goodIn_of _ (by decide +kernel)) ggX8_odds_X8_isSaying
set_option maxRecDepth 20000 in
set_option maxRecDepth 100000 in
theorem ggX8_odds_X8_isShotBy : GoodIn wsX8_odds wsX8_isShotBy := goodIn_hd (goodIn_c ch_X8_odds hc_X8_odds ([.code yX8_isShotBy cX8_isShotBy 1 (some .boolean)] : List Cond) [(1, 22)] rfl (by decide +kernel)) (goodIn_c ch_X8_odds hc_X8_odds ([.methodLink RX8 155 yX8_isShot, .static yX8_isShot, .initialized RX8, .code yX8_isShot cX8_isShot 3 (some .boolean), .methodLink RX8 72 yX8_in, .static yX8_in, .code yX8_in cX8_in 3 (some .boolean)] : List Cond) [(1, 23), (2, 0), (1, 5), (2, 1), (1, 12), (1, 13), (1, 14)] rfl (by decide +kernel))
set_option maxRecDepth 20000 in
theorem gX8_odds_X8_isShotBy : GoodIn wsX8_odds (va_wsS RX8 178 yX8_isShotBy wsX8_isShotBy) := goodIn_app (goodIn_of _ (by decide +kernel)) ggX8_odds_X8_isShotBy
set_option maxRecDepth 20000 in
set_option maxRecDepth 100000 in
theorem ggX8_odds_X8_in : GoodIn wsX8_odds wsX8_in := goodIn_hd (goodIn_c ch_X8_odds hc_X8_odds ([.code yX8_in cX8_in 3 (some .boolean)] : List Cond) [(1, 14)] rfl (by decide +kernel)) (goodIn_c ch_X8_odds hc_X8_odds ([] : List Cond) [] rfl (by decide +kernel))
set_option maxRecDepth 20000 in
theorem gX8_odds_X8_in : GoodIn wsX8_odds (va_wsS RX8 72 yX8_in wsX8_in) := goodIn_app (goodIn_of _ (by decide +kernel)) ggX8_odds_X8_in
set_option maxRecDepth 20000 in
set_option maxRecDepth 100000 in
theorem ggX8_odds_X8_isHeard : GoodIn wsX8_odds wsX8_isHeard := goodIn_hd (goodIn_c ch_X8_odds hc_X8_odds ([.code yX8_isHeard cX8_isHeard 6 (some .boolean)] : List Cond) [(2, 5)] rfl (by decide +kernel)) (goodIn_app (goodIn_c ch_X8_odds hc_X8_odds ([.methodLink RX8 161 yX8_landsBy, .instanceMethod yX8_landsBy, .selects RX8 yX8_landsBy yX8_landsBy, .initialized RX8, .code yX8_landsBy cX8_landsBy 11 (some .int), .fieldLink RX8 29 "WordFletchersModel" "twist" "[I", .fieldLink RX8 26 "WordFletchersModel" "weight" "[I", .fieldLink RX8 44 "WordFletchersModel" "now" "[I", .fieldLink RX8 17 "WordFletchersModel" "place" "[I", .methodLink RX8 134 yX8_liftOf, .static yX8_liftOf, .code yX8_liftOf cX8_liftOf 1 (some .int), .methodLink RX8 72 yX8_in, .static yX8_in, .code yX8_in cX8_in 3 (some .boolean), .methodLink RX8 138 yX8_doesHear, .instanceMethod yX8_doesHear, .selects RX8 yX8_doesHear yX8_doesHear, .code yX8_doesHear cX8_doesHear 4 (some .boolean), .fieldLink RX8 20 "WordFletchersModel" "ear" "[I"] : List Cond) [(2, 6), (2, 7), (2, 8), (1, 5), (2, 9), (2, 10), (2, 11), (2, 12), (2, 13), (2, 14), (2, 15), (2, 16), (1, 12), (1, 13), (1, 14), (2, 17), (2, 18), (2, 19), (2, 20), (2, 21)] rfl (by decide +kernel)) (goodIn_sub (fun _ h => (List.mem_cons_of_mem _ (List.mem_append_right _ h))) gwX8))
set_option maxRecDepth 20000 in
theorem gX8_odds_X8_isHeard : GoodIn wsX8_odds (wsV RX8 174 RX8 yX8_isHeard wsX8_isHeard) := goodIn_app (goodIn_of _ (by decide +kernel)) ggX8_odds_X8_isHeard
theorem bdX8_odds_0 : decode cX8_odds 0 = .ok (.aload_n 0, 1) ∧ decode cX8_odds 1 = .ok (.iload_n 1, 1) ∧ decode cX8_odds 2 = .ok (.iload_n 2, 1) ∧ decode cX8_odds 3 = .ok (.invokevirtual 171, 3) ∧ decode cX8_odds 6 = .ok (.ifCond .eq 29, 3) ∧ decode cX8_odds 9 = .ok (.aload_n 0, 1) ∧ decode cX8_odds 10 = .ok (.iload_n 3, 1) ∧ decode cX8_odds 11 = .ok (.invokevirtual 148, 3) := by decide +kernel
theorem dX8_odds_0 : decode cX8_odds 0 = .ok (.aload_n 0, 1) := bdX8_odds_0.1
theorem dX8_odds_1 : decode cX8_odds 1 = .ok (.iload_n 1, 1) := bdX8_odds_0.2.1
theorem dX8_odds_2 : decode cX8_odds 2 = .ok (.iload_n 2, 1) := bdX8_odds_0.2.2.1
theorem dX8_odds_3 : decode cX8_odds 3 = .ok (.invokevirtual 171, 3) := bdX8_odds_0.2.2.2.1
theorem dX8_odds_6 : decode cX8_odds 6 = .ok (.ifCond .eq 29, 3) := bdX8_odds_0.2.2.2.2.1
theorem dX8_odds_9 : decode cX8_odds 9 = .ok (.aload_n 0, 1) := bdX8_odds_0.2.2.2.2.2.1
theorem dX8_odds_10 : decode cX8_odds 10 = .ok (.iload_n 3, 1) := bdX8_odds_0.2.2.2.2.2.2.1
theorem dX8_odds_11 : decode cX8_odds 11 = .ok (.invokevirtual 148, 3) := bdX8_odds_0.2.2.2.2.2.2.2
theorem bdX8_odds_14 : decode cX8_odds 14 = .ok (.ifCond .eq 21, 3) ∧ decode cX8_odds 17 = .ok (.iload 4, 2) ∧ decode cX8_odds 19 = .ok (.invokestatic 178, 3) ∧ decode cX8_odds 22 = .ok (.ifCond .eq 13, 3) ∧ decode cX8_odds 25 = .ok (.iload 5, 2) ∧ decode cX8_odds 27 = .ok (.iconst 0, 1) ∧ decode cX8_odds 28 = .ok (.iconst 1, 1) ∧ decode cX8_odds 29 = .ok (.invokestatic 72, 3) := by decide +kernel
theorem dX8_odds_14 : decode cX8_odds 14 = .ok (.ifCond .eq 21, 3) := bdX8_odds_14.1
theorem dX8_odds_17 : decode cX8_odds 17 = .ok (.iload 4, 2) := bdX8_odds_14.2.1
theorem dX8_odds_19 : decode cX8_odds 19 = .ok (.invokestatic 178, 3) := bdX8_odds_14.2.2.1
theorem dX8_odds_22 : decode cX8_odds 22 = .ok (.ifCond .eq 13, 3) := bdX8_odds_14.2.2.2.1
theorem dX8_odds_25 : decode cX8_odds 25 = .ok (.iload 5, 2) := bdX8_odds_14.2.2.2.2.1
theorem dX8_odds_27 : decode cX8_odds 27 = .ok (.iconst 0, 1) := bdX8_odds_14.2.2.2.2.2.1
theorem dX8_odds_28 : decode cX8_odds 28 = .ok (.iconst 1, 1) := bdX8_odds_14.2.2.2.2.2.2.1
theorem dX8_odds_29 : decode cX8_odds 29 = .ok (.invokestatic 72, 3) := bdX8_odds_14.2.2.2.2.2.2.2
theorem bdX8_odds_32 : decode cX8_odds 32 = .ok (.ifCond .ne 5, 3) ∧ decode cX8_odds 35 = .ok (.iconst (-1), 1) ∧ decode cX8_odds 36 = .ok (.ireturn, 1) ∧ decode cX8_odds 37 = .ok (.iconst 0, 1) ∧ decode cX8_odds 38 = .ok (.istore 6, 2) ∧ decode cX8_odds 40 = .ok (.iconst 0, 1) ∧ decode cX8_odds 41 = .ok (.istore 7, 2) ∧ decode cX8_odds 43 = .ok (.iload 7, 2) := by decide +kernel
theorem dX8_odds_32 : decode cX8_odds 32 = .ok (.ifCond .ne 5, 3) := bdX8_odds_32.1
theorem dX8_odds_35 : decode cX8_odds 35 = .ok (.iconst (-1), 1) := bdX8_odds_32.2.1
theorem dX8_odds_36 : decode cX8_odds 36 = .ok (.ireturn, 1) := bdX8_odds_32.2.2.1
theorem dX8_odds_37 : decode cX8_odds 37 = .ok (.iconst 0, 1) := bdX8_odds_32.2.2.2.1
theorem dX8_odds_38 : decode cX8_odds 38 = .ok (.istore 6, 2) := bdX8_odds_32.2.2.2.2.1
theorem dX8_odds_40 : decode cX8_odds 40 = .ok (.iconst 0, 1) := bdX8_odds_32.2.2.2.2.2.1
theorem dX8_odds_41 : decode cX8_odds 41 = .ok (.istore 7, 2) := bdX8_odds_32.2.2.2.2.2.2.1
theorem dX8_odds_43 : decode cX8_odds 43 = .ok (.iload 7, 2) := bdX8_odds_32.2.2.2.2.2.2.2
theorem bdX8_odds_45 : decode cX8_odds 45 = .ok (.aload_n 0, 1) ∧ decode cX8_odds 46 = .ok (.getfield 35, 3) ∧ decode cX8_odds 49 = .ok (.iconst 0, 1) ∧ decode cX8_odds 50 = .ok (.iaload, 1) ∧ decode cX8_odds 51 = .ok (.if_icmp .ge 38, 3) ∧ decode cX8_odds 54 = .ok (.iload 6, 2) ∧ decode cX8_odds 56 = .ok (.aload_n 0, 1) ∧ decode cX8_odds 57 = .ok (.iload_n 1, 1) := by decide +kernel
theorem dX8_odds_45 : decode cX8_odds 45 = .ok (.aload_n 0, 1) := bdX8_odds_45.1
theorem dX8_odds_46 : decode cX8_odds 46 = .ok (.getfield 35, 3) := bdX8_odds_45.2.1
theorem dX8_odds_49 : decode cX8_odds 49 = .ok (.iconst 0, 1) := bdX8_odds_45.2.2.1
theorem dX8_odds_50 : decode cX8_odds 50 = .ok (.iaload, 1) := bdX8_odds_45.2.2.2.1
theorem dX8_odds_51 : decode cX8_odds 51 = .ok (.if_icmp .ge 38, 3) := bdX8_odds_45.2.2.2.2.1
theorem dX8_odds_54 : decode cX8_odds 54 = .ok (.iload 6, 2) := bdX8_odds_45.2.2.2.2.2.1
theorem dX8_odds_56 : decode cX8_odds 56 = .ok (.aload_n 0, 1) := bdX8_odds_45.2.2.2.2.2.2.1
theorem dX8_odds_57 : decode cX8_odds 57 = .ok (.iload_n 1, 1) := bdX8_odds_45.2.2.2.2.2.2.2
theorem bdX8_odds_58 : decode cX8_odds 58 = .ok (.iload_n 2, 1) ∧ decode cX8_odds 59 = .ok (.iload_n 3, 1) ∧ decode cX8_odds 60 = .ok (.iload 4, 2) ∧ decode cX8_odds 62 = .ok (.aload_n 0, 1) ∧ decode cX8_odds 63 = .ok (.getfield 38, 3) ∧ decode cX8_odds 66 = .ok (.iload 7, 2) ∧ decode cX8_odds 68 = .ok (.iaload, 1) ∧ decode cX8_odds 69 = .ok (.invokevirtual 174, 3) := by decide +kernel
theorem dX8_odds_58 : decode cX8_odds 58 = .ok (.iload_n 2, 1) := bdX8_odds_58.1
theorem dX8_odds_59 : decode cX8_odds 59 = .ok (.iload_n 3, 1) := bdX8_odds_58.2.1
theorem dX8_odds_60 : decode cX8_odds 60 = .ok (.iload 4, 2) := bdX8_odds_58.2.2.1
theorem dX8_odds_62 : decode cX8_odds 62 = .ok (.aload_n 0, 1) := bdX8_odds_58.2.2.2.1
theorem dX8_odds_63 : decode cX8_odds 63 = .ok (.getfield 38, 3) := bdX8_odds_58.2.2.2.2.1
theorem dX8_odds_66 : decode cX8_odds 66 = .ok (.iload 7, 2) := bdX8_odds_58.2.2.2.2.2.1
theorem dX8_odds_68 : decode cX8_odds 68 = .ok (.iaload, 1) := bdX8_odds_58.2.2.2.2.2.2.1
theorem dX8_odds_69 : decode cX8_odds 69 = .ok (.invokevirtual 174, 3) := bdX8_odds_58.2.2.2.2.2.2.2
theorem bdX8_odds_72 : decode cX8_odds 72 = .ok (.ifCond .eq 7, 3) ∧ decode cX8_odds 75 = .ok (.iconst 1, 1) ∧ decode cX8_odds 76 = .ok (.goto 4, 3) ∧ decode cX8_odds 79 = .ok (.iconst 0, 1) ∧ decode cX8_odds 80 = .ok (.iadd, 1) ∧ decode cX8_odds 81 = .ok (.istore 6, 2) ∧ decode cX8_odds 83 = .ok (.iinc 7 1, 3) ∧ decode cX8_odds 86 = .ok (.goto (-43), 3) := by decide +kernel
theorem dX8_odds_72 : decode cX8_odds 72 = .ok (.ifCond .eq 7, 3) := bdX8_odds_72.1
theorem dX8_odds_75 : decode cX8_odds 75 = .ok (.iconst 1, 1) := bdX8_odds_72.2.1
theorem dX8_odds_76 : decode cX8_odds 76 = .ok (.goto 4, 3) := bdX8_odds_72.2.2.1
theorem dX8_odds_79 : decode cX8_odds 79 = .ok (.iconst 0, 1) := bdX8_odds_72.2.2.2.1
theorem dX8_odds_80 : decode cX8_odds 80 = .ok (.iadd, 1) := bdX8_odds_72.2.2.2.2.1
theorem dX8_odds_81 : decode cX8_odds 81 = .ok (.istore 6, 2) := bdX8_odds_72.2.2.2.2.2.1
theorem dX8_odds_83 : decode cX8_odds 83 = .ok (.iinc 7 1, 3) := bdX8_odds_72.2.2.2.2.2.2.1
theorem dX8_odds_86 : decode cX8_odds 86 = .ok (.goto (-43), 3) := bdX8_odds_72.2.2.2.2.2.2.2
theorem bdX8_odds_89 : decode cX8_odds 89 = .ok (.iload 6, 2) ∧ decode cX8_odds 91 = .ok (.istore 7, 2) ∧ decode cX8_odds 93 = .ok (.aload_n 0, 1) ∧ decode cX8_odds 94 = .ok (.getfield 35, 3) ∧ decode cX8_odds 97 = .ok (.iconst 0, 1) ∧ decode cX8_odds 98 = .ok (.iaload, 1) ∧ decode cX8_odds 99 = .ok (.istore 8, 2) ∧ decode cX8_odds 101 = .ok (.iload 8, 2) := by decide +kernel
theorem dX8_odds_89 : decode cX8_odds 89 = .ok (.iload 6, 2) := bdX8_odds_89.1
theorem dX8_odds_91 : decode cX8_odds 91 = .ok (.istore 7, 2) := bdX8_odds_89.2.1
theorem dX8_odds_93 : decode cX8_odds 93 = .ok (.aload_n 0, 1) := bdX8_odds_89.2.2.1
theorem dX8_odds_94 : decode cX8_odds 94 = .ok (.getfield 35, 3) := bdX8_odds_89.2.2.2.1
theorem dX8_odds_97 : decode cX8_odds 97 = .ok (.iconst 0, 1) := bdX8_odds_89.2.2.2.2.1
theorem dX8_odds_98 : decode cX8_odds 98 = .ok (.iaload, 1) := bdX8_odds_89.2.2.2.2.2.1
theorem dX8_odds_99 : decode cX8_odds 99 = .ok (.istore 8, 2) := bdX8_odds_89.2.2.2.2.2.2.1
theorem dX8_odds_101 : decode cX8_odds 101 = .ok (.iload 8, 2) := bdX8_odds_89.2.2.2.2.2.2.2
theorem bdX8_odds_103 : decode cX8_odds 103 = .ok (.ifCond .eq 21, 3) ∧ decode cX8_odds 106 = .ok (.iload 7, 2) ∧ decode cX8_odds 108 = .ok (.iload 8, 2) ∧ decode cX8_odds 110 = .ok (.irem, 1) ∧ decode cX8_odds 111 = .ok (.istore 9, 2) ∧ decode cX8_odds 113 = .ok (.iload 8, 2) ∧ decode cX8_odds 115 = .ok (.istore 7, 2) ∧ decode cX8_odds 117 = .ok (.iload 9, 2) := by decide +kernel
theorem dX8_odds_103 : decode cX8_odds 103 = .ok (.ifCond .eq 21, 3) := bdX8_odds_103.1
theorem dX8_odds_106 : decode cX8_odds 106 = .ok (.iload 7, 2) := bdX8_odds_103.2.1
theorem dX8_odds_108 : decode cX8_odds 108 = .ok (.iload 8, 2) := bdX8_odds_103.2.2.1
theorem dX8_odds_110 : decode cX8_odds 110 = .ok (.irem, 1) := bdX8_odds_103.2.2.2.1
theorem dX8_odds_111 : decode cX8_odds 111 = .ok (.istore 9, 2) := bdX8_odds_103.2.2.2.2.1
theorem dX8_odds_113 : decode cX8_odds 113 = .ok (.iload 8, 2) := bdX8_odds_103.2.2.2.2.2.1
theorem dX8_odds_115 : decode cX8_odds 115 = .ok (.istore 7, 2) := bdX8_odds_103.2.2.2.2.2.2.1
theorem dX8_odds_117 : decode cX8_odds 117 = .ok (.iload 9, 2) := bdX8_odds_103.2.2.2.2.2.2.2
theorem bdX8_odds_119 : decode cX8_odds 119 = .ok (.istore 8, 2) ∧ decode cX8_odds 121 = .ok (.goto (-20), 3) ∧ decode cX8_odds 124 = .ok (.iload 5, 2) ∧ decode cX8_odds 126 = .ok (.ifCond .ne 11, 3) ∧ decode cX8_odds 129 = .ok (.iload 6, 2) ∧ decode cX8_odds 131 = .ok (.iload 7, 2) ∧ decode cX8_odds 133 = .ok (.idiv, 1) ∧ decode cX8_odds 134 = .ok (.goto 12, 3) := by decide +kernel
theorem dX8_odds_119 : decode cX8_odds 119 = .ok (.istore 8, 2) := bdX8_odds_119.1
theorem dX8_odds_121 : decode cX8_odds 121 = .ok (.goto (-20), 3) := bdX8_odds_119.2.1
theorem dX8_odds_124 : decode cX8_odds 124 = .ok (.iload 5, 2) := bdX8_odds_119.2.2.1
theorem dX8_odds_126 : decode cX8_odds 126 = .ok (.ifCond .ne 11, 3) := bdX8_odds_119.2.2.2.1
theorem dX8_odds_129 : decode cX8_odds 129 = .ok (.iload 6, 2) := bdX8_odds_119.2.2.2.2.1
theorem dX8_odds_131 : decode cX8_odds 131 = .ok (.iload 7, 2) := bdX8_odds_119.2.2.2.2.2.1
theorem dX8_odds_133 : decode cX8_odds 133 = .ok (.idiv, 1) := bdX8_odds_119.2.2.2.2.2.2.1
theorem dX8_odds_134 : decode cX8_odds 134 = .ok (.goto 12, 3) := bdX8_odds_119.2.2.2.2.2.2.2
theorem bdX8_odds_137 : decode cX8_odds 137 = .ok (.aload_n 0, 1) ∧ decode cX8_odds 138 = .ok (.getfield 35, 3) ∧ decode cX8_odds 141 = .ok (.iconst 0, 1) ∧ decode cX8_odds 142 = .ok (.iaload, 1) ∧ decode cX8_odds 143 = .ok (.iload 7, 2) ∧ decode cX8_odds 145 = .ok (.idiv, 1) ∧ decode cX8_odds 146 = .ok (.ireturn, 1) := by decide +kernel
theorem dX8_odds_137 : decode cX8_odds 137 = .ok (.aload_n 0, 1) := bdX8_odds_137.1
theorem dX8_odds_138 : decode cX8_odds 138 = .ok (.getfield 35, 3) := bdX8_odds_137.2.1
theorem dX8_odds_141 : decode cX8_odds 141 = .ok (.iconst 0, 1) := bdX8_odds_137.2.2.1
theorem dX8_odds_142 : decode cX8_odds 142 = .ok (.iaload, 1) := bdX8_odds_137.2.2.2.1
theorem dX8_odds_143 : decode cX8_odds 143 = .ok (.iload 7, 2) := bdX8_odds_137.2.2.2.2.1
theorem dX8_odds_145 : decode cX8_odds 145 = .ok (.idiv, 1) := bdX8_odds_137.2.2.2.2.2.1
theorem dX8_odds_146 : decode cX8_odds 146 = .ok (.ireturn, 1) := bdX8_odds_137.2.2.2.2.2.2
set_option maxRecDepth 20000 in
set_option maxRecDepth 100000 in
theorem ggX8_saw_X8_isSaying : GoodIn wsX8_saw wsX8_isSaying := goodIn_hd (goodIn_c ch_X8_saw hc_X8_saw ([.code yX8_isSaying cX8_isSaying 2 (some .boolean)] : List Cond) [(1, 7)] rfl (by decide +kernel)) (goodIn_app (goodIn_c ch_X8_saw hc_X8_saw ([.fieldLink RX8 23 "WordFletchersModel" "sayings" "[I", .methodLink RX8 72 yX8_in, .static yX8_in, .initialized RX8, .code yX8_in cX8_in 3 (some .boolean)] : List Cond) [(1, 8), (1, 9), (1, 10), (1, 6), (1, 11)] rfl (by decide +kernel)) (goodIn_sub (fun _ h => (List.mem_cons_of_mem _ (List.mem_append_right _ h))) gwX8))
set_option maxRecDepth 20000 in
theorem gX8_saw_X8_isSaying : GoodIn wsX8_saw (wsV RX8 148 RX8 yX8_isSaying wsX8_isSaying) := goodIn_app (goodIn_of _ (by decide +kernel)) ggX8_saw_X8_isSaying
set_option maxRecDepth 20000 in
set_option maxRecDepth 100000 in
theorem ggX8_saw_X8_in : GoodIn wsX8_saw wsX8_in := goodIn_hd (goodIn_c ch_X8_saw hc_X8_saw ([.code yX8_in cX8_in 3 (some .boolean)] : List Cond) [(1, 11)] rfl (by decide +kernel)) (goodIn_c ch_X8_saw hc_X8_saw ([] : List Cond) [] rfl (by decide +kernel))
set_option maxRecDepth 20000 in
theorem gX8_saw_X8_in : GoodIn wsX8_saw (va_wsS RX8 72 yX8_in wsX8_in) := goodIn_app (goodIn_of _ (by decide +kernel)) ggX8_saw_X8_in
theorem bdX8_saw_0 : decode cX8_saw 0 = .ok (.aload_n 0, 1) ∧ decode cX8_saw 1 = .ok (.iload_n 1, 1) ∧ decode cX8_saw 2 = .ok (.invokevirtual 148, 3) ∧ decode cX8_saw 5 = .ok (.ifCond .eq 13, 3) ∧ decode cX8_saw 8 = .ok (.iload_n 2, 1) ∧ decode cX8_saw 9 = .ok (.iconst 0, 1) ∧ decode cX8_saw 10 = .ok (.bipush 30, 2) ∧ decode cX8_saw 12 = .ok (.invokestatic 72, 3) := by decide +kernel
theorem dX8_saw_0 : decode cX8_saw 0 = .ok (.aload_n 0, 1) := bdX8_saw_0.1
theorem dX8_saw_1 : decode cX8_saw 1 = .ok (.iload_n 1, 1) := bdX8_saw_0.2.1
theorem dX8_saw_2 : decode cX8_saw 2 = .ok (.invokevirtual 148, 3) := bdX8_saw_0.2.2.1
theorem dX8_saw_5 : decode cX8_saw 5 = .ok (.ifCond .eq 13, 3) := bdX8_saw_0.2.2.2.1
theorem dX8_saw_8 : decode cX8_saw 8 = .ok (.iload_n 2, 1) := bdX8_saw_0.2.2.2.2.1
theorem dX8_saw_9 : decode cX8_saw 9 = .ok (.iconst 0, 1) := bdX8_saw_0.2.2.2.2.2.1
theorem dX8_saw_10 : decode cX8_saw 10 = .ok (.bipush 30, 2) := bdX8_saw_0.2.2.2.2.2.2.1
theorem dX8_saw_12 : decode cX8_saw 12 = .ok (.invokestatic 72, 3) := bdX8_saw_0.2.2.2.2.2.2.2
theorem bdX8_saw_15 : decode cX8_saw 15 = .ok (.ifCond .ne 5, 3) ∧ decode cX8_saw 18 = .ok (.iconst (-1), 1) ∧ decode cX8_saw 19 = .ok (.ireturn, 1) ∧ decode cX8_saw 20 = .ok (.aload_n 0, 1) ∧ decode cX8_saw 21 = .ok (.getfield 131, 3) ∧ decode cX8_saw 24 = .ok (.iconst 4, 1) ∧ decode cX8_saw 25 = .ok (.if_icmp .ne 6, 3) ∧ decode cX8_saw 28 = .ok (.bipush (-3), 2) := by decide +kernel
theorem dX8_saw_15 : decode cX8_saw 15 = .ok (.ifCond .ne 5, 3) := bdX8_saw_15.1
theorem dX8_saw_18 : decode cX8_saw 18 = .ok (.iconst (-1), 1) := bdX8_saw_15.2.1
theorem dX8_saw_19 : decode cX8_saw 19 = .ok (.ireturn, 1) := bdX8_saw_15.2.2.1
theorem dX8_saw_20 : decode cX8_saw 20 = .ok (.aload_n 0, 1) := bdX8_saw_15.2.2.2.1
theorem dX8_saw_21 : decode cX8_saw 21 = .ok (.getfield 131, 3) := bdX8_saw_15.2.2.2.2.1
theorem dX8_saw_24 : decode cX8_saw 24 = .ok (.iconst 4, 1) := bdX8_saw_15.2.2.2.2.2.1
theorem dX8_saw_25 : decode cX8_saw 25 = .ok (.if_icmp .ne 6, 3) := bdX8_saw_15.2.2.2.2.2.2.1
theorem dX8_saw_28 : decode cX8_saw 28 = .ok (.bipush (-3), 2) := bdX8_saw_15.2.2.2.2.2.2.2
theorem bdX8_saw_30 : decode cX8_saw 30 = .ok (.ireturn, 1) ∧ decode cX8_saw 31 = .ok (.aload_n 0, 1) ∧ decode cX8_saw 32 = .ok (.getfield 66, 3) ∧ decode cX8_saw 35 = .ok (.aload_n 0, 1) ∧ decode cX8_saw 36 = .ok (.getfield 131, 3) ∧ decode cX8_saw 39 = .ok (.iload_n 1, 1) ∧ decode cX8_saw 40 = .ok (.iastore, 1) ∧ decode cX8_saw 41 = .ok (.aload_n 0, 1) := by decide +kernel
theorem dX8_saw_30 : decode cX8_saw 30 = .ok (.ireturn, 1) := bdX8_saw_30.1
theorem dX8_saw_31 : decode cX8_saw 31 = .ok (.aload_n 0, 1) := bdX8_saw_30.2.1
theorem dX8_saw_32 : decode cX8_saw 32 = .ok (.getfield 66, 3) := bdX8_saw_30.2.2.1
theorem dX8_saw_35 : decode cX8_saw 35 = .ok (.aload_n 0, 1) := bdX8_saw_30.2.2.2.1
theorem dX8_saw_36 : decode cX8_saw 36 = .ok (.getfield 131, 3) := bdX8_saw_30.2.2.2.2.1
theorem dX8_saw_39 : decode cX8_saw 39 = .ok (.iload_n 1, 1) := bdX8_saw_30.2.2.2.2.2.1
theorem dX8_saw_40 : decode cX8_saw 40 = .ok (.iastore, 1) := bdX8_saw_30.2.2.2.2.2.2.1
theorem dX8_saw_41 : decode cX8_saw 41 = .ok (.aload_n 0, 1) := bdX8_saw_30.2.2.2.2.2.2.2
theorem bdX8_saw_42 : decode cX8_saw 42 = .ok (.getfield 69, 3) ∧ decode cX8_saw 45 = .ok (.aload_n 0, 1) ∧ decode cX8_saw 46 = .ok (.getfield 131, 3) ∧ decode cX8_saw 49 = .ok (.iload_n 2, 1) ∧ decode cX8_saw 50 = .ok (.iastore, 1) ∧ decode cX8_saw 51 = .ok (.aload_n 0, 1) ∧ decode cX8_saw 52 = .ok (.dup, 1) ∧ decode cX8_saw 53 = .ok (.getfield 131, 3) := by decide +kernel
theorem dX8_saw_42 : decode cX8_saw 42 = .ok (.getfield 69, 3) := bdX8_saw_42.1
theorem dX8_saw_45 : decode cX8_saw 45 = .ok (.aload_n 0, 1) := bdX8_saw_42.2.1
theorem dX8_saw_46 : decode cX8_saw 46 = .ok (.getfield 131, 3) := bdX8_saw_42.2.2.1
theorem dX8_saw_49 : decode cX8_saw 49 = .ok (.iload_n 2, 1) := bdX8_saw_42.2.2.2.1
theorem dX8_saw_50 : decode cX8_saw 50 = .ok (.iastore, 1) := bdX8_saw_42.2.2.2.2.1
theorem dX8_saw_51 : decode cX8_saw 51 = .ok (.aload_n 0, 1) := bdX8_saw_42.2.2.2.2.2.1
theorem dX8_saw_52 : decode cX8_saw 52 = .ok (.dup, 1) := bdX8_saw_42.2.2.2.2.2.2.1
theorem dX8_saw_53 : decode cX8_saw 53 = .ok (.getfield 131, 3) := bdX8_saw_42.2.2.2.2.2.2.2
theorem bdX8_saw_56 : decode cX8_saw 56 = .ok (.iconst 1, 1) ∧ decode cX8_saw 57 = .ok (.iadd, 1) ∧ decode cX8_saw 58 = .ok (.putfield 131, 3) ∧ decode cX8_saw 61 = .ok (.aload_n 0, 1) ∧ decode cX8_saw 62 = .ok (.getfield 131, 3) ∧ decode cX8_saw 65 = .ok (.ireturn, 1) := by decide +kernel
theorem dX8_saw_56 : decode cX8_saw 56 = .ok (.iconst 1, 1) := bdX8_saw_56.1
theorem dX8_saw_57 : decode cX8_saw 57 = .ok (.iadd, 1) := bdX8_saw_56.2.1
theorem dX8_saw_58 : decode cX8_saw 58 = .ok (.putfield 131, 3) := bdX8_saw_56.2.2.1
theorem dX8_saw_61 : decode cX8_saw 61 = .ok (.aload_n 0, 1) := bdX8_saw_56.2.2.2.1
theorem dX8_saw_62 : decode cX8_saw 62 = .ok (.getfield 131, 3) := bdX8_saw_56.2.2.2.2.1
theorem dX8_saw_65 : decode cX8_saw 65 = .ok (.ireturn, 1) := bdX8_saw_56.2.2.2.2.2
theorem bdX8_forget_0 : decode cX8_forget 0 = .ok (.aload_n 0, 1) ∧ decode cX8_forget 1 = .ok (.getfield 131, 3) ∧ decode cX8_forget 4 = .ok (.istore_n 1, 1) ∧ decode cX8_forget 5 = .ok (.aload_n 0, 1) ∧ decode cX8_forget 6 = .ok (.iconst 0, 1) ∧ decode cX8_forget 7 = .ok (.putfield 131, 3) ∧ decode cX8_forget 10 = .ok (.iload_n 1, 1) ∧ decode cX8_forget 11 = .ok (.ireturn, 1) := by decide +kernel
theorem dX8_forget_0 : decode cX8_forget 0 = .ok (.aload_n 0, 1) := bdX8_forget_0.1
theorem dX8_forget_1 : decode cX8_forget 1 = .ok (.getfield 131, 3) := bdX8_forget_0.2.1
theorem dX8_forget_4 : decode cX8_forget 4 = .ok (.istore_n 1, 1) := bdX8_forget_0.2.2.1
theorem dX8_forget_5 : decode cX8_forget 5 = .ok (.aload_n 0, 1) := bdX8_forget_0.2.2.2.1
theorem dX8_forget_6 : decode cX8_forget 6 = .ok (.iconst 0, 1) := bdX8_forget_0.2.2.2.2.1
theorem dX8_forget_7 : decode cX8_forget 7 = .ok (.putfield 131, 3) := bdX8_forget_0.2.2.2.2.2.1
theorem dX8_forget_10 : decode cX8_forget 10 = .ok (.iload_n 1, 1) := bdX8_forget_0.2.2.2.2.2.2.1
theorem dX8_forget_11 : decode cX8_forget 11 = .ok (.ireturn, 1) := bdX8_forget_0.2.2.2.2.2.2.2
set_option maxRecDepth 20000 in
set_option maxRecDepth 100000 in
theorem ggX8_spotsOf_X8_windIn : GoodIn wsX8_spotsOf wsX8_windIn := goodIn_hd (goodIn_c ch_X8_spotsOf hc_X8_spotsOf ([.code yX8_windIn cX8_windIn 2 (some .int)] : List Cond) [(1, 4)] rfl (by decide +kernel)) (goodIn_app (goodIn_c ch_X8_spotsOf hc_X8_spotsOf ([.fieldLink RX8 38 "WordFletchersModel" "wind" "[I", .fieldLink RX8 44 "WordFletchersModel" "now" "[I", .fieldLink RX8 35 "WordFletchersModel" "winds" "[I"] : List Cond) [(1, 5), (1, 6), (1, 7)] rfl (by decide +kernel)) (goodIn_sub (fun _ h => (List.mem_cons_of_mem _ (List.mem_append_right _ h))) gwX8))
set_option maxRecDepth 20000 in
theorem gX8_spotsOf_X8_windIn : GoodIn wsX8_spotsOf (wsV RX8 151 RX8 yX8_windIn wsX8_windIn) := goodIn_app (goodIn_of _ (by decide +kernel)) ggX8_spotsOf_X8_windIn
set_option maxRecDepth 20000 in
set_option maxRecDepth 100000 in
theorem ggX8_spotsOf_X8_landsBy : GoodIn wsX8_spotsOf wsX8_landsBy := goodIn_hd (goodIn_c ch_X8_spotsOf hc_X8_spotsOf ([.code yX8_landsBy cX8_landsBy 11 (some .int)] : List Cond) [(1, 11)] rfl (by decide +kernel)) (goodIn_app (goodIn_c ch_X8_spotsOf hc_X8_spotsOf ([.fieldLink RX8 29 "WordFletchersModel" "twist" "[I", .fieldLink RX8 26 "WordFletchersModel" "weight" "[I", .fieldLink RX8 44 "WordFletchersModel" "now" "[I", .fieldLink RX8 17 "WordFletchersModel" "place" "[I", .methodLink RX8 134 yX8_liftOf, .static yX8_liftOf, .initialized RX8, .code yX8_liftOf cX8_liftOf 1 (some .int), .methodLink RX8 72 yX8_in, .static yX8_in, .code yX8_in cX8_in 3 (some .boolean)] : List Cond) [(1, 12), (1, 13), (1, 6), (1, 14), (1, 15), (1, 16), (1, 3), (1, 17), (1, 18), (1, 19), (1, 20)] rfl (by decide +kernel)) (goodIn_sub (fun _ h => (List.mem_cons_of_mem _ (List.mem_append_right _ h))) gwX8))
set_option maxRecDepth 20000 in
theorem gX8_spotsOf_X8_landsBy : GoodIn wsX8_spotsOf (wsV RX8 161 RX8 yX8_landsBy wsX8_landsBy) := goodIn_app (goodIn_of _ (by decide +kernel)) ggX8_spotsOf_X8_landsBy
theorem bdX8_spotsOf_0 : decode cX8_spotsOf 0 = .ok (.iconst 0, 1) ∧ decode cX8_spotsOf 1 = .ok (.istore_n 3, 1) ∧ decode cX8_spotsOf 2 = .ok (.iconst 0, 1) ∧ decode cX8_spotsOf 3 = .ok (.istore 4, 2) ∧ decode cX8_spotsOf 5 = .ok (.iload 4, 2) ∧ decode cX8_spotsOf 7 = .ok (.bipush 32, 2) ∧ decode cX8_spotsOf 9 = .ok (.if_icmp .ge 55, 3) ∧ decode cX8_spotsOf 12 = .ok (.aload_n 0, 1) := by decide +kernel
theorem dX8_spotsOf_0 : decode cX8_spotsOf 0 = .ok (.iconst 0, 1) := bdX8_spotsOf_0.1
theorem dX8_spotsOf_1 : decode cX8_spotsOf 1 = .ok (.istore_n 3, 1) := bdX8_spotsOf_0.2.1
theorem dX8_spotsOf_2 : decode cX8_spotsOf 2 = .ok (.iconst 0, 1) := bdX8_spotsOf_0.2.2.1
theorem dX8_spotsOf_3 : decode cX8_spotsOf 3 = .ok (.istore 4, 2) := bdX8_spotsOf_0.2.2.2.1
theorem dX8_spotsOf_5 : decode cX8_spotsOf 5 = .ok (.iload 4, 2) := bdX8_spotsOf_0.2.2.2.2.1
theorem dX8_spotsOf_7 : decode cX8_spotsOf 7 = .ok (.bipush 32, 2) := bdX8_spotsOf_0.2.2.2.2.2.1
theorem dX8_spotsOf_9 : decode cX8_spotsOf 9 = .ok (.if_icmp .ge 55, 3) := bdX8_spotsOf_0.2.2.2.2.2.2.1
theorem dX8_spotsOf_12 : decode cX8_spotsOf 12 = .ok (.aload_n 0, 1) := bdX8_spotsOf_0.2.2.2.2.2.2.2
theorem bdX8_spotsOf_13 : decode cX8_spotsOf 13 = .ok (.iload_n 1, 1) ∧ decode cX8_spotsOf 14 = .ok (.iload_n 2, 1) ∧ decode cX8_spotsOf 15 = .ok (.iload 4, 2) ∧ decode cX8_spotsOf 17 = .ok (.bipush 8, 2) ∧ decode cX8_spotsOf 19 = .ok (.idiv, 1) ∧ decode cX8_spotsOf 20 = .ok (.iload 4, 2) ∧ decode cX8_spotsOf 22 = .ok (.iconst 2, 1) ∧ decode cX8_spotsOf 23 = .ok (.idiv, 1) := by decide +kernel
theorem dX8_spotsOf_13 : decode cX8_spotsOf 13 = .ok (.iload_n 1, 1) := bdX8_spotsOf_13.1
theorem dX8_spotsOf_14 : decode cX8_spotsOf 14 = .ok (.iload_n 2, 1) := bdX8_spotsOf_13.2.1
theorem dX8_spotsOf_15 : decode cX8_spotsOf 15 = .ok (.iload 4, 2) := bdX8_spotsOf_13.2.2.1
theorem dX8_spotsOf_17 : decode cX8_spotsOf 17 = .ok (.bipush 8, 2) := bdX8_spotsOf_13.2.2.2.1
theorem dX8_spotsOf_19 : decode cX8_spotsOf 19 = .ok (.idiv, 1) := bdX8_spotsOf_13.2.2.2.2.1
theorem dX8_spotsOf_20 : decode cX8_spotsOf 20 = .ok (.iload 4, 2) := bdX8_spotsOf_13.2.2.2.2.2.1
theorem dX8_spotsOf_22 : decode cX8_spotsOf 22 = .ok (.iconst 2, 1) := bdX8_spotsOf_13.2.2.2.2.2.2.1
theorem dX8_spotsOf_23 : decode cX8_spotsOf 23 = .ok (.idiv, 1) := bdX8_spotsOf_13.2.2.2.2.2.2.2
theorem bdX8_spotsOf_24 : decode cX8_spotsOf 24 = .ok (.iconst 4, 1) ∧ decode cX8_spotsOf 25 = .ok (.irem, 1) ∧ decode cX8_spotsOf 26 = .ok (.iload 4, 2) ∧ decode cX8_spotsOf 28 = .ok (.iconst 2, 1) ∧ decode cX8_spotsOf 29 = .ok (.irem, 1) ∧ decode cX8_spotsOf 30 = .ok (.aload_n 0, 1) ∧ decode cX8_spotsOf 31 = .ok (.iconst 0, 1) ∧ decode cX8_spotsOf 32 = .ok (.invokevirtual 151, 3) := by decide +kernel
theorem dX8_spotsOf_24 : decode cX8_spotsOf 24 = .ok (.iconst 4, 1) := bdX8_spotsOf_24.1
theorem dX8_spotsOf_25 : decode cX8_spotsOf 25 = .ok (.irem, 1) := bdX8_spotsOf_24.2.1
theorem dX8_spotsOf_26 : decode cX8_spotsOf 26 = .ok (.iload 4, 2) := bdX8_spotsOf_24.2.2.1
theorem dX8_spotsOf_28 : decode cX8_spotsOf 28 = .ok (.iconst 2, 1) := bdX8_spotsOf_24.2.2.2.1
theorem dX8_spotsOf_29 : decode cX8_spotsOf 29 = .ok (.irem, 1) := bdX8_spotsOf_24.2.2.2.2.1
theorem dX8_spotsOf_30 : decode cX8_spotsOf 30 = .ok (.aload_n 0, 1) := bdX8_spotsOf_24.2.2.2.2.2.1
theorem dX8_spotsOf_31 : decode cX8_spotsOf 31 = .ok (.iconst 0, 1) := bdX8_spotsOf_24.2.2.2.2.2.2.1
theorem dX8_spotsOf_32 : decode cX8_spotsOf 32 = .ok (.invokevirtual 151, 3) := bdX8_spotsOf_24.2.2.2.2.2.2.2
theorem bdX8_spotsOf_35 : decode cX8_spotsOf 35 = .ok (.invokevirtual 161, 3) ∧ decode cX8_spotsOf 38 = .ok (.istore 5, 2) ∧ decode cX8_spotsOf 40 = .ok (.iload_n 3, 1) ∧ decode cX8_spotsOf 41 = .ok (.iload 5, 2) ∧ decode cX8_spotsOf 43 = .ok (.bipush (-9), 2) ∧ decode cX8_spotsOf 45 = .ok (.if_icmp .ne 7, 3) ∧ decode cX8_spotsOf 48 = .ok (.iconst 0, 1) ∧ decode cX8_spotsOf 49 = .ok (.goto 7, 3) := by decide +kernel
theorem dX8_spotsOf_35 : decode cX8_spotsOf 35 = .ok (.invokevirtual 161, 3) := bdX8_spotsOf_35.1
theorem dX8_spotsOf_38 : decode cX8_spotsOf 38 = .ok (.istore 5, 2) := bdX8_spotsOf_35.2.1
theorem dX8_spotsOf_40 : decode cX8_spotsOf 40 = .ok (.iload_n 3, 1) := bdX8_spotsOf_35.2.2.1
theorem dX8_spotsOf_41 : decode cX8_spotsOf 41 = .ok (.iload 5, 2) := bdX8_spotsOf_35.2.2.2.1
theorem dX8_spotsOf_43 : decode cX8_spotsOf 43 = .ok (.bipush (-9), 2) := bdX8_spotsOf_35.2.2.2.2.1
theorem dX8_spotsOf_45 : decode cX8_spotsOf 45 = .ok (.if_icmp .ne 7, 3) := bdX8_spotsOf_35.2.2.2.2.2.1
theorem dX8_spotsOf_48 : decode cX8_spotsOf 48 = .ok (.iconst 0, 1) := bdX8_spotsOf_35.2.2.2.2.2.2.1
theorem dX8_spotsOf_49 : decode cX8_spotsOf 49 = .ok (.goto 7, 3) := bdX8_spotsOf_35.2.2.2.2.2.2.2
theorem bdX8_spotsOf_52 : decode cX8_spotsOf 52 = .ok (.iconst 1, 1) ∧ decode cX8_spotsOf 53 = .ok (.iload 5, 2) ∧ decode cX8_spotsOf 55 = .ok (.ishl, 1) ∧ decode cX8_spotsOf 56 = .ok (.ior, 1) ∧ decode cX8_spotsOf 57 = .ok (.istore_n 3, 1) ∧ decode cX8_spotsOf 58 = .ok (.iinc 4 1, 3) ∧ decode cX8_spotsOf 61 = .ok (.goto (-56), 3) ∧ decode cX8_spotsOf 64 = .ok (.iload_n 3, 1) := by decide +kernel
theorem dX8_spotsOf_52 : decode cX8_spotsOf 52 = .ok (.iconst 1, 1) := bdX8_spotsOf_52.1
theorem dX8_spotsOf_53 : decode cX8_spotsOf 53 = .ok (.iload 5, 2) := bdX8_spotsOf_52.2.1
theorem dX8_spotsOf_55 : decode cX8_spotsOf 55 = .ok (.ishl, 1) := bdX8_spotsOf_52.2.2.1
theorem dX8_spotsOf_56 : decode cX8_spotsOf 56 = .ok (.ior, 1) := bdX8_spotsOf_52.2.2.2.1
theorem dX8_spotsOf_57 : decode cX8_spotsOf 57 = .ok (.istore_n 3, 1) := bdX8_spotsOf_52.2.2.2.2.1
theorem dX8_spotsOf_58 : decode cX8_spotsOf 58 = .ok (.iinc 4 1, 3) := bdX8_spotsOf_52.2.2.2.2.2.1
theorem dX8_spotsOf_61 : decode cX8_spotsOf 61 = .ok (.goto (-56), 3) := bdX8_spotsOf_52.2.2.2.2.2.2.1
theorem dX8_spotsOf_64 : decode cX8_spotsOf 64 = .ok (.iload_n 3, 1) := bdX8_spotsOf_52.2.2.2.2.2.2.2
theorem dX8_spotsOf_65 : decode cX8_spotsOf 65 = .ok (.ireturn, 1) := by decide +kernel
set_option maxRecDepth 20000 in
set_option maxRecDepth 100000 in
theorem ggX8_who_X8_spotsOf : GoodIn wsX8_who wsX8_spotsOf := goodIn_hd (goodIn_c ch_X8_who hc_X8_who ([.code yX8_spotsOf cX8_spotsOf 6 (some .int)] : List Cond) [(1, 8)] rfl (by decide +kernel)) (goodIn_app (goodIn_c ch_X8_who hc_X8_who ([.methodLink RX8 151 yX8_windIn, .instanceMethod yX8_windIn, .selects RX8 yX8_windIn yX8_windIn, .initialized RX8, .code yX8_windIn cX8_windIn 2 (some .int), .fieldLink RX8 38 "WordFletchersModel" "wind" "[I", .fieldLink RX8 44 "WordFletchersModel" "now" "[I", .fieldLink RX8 35 "WordFletchersModel" "winds" "[I", .methodLink RX8 161 yX8_landsBy, .instanceMethod yX8_landsBy, .selects RX8 yX8_landsBy yX8_landsBy, .code yX8_landsBy cX8_landsBy 11 (some .int), .fieldLink RX8 29 "WordFletchersModel" "twist" "[I", .fieldLink RX8 26 "WordFletchersModel" "weight" "[I", .fieldLink RX8 17 "WordFletchersModel" "place" "[I", .methodLink RX8 134 yX8_liftOf, .static yX8_liftOf, .code yX8_liftOf cX8_liftOf 1 (some .int), .methodLink RX8 72 yX8_in, .static yX8_in, .code yX8_in cX8_in 3 (some .boolean)] : List Cond) [(1, 9), (1, 10), (1, 11), (1, 7), (1, 12), (1, 13), (1, 14), (1, 15), (1, 16), (1, 17), (1, 18), (1, 19), (1, 20), (1, 21), (1, 22), (1, 23), (2, 0), (2, 1), (2, 2), (2, 3), (2, 4)] rfl (by decide +kernel)) (goodIn_sub (fun _ h => (List.mem_cons_of_mem _ (List.mem_append_right _ h))) gwX8))
set_option maxRecDepth 20000 in
theorem gX8_who_X8_spotsOf : GoodIn wsX8_who (wsV RX8 198 RX8 yX8_spotsOf wsX8_spotsOf) := goodIn_app (goodIn_of _ (by decide +kernel)) ggX8_who_X8_spotsOf
set_option maxRecDepth 20000 in
set_option maxRecDepth 100000 in
theorem ggX8_who_X8_has : GoodIn wsX8_who wsX8_has := goodIn_hd (goodIn_c ch_X8_who hc_X8_who ([.code yX8_has cX8_has 2 (some .boolean)] : List Cond) [(2, 7)] rfl (by decide +kernel)) (goodIn_c ch_X8_who hc_X8_who ([] : List Cond) [] rfl (by decide +kernel))
set_option maxRecDepth 20000 in
theorem gX8_who_X8_has : GoodIn wsX8_who (va_wsS RX8 145 yX8_has wsX8_has) := goodIn_app (goodIn_of _ (by decide +kernel)) ggX8_who_X8_has
theorem bdX8_who_0 : decode cX8_who 0 = .ok (.iconst 0, 1) ∧ decode cX8_who 1 = .ok (.istore_n 1, 1) ∧ decode cX8_who 2 = .ok (.iconst 0, 1) ∧ decode cX8_who 3 = .ok (.istore_n 2, 1) ∧ decode cX8_who 4 = .ok (.iload_n 2, 1) ∧ decode cX8_who 5 = .ok (.aload_n 0, 1) ∧ decode cX8_who 6 = .ok (.getfield 13, 3) ∧ decode cX8_who 9 = .ok (.iconst 0, 1) := by decide +kernel
theorem dX8_who_0 : decode cX8_who 0 = .ok (.iconst 0, 1) := bdX8_who_0.1
theorem dX8_who_1 : decode cX8_who 1 = .ok (.istore_n 1, 1) := bdX8_who_0.2.1
theorem dX8_who_2 : decode cX8_who 2 = .ok (.iconst 0, 1) := bdX8_who_0.2.2.1
theorem dX8_who_3 : decode cX8_who 3 = .ok (.istore_n 2, 1) := bdX8_who_0.2.2.2.1
theorem dX8_who_4 : decode cX8_who 4 = .ok (.iload_n 2, 1) := bdX8_who_0.2.2.2.2.1
theorem dX8_who_5 : decode cX8_who 5 = .ok (.aload_n 0, 1) := bdX8_who_0.2.2.2.2.2.1
theorem dX8_who_6 : decode cX8_who 6 = .ok (.getfield 13, 3) := bdX8_who_0.2.2.2.2.2.2.1
theorem dX8_who_9 : decode cX8_who 9 = .ok (.iconst 0, 1) := bdX8_who_0.2.2.2.2.2.2.2
theorem bdX8_who_10 : decode cX8_who 10 = .ok (.iaload, 1) ∧ decode cX8_who 11 = .ok (.if_icmp .ge 78, 3) ∧ decode cX8_who 14 = .ok (.iconst 1, 1) ∧ decode cX8_who 15 = .ok (.istore_n 3, 1) ∧ decode cX8_who 16 = .ok (.iconst 0, 1) ∧ decode cX8_who 17 = .ok (.istore 4, 2) ∧ decode cX8_who 19 = .ok (.iload 4, 2) ∧ decode cX8_who 21 = .ok (.aload_n 0, 1) := by decide +kernel
theorem dX8_who_10 : decode cX8_who 10 = .ok (.iaload, 1) := bdX8_who_10.1
theorem dX8_who_11 : decode cX8_who 11 = .ok (.if_icmp .ge 78, 3) := bdX8_who_10.2.1
theorem dX8_who_14 : decode cX8_who 14 = .ok (.iconst 1, 1) := bdX8_who_10.2.2.1
theorem dX8_who_15 : decode cX8_who 15 = .ok (.istore_n 3, 1) := bdX8_who_10.2.2.2.1
theorem dX8_who_16 : decode cX8_who 16 = .ok (.iconst 0, 1) := bdX8_who_10.2.2.2.2.1
theorem dX8_who_17 : decode cX8_who 17 = .ok (.istore 4, 2) := bdX8_who_10.2.2.2.2.2.1
theorem dX8_who_19 : decode cX8_who 19 = .ok (.iload 4, 2) := bdX8_who_10.2.2.2.2.2.2.1
theorem dX8_who_21 : decode cX8_who 21 = .ok (.aload_n 0, 1) := bdX8_who_10.2.2.2.2.2.2.2
theorem bdX8_who_22 : decode cX8_who 22 = .ok (.getfield 131, 3) ∧ decode cX8_who 25 = .ok (.if_icmp .ge 44, 3) ∧ decode cX8_who 28 = .ok (.iload_n 3, 1) ∧ decode cX8_who 29 = .ok (.ifCond .eq 32, 3) ∧ decode cX8_who 32 = .ok (.aload_n 0, 1) ∧ decode cX8_who 33 = .ok (.iload_n 2, 1) ∧ decode cX8_who 34 = .ok (.aload_n 0, 1) ∧ decode cX8_who 35 = .ok (.getfield 66, 3) := by decide +kernel
theorem dX8_who_22 : decode cX8_who 22 = .ok (.getfield 131, 3) := bdX8_who_22.1
theorem dX8_who_25 : decode cX8_who 25 = .ok (.if_icmp .ge 44, 3) := bdX8_who_22.2.1
theorem dX8_who_28 : decode cX8_who 28 = .ok (.iload_n 3, 1) := bdX8_who_22.2.2.1
theorem dX8_who_29 : decode cX8_who 29 = .ok (.ifCond .eq 32, 3) := bdX8_who_22.2.2.2.1
theorem dX8_who_32 : decode cX8_who 32 = .ok (.aload_n 0, 1) := bdX8_who_22.2.2.2.2.1
theorem dX8_who_33 : decode cX8_who 33 = .ok (.iload_n 2, 1) := bdX8_who_22.2.2.2.2.2.1
theorem dX8_who_34 : decode cX8_who 34 = .ok (.aload_n 0, 1) := bdX8_who_22.2.2.2.2.2.2.1
theorem dX8_who_35 : decode cX8_who 35 = .ok (.getfield 66, 3) := bdX8_who_22.2.2.2.2.2.2.2
theorem bdX8_who_38 : decode cX8_who 38 = .ok (.iload 4, 2) ∧ decode cX8_who 40 = .ok (.iaload, 1) ∧ decode cX8_who 41 = .ok (.invokevirtual 198, 3) ∧ decode cX8_who 44 = .ok (.aload_n 0, 1) ∧ decode cX8_who 45 = .ok (.getfield 69, 3) ∧ decode cX8_who 48 = .ok (.iload 4, 2) ∧ decode cX8_who 50 = .ok (.iaload, 1) ∧ decode cX8_who 51 = .ok (.invokestatic 145, 3) := by decide +kernel
theorem dX8_who_38 : decode cX8_who 38 = .ok (.iload 4, 2) := bdX8_who_38.1
theorem dX8_who_40 : decode cX8_who 40 = .ok (.iaload, 1) := bdX8_who_38.2.1
theorem dX8_who_41 : decode cX8_who 41 = .ok (.invokevirtual 198, 3) := bdX8_who_38.2.2.1
theorem dX8_who_44 : decode cX8_who 44 = .ok (.aload_n 0, 1) := bdX8_who_38.2.2.2.1
theorem dX8_who_45 : decode cX8_who 45 = .ok (.getfield 69, 3) := bdX8_who_38.2.2.2.2.1
theorem dX8_who_48 : decode cX8_who 48 = .ok (.iload 4, 2) := bdX8_who_38.2.2.2.2.2.1
theorem dX8_who_50 : decode cX8_who 50 = .ok (.iaload, 1) := bdX8_who_38.2.2.2.2.2.2.1
theorem dX8_who_51 : decode cX8_who 51 = .ok (.invokestatic 145, 3) := bdX8_who_38.2.2.2.2.2.2.2
theorem bdX8_who_54 : decode cX8_who 54 = .ok (.ifCond .eq 7, 3) ∧ decode cX8_who 57 = .ok (.iconst 1, 1) ∧ decode cX8_who 58 = .ok (.goto 4, 3) ∧ decode cX8_who 61 = .ok (.iconst 0, 1) ∧ decode cX8_who 62 = .ok (.istore_n 3, 1) ∧ decode cX8_who 63 = .ok (.iinc 4 1, 3) ∧ decode cX8_who 66 = .ok (.goto (-47), 3) ∧ decode cX8_who 69 = .ok (.iload_n 1, 1) := by decide +kernel
theorem dX8_who_54 : decode cX8_who 54 = .ok (.ifCond .eq 7, 3) := bdX8_who_54.1
theorem dX8_who_57 : decode cX8_who 57 = .ok (.iconst 1, 1) := bdX8_who_54.2.1
theorem dX8_who_58 : decode cX8_who 58 = .ok (.goto 4, 3) := bdX8_who_54.2.2.1
theorem dX8_who_61 : decode cX8_who 61 = .ok (.iconst 0, 1) := bdX8_who_54.2.2.2.1
theorem dX8_who_62 : decode cX8_who 62 = .ok (.istore_n 3, 1) := bdX8_who_54.2.2.2.2.1
theorem dX8_who_63 : decode cX8_who 63 = .ok (.iinc 4 1, 3) := bdX8_who_54.2.2.2.2.2.1
theorem dX8_who_66 : decode cX8_who 66 = .ok (.goto (-47), 3) := bdX8_who_54.2.2.2.2.2.2.1
theorem dX8_who_69 : decode cX8_who 69 = .ok (.iload_n 1, 1) := bdX8_who_54.2.2.2.2.2.2.2
theorem bdX8_who_70 : decode cX8_who 70 = .ok (.iload_n 3, 1) ∧ decode cX8_who 71 = .ok (.ifCond .eq 9, 3) ∧ decode cX8_who 74 = .ok (.iconst 1, 1) ∧ decode cX8_who 75 = .ok (.iload_n 2, 1) ∧ decode cX8_who 76 = .ok (.ishl, 1) ∧ decode cX8_who 77 = .ok (.goto 4, 3) ∧ decode cX8_who 80 = .ok (.iconst 0, 1) ∧ decode cX8_who 81 = .ok (.ior, 1) := by decide +kernel
theorem dX8_who_70 : decode cX8_who 70 = .ok (.iload_n 3, 1) := bdX8_who_70.1
theorem dX8_who_71 : decode cX8_who 71 = .ok (.ifCond .eq 9, 3) := bdX8_who_70.2.1
theorem dX8_who_74 : decode cX8_who 74 = .ok (.iconst 1, 1) := bdX8_who_70.2.2.1
theorem dX8_who_75 : decode cX8_who 75 = .ok (.iload_n 2, 1) := bdX8_who_70.2.2.2.1
theorem dX8_who_76 : decode cX8_who 76 = .ok (.ishl, 1) := bdX8_who_70.2.2.2.2.1
theorem dX8_who_77 : decode cX8_who 77 = .ok (.goto 4, 3) := bdX8_who_70.2.2.2.2.2.1
theorem dX8_who_80 : decode cX8_who 80 = .ok (.iconst 0, 1) := bdX8_who_70.2.2.2.2.2.2.1
theorem dX8_who_81 : decode cX8_who 81 = .ok (.ior, 1) := bdX8_who_70.2.2.2.2.2.2.2
theorem bdX8_who_82 : decode cX8_who 82 = .ok (.istore_n 1, 1) ∧ decode cX8_who 83 = .ok (.iinc 2 1, 3) ∧ decode cX8_who 86 = .ok (.goto (-82), 3) ∧ decode cX8_who 89 = .ok (.iload_n 1, 1) ∧ decode cX8_who 90 = .ok (.ireturn, 1) := by decide +kernel
theorem dX8_who_82 : decode cX8_who 82 = .ok (.istore_n 1, 1) := bdX8_who_82.1
theorem dX8_who_83 : decode cX8_who 83 = .ok (.iinc 2 1, 3) := bdX8_who_82.2.1
theorem dX8_who_86 : decode cX8_who 86 = .ok (.goto (-82), 3) := bdX8_who_82.2.2.1
theorem dX8_who_89 : decode cX8_who 89 = .ok (.iload_n 1, 1) := bdX8_who_82.2.2.2.1
theorem dX8_who_90 : decode cX8_who 90 = .ok (.ireturn, 1) := bdX8_who_82.2.2.2.2
set_option maxRecDepth 20000 in
set_option maxRecDepth 100000 in
theorem ggX8_ask_X8_who : GoodIn wsX8_ask wsX8_who := goodIn_hd (goodIn_c ch_X8_ask hc_X8_ask ([.code yX8_who cX8_who 5 (some .int)] : List Cond) [(1, 6)] rfl (by decide +kernel)) (goodIn_app (goodIn_app (goodIn_c ch_X8_ask hc_X8_ask wsX8_who_r1 [(1, 1), (1, 7), (1, 8), (1, 9), (1, 10), (1, 11), (1, 12), (1, 5), (1, 13), (1, 14), (1, 15), (1, 16), (1, 17), (1, 18), (1, 19), (1, 20), (1, 21), (1, 22), (1, 23), (2, 0), (2, 1), (2, 2), (2, 3), (2, 4)] rfl (by decide +kernel)) (goodIn_c ch_X8_ask hc_X8_ask wsX8_who_r2 [(2, 5), (2, 6), (2, 7), (2, 8), (2, 9), (2, 10), (2, 11), (2, 12)] rfl (by decide +kernel))) (goodIn_sub (fun _ h => (List.mem_cons_of_mem _ (List.mem_append_right _ h))) gwX8))
set_option maxRecDepth 20000 in
theorem gX8_ask_X8_who : GoodIn wsX8_ask (wsV RX8 201 RX8 yX8_who wsX8_who) := goodIn_app (goodIn_of _ (by decide +kernel)) ggX8_ask_X8_who
set_option maxRecDepth 20000 in
set_option maxRecDepth 100000 in
theorem ggX8_ask_X8_bitsOf : GoodIn wsX8_ask wsX8_bitsOf := goodIn_hd (goodIn_c ch_X8_ask hc_X8_ask ([.code yX8_bitsOf cX8_bitsOf 3 (some .int)] : List Cond) [(2, 15)] rfl (by decide +kernel)) (goodIn_c ch_X8_ask hc_X8_ask ([] : List Cond) [] rfl (by decide +kernel))
set_option maxRecDepth 20000 in
theorem gX8_ask_X8_bitsOf : GoodIn wsX8_ask (va_wsS RX8 192 yX8_bitsOf wsX8_bitsOf) := goodIn_app (goodIn_of _ (by decide +kernel)) ggX8_ask_X8_bitsOf
set_option maxRecDepth 20000 in
set_option maxRecDepth 100000 in
theorem ggX8_ask_X8_has : GoodIn wsX8_ask wsX8_has := goodIn_hd (goodIn_c ch_X8_ask hc_X8_ask ([.code yX8_has cX8_has 2 (some .boolean)] : List Cond) [(2, 12)] rfl (by decide +kernel)) (goodIn_c ch_X8_ask hc_X8_ask ([] : List Cond) [] rfl (by decide +kernel))
set_option maxRecDepth 20000 in
theorem gX8_ask_X8_has : GoodIn wsX8_ask (va_wsS RX8 145 yX8_has wsX8_has) := goodIn_app (goodIn_of _ (by decide +kernel)) ggX8_ask_X8_has
set_option maxRecDepth 20000 in
set_option maxRecDepth 100000 in
theorem ggX8_ask_X8_spotsOf : GoodIn wsX8_ask wsX8_spotsOf := goodIn_hd (goodIn_c ch_X8_ask hc_X8_ask ([.code yX8_spotsOf cX8_spotsOf 6 (some .int)] : List Cond) [(1, 13)] rfl (by decide +kernel)) (goodIn_app (goodIn_c ch_X8_ask hc_X8_ask ([.methodLink RX8 151 yX8_windIn, .instanceMethod yX8_windIn, .selects RX8 yX8_windIn yX8_windIn, .initialized RX8, .code yX8_windIn cX8_windIn 2 (some .int), .fieldLink RX8 38 "WordFletchersModel" "wind" "[I", .fieldLink RX8 44 "WordFletchersModel" "now" "[I", .fieldLink RX8 35 "WordFletchersModel" "winds" "[I", .methodLink RX8 161 yX8_landsBy, .instanceMethod yX8_landsBy, .selects RX8 yX8_landsBy yX8_landsBy, .code yX8_landsBy cX8_landsBy 11 (some .int), .fieldLink RX8 29 "WordFletchersModel" "twist" "[I", .fieldLink RX8 26 "WordFletchersModel" "weight" "[I", .fieldLink RX8 17 "WordFletchersModel" "place" "[I", .methodLink RX8 134 yX8_liftOf, .static yX8_liftOf, .code yX8_liftOf cX8_liftOf 1 (some .int), .methodLink RX8 72 yX8_in, .static yX8_in, .code yX8_in cX8_in 3 (some .boolean)] : List Cond) [(1, 14), (1, 15), (1, 16), (1, 5), (1, 17), (1, 18), (1, 19), (1, 20), (1, 21), (1, 22), (1, 23), (2, 0), (2, 1), (2, 2), (2, 3), (2, 4), (2, 5), (2, 6), (2, 7), (2, 8), (2, 9)] rfl (by decide +kernel)) (goodIn_sub (fun _ h => (List.mem_cons_of_mem _ (List.mem_append_right _ h))) gwX8))
set_option maxRecDepth 20000 in
theorem gX8_ask_X8_spotsOf : GoodIn wsX8_ask (wsV RX8 198 RX8 yX8_spotsOf wsX8_spotsOf) := goodIn_app (goodIn_of _ (by decide +kernel)) ggX8_ask_X8_spotsOf
theorem bdX8_ask_0 : decode cX8_ask 0 = .ok (.aload_n 0, 1) ∧ decode cX8_ask 1 = .ok (.invokevirtual 201, 3) ∧ decode cX8_ask 4 = .ok (.istore_n 1, 1) ∧ decode cX8_ask 5 = .ok (.bipush (-9), 2) ∧ decode cX8_ask 7 = .ok (.istore_n 2, 1) ∧ decode cX8_ask 8 = .ok (.iconst 0, 1) ∧ decode cX8_ask 9 = .ok (.istore_n 3, 1) ∧ decode cX8_ask 10 = .ok (.iconst 0, 1) := by decide +kernel
theorem dX8_ask_0 : decode cX8_ask 0 = .ok (.aload_n 0, 1) := bdX8_ask_0.1
theorem dX8_ask_1 : decode cX8_ask 1 = .ok (.invokevirtual 201, 3) := bdX8_ask_0.2.1
theorem dX8_ask_4 : decode cX8_ask 4 = .ok (.istore_n 1, 1) := bdX8_ask_0.2.2.1
theorem dX8_ask_5 : decode cX8_ask 5 = .ok (.bipush (-9), 2) := bdX8_ask_0.2.2.2.1
theorem dX8_ask_7 : decode cX8_ask 7 = .ok (.istore_n 2, 1) := bdX8_ask_0.2.2.2.2.1
theorem dX8_ask_8 : decode cX8_ask 8 = .ok (.iconst 0, 1) := bdX8_ask_0.2.2.2.2.2.1
theorem dX8_ask_9 : decode cX8_ask 9 = .ok (.istore_n 3, 1) := bdX8_ask_0.2.2.2.2.2.2.1
theorem dX8_ask_10 : decode cX8_ask 10 = .ok (.iconst 0, 1) := bdX8_ask_0.2.2.2.2.2.2.2
theorem bdX8_ask_11 : decode cX8_ask 11 = .ok (.istore 4, 2) ∧ decode cX8_ask 13 = .ok (.iload 4, 2) ∧ decode cX8_ask 15 = .ok (.aload_n 0, 1) ∧ decode cX8_ask 16 = .ok (.getfield 23, 3) ∧ decode cX8_ask 19 = .ok (.iconst 0, 1) ∧ decode cX8_ask 20 = .ok (.iaload, 1) ∧ decode cX8_ask 21 = .ok (.if_icmp .ge 150, 3) ∧ decode cX8_ask 24 = .ok (.iload_n 1, 1) := by decide +kernel
theorem dX8_ask_11 : decode cX8_ask 11 = .ok (.istore 4, 2) := bdX8_ask_11.1
theorem dX8_ask_13 : decode cX8_ask 13 = .ok (.iload 4, 2) := bdX8_ask_11.2.1
theorem dX8_ask_15 : decode cX8_ask 15 = .ok (.aload_n 0, 1) := bdX8_ask_11.2.2.1
theorem dX8_ask_16 : decode cX8_ask 16 = .ok (.getfield 23, 3) := bdX8_ask_11.2.2.2.1
theorem dX8_ask_19 : decode cX8_ask 19 = .ok (.iconst 0, 1) := bdX8_ask_11.2.2.2.2.1
theorem dX8_ask_20 : decode cX8_ask 20 = .ok (.iaload, 1) := bdX8_ask_11.2.2.2.2.2.1
theorem dX8_ask_21 : decode cX8_ask 21 = .ok (.if_icmp .ge 150, 3) := bdX8_ask_11.2.2.2.2.2.2.1
theorem dX8_ask_24 : decode cX8_ask 24 = .ok (.iload_n 1, 1) := bdX8_ask_11.2.2.2.2.2.2.2
theorem bdX8_ask_25 : decode cX8_ask 25 = .ok (.invokestatic 192, 3) ∧ decode cX8_ask 28 = .ok (.iconst 1, 1) ∧ decode cX8_ask 29 = .ok (.if_icmp .le 142, 3) ∧ decode cX8_ask 32 = .ok (.iconst 0, 1) ∧ decode cX8_ask 33 = .ok (.istore 5, 2) ∧ decode cX8_ask 35 = .ok (.iconst 0, 1) ∧ decode cX8_ask 36 = .ok (.istore 6, 2) ∧ decode cX8_ask 38 = .ok (.iload 6, 2) := by decide +kernel
theorem dX8_ask_25 : decode cX8_ask 25 = .ok (.invokestatic 192, 3) := bdX8_ask_25.1
theorem dX8_ask_28 : decode cX8_ask 28 = .ok (.iconst 1, 1) := bdX8_ask_25.2.1
theorem dX8_ask_29 : decode cX8_ask 29 = .ok (.if_icmp .le 142, 3) := bdX8_ask_25.2.2.1
theorem dX8_ask_32 : decode cX8_ask 32 = .ok (.iconst 0, 1) := bdX8_ask_25.2.2.2.1
theorem dX8_ask_33 : decode cX8_ask 33 = .ok (.istore 5, 2) := bdX8_ask_25.2.2.2.2.1
theorem dX8_ask_35 : decode cX8_ask 35 = .ok (.iconst 0, 1) := bdX8_ask_25.2.2.2.2.2.1
theorem dX8_ask_36 : decode cX8_ask 36 = .ok (.istore 6, 2) := bdX8_ask_25.2.2.2.2.2.2.1
theorem dX8_ask_38 : decode cX8_ask 38 = .ok (.iload 6, 2) := bdX8_ask_25.2.2.2.2.2.2.2
theorem bdX8_ask_40 : decode cX8_ask 40 = .ok (.aload_n 0, 1) ∧ decode cX8_ask 41 = .ok (.getfield 13, 3) ∧ decode cX8_ask 44 = .ok (.iconst 0, 1) ∧ decode cX8_ask 45 = .ok (.iaload, 1) ∧ decode cX8_ask 46 = .ok (.if_icmp .ge 101, 3) ∧ decode cX8_ask 49 = .ok (.iconst 0, 1) ∧ decode cX8_ask 50 = .ok (.istore 7, 2) ∧ decode cX8_ask 52 = .ok (.iconst 0, 1) := by decide +kernel
theorem dX8_ask_40 : decode cX8_ask 40 = .ok (.aload_n 0, 1) := bdX8_ask_40.1
theorem dX8_ask_41 : decode cX8_ask 41 = .ok (.getfield 13, 3) := bdX8_ask_40.2.1
theorem dX8_ask_44 : decode cX8_ask 44 = .ok (.iconst 0, 1) := bdX8_ask_40.2.2.1
theorem dX8_ask_45 : decode cX8_ask 45 = .ok (.iaload, 1) := bdX8_ask_40.2.2.2.1
theorem dX8_ask_46 : decode cX8_ask 46 = .ok (.if_icmp .ge 101, 3) := bdX8_ask_40.2.2.2.2.1
theorem dX8_ask_49 : decode cX8_ask 49 = .ok (.iconst 0, 1) := bdX8_ask_40.2.2.2.2.2.1
theorem dX8_ask_50 : decode cX8_ask 50 = .ok (.istore 7, 2) := bdX8_ask_40.2.2.2.2.2.2.1
theorem dX8_ask_52 : decode cX8_ask 52 = .ok (.iconst 0, 1) := bdX8_ask_40.2.2.2.2.2.2.2
theorem bdX8_ask_53 : decode cX8_ask 53 = .ok (.istore 8, 2) ∧ decode cX8_ask 55 = .ok (.iload 8, 2) ∧ decode cX8_ask 57 = .ok (.aload_n 0, 1) ∧ decode cX8_ask 58 = .ok (.getfield 13, 3) ∧ decode cX8_ask 61 = .ok (.iconst 0, 1) ∧ decode cX8_ask 62 = .ok (.iaload, 1) ∧ decode cX8_ask 63 = .ok (.if_icmp .ge 62, 3) ∧ decode cX8_ask 66 = .ok (.iload 7, 2) := by decide +kernel
theorem dX8_ask_53 : decode cX8_ask 53 = .ok (.istore 8, 2) := bdX8_ask_53.1
theorem dX8_ask_55 : decode cX8_ask 55 = .ok (.iload 8, 2) := bdX8_ask_53.2.1
theorem dX8_ask_57 : decode cX8_ask 57 = .ok (.aload_n 0, 1) := bdX8_ask_53.2.2.1
theorem dX8_ask_58 : decode cX8_ask 58 = .ok (.getfield 13, 3) := bdX8_ask_53.2.2.2.1
theorem dX8_ask_61 : decode cX8_ask 61 = .ok (.iconst 0, 1) := bdX8_ask_53.2.2.2.2.1
theorem dX8_ask_62 : decode cX8_ask 62 = .ok (.iaload, 1) := bdX8_ask_53.2.2.2.2.2.1
theorem dX8_ask_63 : decode cX8_ask 63 = .ok (.if_icmp .ge 62, 3) := bdX8_ask_53.2.2.2.2.2.2.1
theorem dX8_ask_66 : decode cX8_ask 66 = .ok (.iload 7, 2) := bdX8_ask_53.2.2.2.2.2.2.2
theorem bdX8_ask_68 : decode cX8_ask 68 = .ok (.iload_n 1, 1) ∧ decode cX8_ask 69 = .ok (.iload 6, 2) ∧ decode cX8_ask 71 = .ok (.invokestatic 145, 3) ∧ decode cX8_ask 74 = .ok (.ifCond .eq 41, 3) ∧ decode cX8_ask 77 = .ok (.iload_n 1, 1) ∧ decode cX8_ask 78 = .ok (.iload 8, 2) ∧ decode cX8_ask 80 = .ok (.invokestatic 145, 3) ∧ decode cX8_ask 83 = .ok (.ifCond .eq 32, 3) := by decide +kernel
theorem dX8_ask_68 : decode cX8_ask 68 = .ok (.iload_n 1, 1) := bdX8_ask_68.1
theorem dX8_ask_69 : decode cX8_ask 69 = .ok (.iload 6, 2) := bdX8_ask_68.2.1
theorem dX8_ask_71 : decode cX8_ask 71 = .ok (.invokestatic 145, 3) := bdX8_ask_68.2.2.1
theorem dX8_ask_74 : decode cX8_ask 74 = .ok (.ifCond .eq 41, 3) := bdX8_ask_68.2.2.2.1
theorem dX8_ask_77 : decode cX8_ask 77 = .ok (.iload_n 1, 1) := bdX8_ask_68.2.2.2.2.1
theorem dX8_ask_78 : decode cX8_ask 78 = .ok (.iload 8, 2) := bdX8_ask_68.2.2.2.2.2.1
theorem dX8_ask_80 : decode cX8_ask 80 = .ok (.invokestatic 145, 3) := bdX8_ask_68.2.2.2.2.2.2.1
theorem dX8_ask_83 : decode cX8_ask 83 = .ok (.ifCond .eq 32, 3) := bdX8_ask_68.2.2.2.2.2.2.2
theorem bdX8_ask_86 : decode cX8_ask 86 = .ok (.aload_n 0, 1) ∧ decode cX8_ask 87 = .ok (.iload 8, 2) ∧ decode cX8_ask 89 = .ok (.iload 4, 2) ∧ decode cX8_ask 91 = .ok (.invokevirtual 198, 3) ∧ decode cX8_ask 94 = .ok (.invokestatic 192, 3) ∧ decode cX8_ask 97 = .ok (.aload_n 0, 1) ∧ decode cX8_ask 98 = .ok (.iload 6, 2) ∧ decode cX8_ask 100 = .ok (.iload 4, 2) := by decide +kernel
theorem dX8_ask_86 : decode cX8_ask 86 = .ok (.aload_n 0, 1) := bdX8_ask_86.1
theorem dX8_ask_87 : decode cX8_ask 87 = .ok (.iload 8, 2) := bdX8_ask_86.2.1
theorem dX8_ask_89 : decode cX8_ask 89 = .ok (.iload 4, 2) := bdX8_ask_86.2.2.1
theorem dX8_ask_91 : decode cX8_ask 91 = .ok (.invokevirtual 198, 3) := bdX8_ask_86.2.2.2.1
theorem dX8_ask_94 : decode cX8_ask 94 = .ok (.invokestatic 192, 3) := bdX8_ask_86.2.2.2.2.1
theorem dX8_ask_97 : decode cX8_ask 97 = .ok (.aload_n 0, 1) := bdX8_ask_86.2.2.2.2.2.1
theorem dX8_ask_98 : decode cX8_ask 98 = .ok (.iload 6, 2) := bdX8_ask_86.2.2.2.2.2.2.1
theorem dX8_ask_100 : decode cX8_ask 100 = .ok (.iload 4, 2) := bdX8_ask_86.2.2.2.2.2.2.2
theorem bdX8_ask_102 : decode cX8_ask 102 = .ok (.invokevirtual 198, 3) ∧ decode cX8_ask 105 = .ok (.invokestatic 192, 3) ∧ decode cX8_ask 108 = .ok (.if_icmp .ne 7, 3) ∧ decode cX8_ask 111 = .ok (.iconst 1, 1) ∧ decode cX8_ask 112 = .ok (.goto 4, 3) ∧ decode cX8_ask 115 = .ok (.iconst 0, 1) ∧ decode cX8_ask 116 = .ok (.iadd, 1) ∧ decode cX8_ask 117 = .ok (.istore 7, 2) := by decide +kernel
theorem dX8_ask_102 : decode cX8_ask 102 = .ok (.invokevirtual 198, 3) := bdX8_ask_102.1
theorem dX8_ask_105 : decode cX8_ask 105 = .ok (.invokestatic 192, 3) := bdX8_ask_102.2.1
theorem dX8_ask_108 : decode cX8_ask 108 = .ok (.if_icmp .ne 7, 3) := bdX8_ask_102.2.2.1
theorem dX8_ask_111 : decode cX8_ask 111 = .ok (.iconst 1, 1) := bdX8_ask_102.2.2.2.1
theorem dX8_ask_112 : decode cX8_ask 112 = .ok (.goto 4, 3) := bdX8_ask_102.2.2.2.2.1
theorem dX8_ask_115 : decode cX8_ask 115 = .ok (.iconst 0, 1) := bdX8_ask_102.2.2.2.2.2.1
theorem dX8_ask_116 : decode cX8_ask 116 = .ok (.iadd, 1) := bdX8_ask_102.2.2.2.2.2.2.1
theorem dX8_ask_117 : decode cX8_ask 117 = .ok (.istore 7, 2) := bdX8_ask_102.2.2.2.2.2.2.2
theorem bdX8_ask_119 : decode cX8_ask 119 = .ok (.iinc 8 1, 3) ∧ decode cX8_ask 122 = .ok (.goto (-67), 3) ∧ decode cX8_ask 125 = .ok (.iload 7, 2) ∧ decode cX8_ask 127 = .ok (.iload 5, 2) ∧ decode cX8_ask 129 = .ok (.if_icmp .le 8, 3) ∧ decode cX8_ask 132 = .ok (.iload 7, 2) ∧ decode cX8_ask 134 = .ok (.goto 5, 3) ∧ decode cX8_ask 137 = .ok (.iload 5, 2) := by decide +kernel
theorem dX8_ask_119 : decode cX8_ask 119 = .ok (.iinc 8 1, 3) := bdX8_ask_119.1
theorem dX8_ask_122 : decode cX8_ask 122 = .ok (.goto (-67), 3) := bdX8_ask_119.2.1
theorem dX8_ask_125 : decode cX8_ask 125 = .ok (.iload 7, 2) := bdX8_ask_119.2.2.1
theorem dX8_ask_127 : decode cX8_ask 127 = .ok (.iload 5, 2) := bdX8_ask_119.2.2.2.1
theorem dX8_ask_129 : decode cX8_ask 129 = .ok (.if_icmp .le 8, 3) := bdX8_ask_119.2.2.2.2.1
theorem dX8_ask_132 : decode cX8_ask 132 = .ok (.iload 7, 2) := bdX8_ask_119.2.2.2.2.2.1
theorem dX8_ask_134 : decode cX8_ask 134 = .ok (.goto 5, 3) := bdX8_ask_119.2.2.2.2.2.2.1
theorem dX8_ask_137 : decode cX8_ask 137 = .ok (.iload 5, 2) := bdX8_ask_119.2.2.2.2.2.2.2
theorem bdX8_ask_139 : decode cX8_ask 139 = .ok (.istore 5, 2) ∧ decode cX8_ask 141 = .ok (.iinc 6 1, 3) ∧ decode cX8_ask 144 = .ok (.goto (-106), 3) ∧ decode cX8_ask 147 = .ok (.iload_n 2, 1) ∧ decode cX8_ask 148 = .ok (.bipush (-9), 2) ∧ decode cX8_ask 150 = .ok (.if_icmp .eq 9, 3) ∧ decode cX8_ask 153 = .ok (.iload 5, 2) ∧ decode cX8_ask 155 = .ok (.iload_n 3, 1) := by decide +kernel
theorem dX8_ask_139 : decode cX8_ask 139 = .ok (.istore 5, 2) := bdX8_ask_139.1
theorem dX8_ask_141 : decode cX8_ask 141 = .ok (.iinc 6 1, 3) := bdX8_ask_139.2.1
theorem dX8_ask_144 : decode cX8_ask 144 = .ok (.goto (-106), 3) := bdX8_ask_139.2.2.1
theorem dX8_ask_147 : decode cX8_ask 147 = .ok (.iload_n 2, 1) := bdX8_ask_139.2.2.2.1
theorem dX8_ask_148 : decode cX8_ask 148 = .ok (.bipush (-9), 2) := bdX8_ask_139.2.2.2.2.1
theorem dX8_ask_150 : decode cX8_ask 150 = .ok (.if_icmp .eq 9, 3) := bdX8_ask_139.2.2.2.2.2.1
theorem dX8_ask_153 : decode cX8_ask 153 = .ok (.iload 5, 2) := bdX8_ask_139.2.2.2.2.2.2.1
theorem dX8_ask_155 : decode cX8_ask 155 = .ok (.iload_n 3, 1) := bdX8_ask_139.2.2.2.2.2.2.2
theorem bdX8_ask_156 : decode cX8_ask 156 = .ok (.if_icmp .ge 9, 3) ∧ decode cX8_ask 159 = .ok (.iload 4, 2) ∧ decode cX8_ask 161 = .ok (.istore_n 2, 1) ∧ decode cX8_ask 162 = .ok (.iload 5, 2) ∧ decode cX8_ask 164 = .ok (.istore_n 3, 1) ∧ decode cX8_ask 165 = .ok (.iinc 4 1, 3) ∧ decode cX8_ask 168 = .ok (.goto (-155), 3) ∧ decode cX8_ask 171 = .ok (.iload_n 2, 1) := by decide +kernel
theorem dX8_ask_156 : decode cX8_ask 156 = .ok (.if_icmp .ge 9, 3) := bdX8_ask_156.1
theorem dX8_ask_159 : decode cX8_ask 159 = .ok (.iload 4, 2) := bdX8_ask_156.2.1
theorem dX8_ask_161 : decode cX8_ask 161 = .ok (.istore_n 2, 1) := bdX8_ask_156.2.2.1
theorem dX8_ask_162 : decode cX8_ask 162 = .ok (.iload 5, 2) := bdX8_ask_156.2.2.2.1
theorem dX8_ask_164 : decode cX8_ask 164 = .ok (.istore_n 3, 1) := bdX8_ask_156.2.2.2.2.1
theorem dX8_ask_165 : decode cX8_ask 165 = .ok (.iinc 4 1, 3) := bdX8_ask_156.2.2.2.2.2.1
theorem dX8_ask_168 : decode cX8_ask 168 = .ok (.goto (-155), 3) := bdX8_ask_156.2.2.2.2.2.2.1
theorem dX8_ask_171 : decode cX8_ask 171 = .ok (.iload_n 2, 1) := bdX8_ask_156.2.2.2.2.2.2.2
theorem dX8_ask_172 : decode cX8_ask 172 = .ok (.ireturn, 1) := by decide +kernel
theorem bdX8_bodiesOf_0 : decode cX8_bodiesOf 0 = .ok (.iload_n 0, 1) ∧ decode cX8_bodiesOf 1 = .ok (.tableswitch 47 0 4 #[35, 37, 39, 41, 44], 35) ∧ decode cX8_bodiesOf 36 = .ok (.iconst 1, 1) ∧ decode cX8_bodiesOf 37 = .ok (.ireturn, 1) ∧ decode cX8_bodiesOf 38 = .ok (.iconst 3, 1) ∧ decode cX8_bodiesOf 39 = .ok (.ireturn, 1) ∧ decode cX8_bodiesOf 40 = .ok (.iconst 5, 1) ∧ decode cX8_bodiesOf 41 = .ok (.ireturn, 1) := by decide +kernel
theorem dX8_bodiesOf_0 : decode cX8_bodiesOf 0 = .ok (.iload_n 0, 1) := bdX8_bodiesOf_0.1
theorem dX8_bodiesOf_1 : decode cX8_bodiesOf 1 = .ok (.tableswitch 47 0 4 #[35, 37, 39, 41, 44], 35) := bdX8_bodiesOf_0.2.1
theorem dX8_bodiesOf_36 : decode cX8_bodiesOf 36 = .ok (.iconst 1, 1) := bdX8_bodiesOf_0.2.2.1
theorem dX8_bodiesOf_37 : decode cX8_bodiesOf 37 = .ok (.ireturn, 1) := bdX8_bodiesOf_0.2.2.2.1
theorem dX8_bodiesOf_38 : decode cX8_bodiesOf 38 = .ok (.iconst 3, 1) := bdX8_bodiesOf_0.2.2.2.2.1
theorem dX8_bodiesOf_39 : decode cX8_bodiesOf 39 = .ok (.ireturn, 1) := bdX8_bodiesOf_0.2.2.2.2.2.1
theorem dX8_bodiesOf_40 : decode cX8_bodiesOf 40 = .ok (.iconst 5, 1) := bdX8_bodiesOf_0.2.2.2.2.2.2.1
theorem dX8_bodiesOf_41 : decode cX8_bodiesOf 41 = .ok (.ireturn, 1) := bdX8_bodiesOf_0.2.2.2.2.2.2.2
theorem bdX8_bodiesOf_42 : decode cX8_bodiesOf 42 = .ok (.bipush 11, 2) ∧ decode cX8_bodiesOf 44 = .ok (.ireturn, 1) ∧ decode cX8_bodiesOf 45 = .ok (.bipush 21, 2) ∧ decode cX8_bodiesOf 47 = .ok (.ireturn, 1) ∧ decode cX8_bodiesOf 48 = .ok (.bipush 33, 2) ∧ decode cX8_bodiesOf 50 = .ok (.ireturn, 1) := by decide +kernel
theorem dX8_bodiesOf_42 : decode cX8_bodiesOf 42 = .ok (.bipush 11, 2) := bdX8_bodiesOf_42.1
theorem dX8_bodiesOf_44 : decode cX8_bodiesOf 44 = .ok (.ireturn, 1) := bdX8_bodiesOf_42.2.1
theorem dX8_bodiesOf_45 : decode cX8_bodiesOf 45 = .ok (.bipush 21, 2) := bdX8_bodiesOf_42.2.2.1
theorem dX8_bodiesOf_47 : decode cX8_bodiesOf 47 = .ok (.ireturn, 1) := bdX8_bodiesOf_42.2.2.2.1
theorem dX8_bodiesOf_48 : decode cX8_bodiesOf 48 = .ok (.bipush 33, 2) := bdX8_bodiesOf_42.2.2.2.2.1
theorem dX8_bodiesOf_50 : decode cX8_bodiesOf 50 = .ok (.ireturn, 1) := bdX8_bodiesOf_42.2.2.2.2.2
set_option maxRecDepth 20000 in
set_option maxRecDepth 100000 in
theorem ggX8_mark_X8_in : GoodIn wsX8_mark wsX8_in := goodIn_hd (goodIn_c ch_X8_mark hc_X8_mark ([.code yX8_in cX8_in 3 (some .boolean)] : List Cond) [(1, 8)] rfl (by decide +kernel)) (goodIn_c ch_X8_mark hc_X8_mark ([] : List Cond) [] rfl (by decide +kernel))
set_option maxRecDepth 20000 in
theorem gX8_mark_X8_in : GoodIn wsX8_mark (va_wsS RX8 72 yX8_in wsX8_in) := goodIn_app (goodIn_of _ (by decide +kernel)) ggX8_mark_X8_in
set_option maxRecDepth 20000 in
set_option maxRecDepth 100000 in
theorem ggX8_mark_X8_isOne : GoodIn wsX8_mark wsX8_isOne := goodIn_hd (goodIn_c ch_X8_mark hc_X8_mark ([.code yX8_isOne cX8_isOne 2 (some .boolean)] : List Cond) [(1, 12)] rfl (by decide +kernel)) (goodIn_app (goodIn_c ch_X8_mark hc_X8_mark ([.fieldLink RX8 13 "WordFletchersModel" "people" "[I", .methodLink RX8 72 yX8_in, .static yX8_in, .initialized RX8, .code yX8_in cX8_in 3 (some .boolean)] : List Cond) [(1, 13), (1, 5), (1, 6), (1, 7), (1, 8)] rfl (by decide +kernel)) (goodIn_sub (fun _ h => (List.mem_cons_of_mem _ (List.mem_append_right _ h))) gwX8))
set_option maxRecDepth 20000 in
theorem gX8_mark_X8_isOne : GoodIn wsX8_mark (wsV RX8 142 RX8 yX8_isOne wsX8_isOne) := goodIn_app (goodIn_of _ (by decide +kernel)) ggX8_mark_X8_isOne
set_option maxRecDepth 20000 in
set_option maxRecDepth 100000 in
theorem ggX8_mark_X8_bodiesOf : GoodIn wsX8_mark wsX8_bodiesOf := goodIn_hd (goodIn_c ch_X8_mark hc_X8_mark ([.code yX8_bodiesOf cX8_bodiesOf 1 (some .int)] : List Cond) [(1, 16)] rfl (by decide +kernel)) (goodIn_c ch_X8_mark hc_X8_mark ([] : List Cond) [] rfl (by decide +kernel))
set_option maxRecDepth 20000 in
theorem gX8_mark_X8_bodiesOf : GoodIn wsX8_mark (va_wsS RX8 204 yX8_bodiesOf wsX8_bodiesOf) := goodIn_app (goodIn_of _ (by decide +kernel)) ggX8_mark_X8_bodiesOf
set_option maxRecDepth 20000 in
set_option maxRecDepth 100000 in
theorem ggX8_mark_X8_has : GoodIn wsX8_mark wsX8_has := goodIn_hd (goodIn_c ch_X8_mark hc_X8_mark ([.code yX8_has cX8_has 2 (some .boolean)] : List Cond) [(1, 19)] rfl (by decide +kernel)) (goodIn_c ch_X8_mark hc_X8_mark ([] : List Cond) [] rfl (by decide +kernel))
set_option maxRecDepth 20000 in
theorem gX8_mark_X8_has : GoodIn wsX8_mark (va_wsS RX8 145 yX8_has wsX8_has) := goodIn_app (goodIn_of _ (by decide +kernel)) ggX8_mark_X8_has
set_option maxRecDepth 20000 in
set_option maxRecDepth 100000 in
theorem ggX8_mark_X8_one : GoodIn wsX8_mark wsX8_one := goodIn_hd (goodIn_c ch_X8_mark hc_X8_mark ([.code yX8_one cX8_one 5 (some .int)] : List Cond) [(1, 23)] rfl (by decide +kernel)) (goodIn_app (goodIn_c ch_X8_mark hc_X8_mark ([.fieldLink RX8 17 "WordFletchersModel" "place" "[I", .fieldLink RX8 20 "WordFletchersModel" "ear" "[I", .fieldLink RX8 23 "WordFletchersModel" "sayings" "[I", .fieldLink RX8 44 "WordFletchersModel" "now" "[I", .methodLink RX8 142 yX8_isOne, .instanceMethod yX8_isOne, .selects RX8 yX8_isOne yX8_isOne, .initialized RX8, .code yX8_isOne cX8_isOne 2 (some .boolean), .fieldLink RX8 13 "WordFletchersModel" "people" "[I", .methodLink RX8 72 yX8_in, .static yX8_in, .code yX8_in cX8_in 3 (some .boolean), .methodLink RX8 145 yX8_has, .static yX8_has, .code yX8_has cX8_has 2 (some .boolean)] : List Cond) [(1, 3), (2, 0), (2, 1), (1, 4), (1, 9), (1, 10), (1, 11), (1, 7), (1, 12), (1, 13), (1, 5), (1, 6), (1, 8), (1, 17), (1, 18), (1, 19)] rfl (by decide +kernel)) (goodIn_sub (fun _ h => (List.mem_cons_of_mem _ (List.mem_append_right _ h))) gwX8))
set_option maxRecDepth 20000 in
theorem gX8_mark_X8_one : GoodIn wsX8_mark (wsV RX8 213 RX8 yX8_one wsX8_one) := goodIn_app (goodIn_of _ (by decide +kernel)) ggX8_mark_X8_one
set_option maxRecDepth 20000 in
set_option maxRecDepth 100000 in
theorem ggX8_mark_X8_bitsOf : GoodIn wsX8_mark wsX8_bitsOf := goodIn_hd (goodIn_c ch_X8_mark hc_X8_mark ([.code yX8_bitsOf cX8_bitsOf 3 (some .int)] : List Cond) [(2, 4)] rfl (by decide +kernel)) (goodIn_c ch_X8_mark hc_X8_mark ([] : List Cond) [] rfl (by decide +kernel))
set_option maxRecDepth 20000 in
theorem gX8_mark_X8_bitsOf : GoodIn wsX8_mark (va_wsS RX8 192 yX8_bitsOf wsX8_bitsOf) := goodIn_app (goodIn_of _ (by decide +kernel)) ggX8_mark_X8_bitsOf
theorem bdX8_mark_0 : decode cX8_mark 0 = .ok (.iload_n 1, 1) ∧ decode cX8_mark 1 = .ok (.iconst 0, 1) ∧ decode cX8_mark 2 = .ok (.iconst 5, 1) ∧ decode cX8_mark 3 = .ok (.invokestatic 72, 3) ∧ decode cX8_mark 6 = .ok (.ifCond .eq 11, 3) ∧ decode cX8_mark 9 = .ok (.aload_n 0, 1) ∧ decode cX8_mark 10 = .ok (.iload_n 2, 1) ∧ decode cX8_mark 11 = .ok (.invokevirtual 142, 3) := by decide +kernel
theorem dX8_mark_0 : decode cX8_mark 0 = .ok (.iload_n 1, 1) := bdX8_mark_0.1
theorem dX8_mark_1 : decode cX8_mark 1 = .ok (.iconst 0, 1) := bdX8_mark_0.2.1
theorem dX8_mark_2 : decode cX8_mark 2 = .ok (.iconst 5, 1) := bdX8_mark_0.2.2.1
theorem dX8_mark_3 : decode cX8_mark 3 = .ok (.invokestatic 72, 3) := bdX8_mark_0.2.2.2.1
theorem dX8_mark_6 : decode cX8_mark 6 = .ok (.ifCond .eq 11, 3) := bdX8_mark_0.2.2.2.2.1
theorem dX8_mark_9 : decode cX8_mark 9 = .ok (.aload_n 0, 1) := bdX8_mark_0.2.2.2.2.2.1
theorem dX8_mark_10 : decode cX8_mark 10 = .ok (.iload_n 2, 1) := bdX8_mark_0.2.2.2.2.2.2.1
theorem dX8_mark_11 : decode cX8_mark 11 = .ok (.invokevirtual 142, 3) := bdX8_mark_0.2.2.2.2.2.2.2
theorem bdX8_mark_14 : decode cX8_mark 14 = .ok (.ifCond .ne 6, 3) ∧ decode cX8_mark 17 = .ok (.ldc 154, 2) ∧ decode cX8_mark 19 = .ok (.ireturn, 1) ∧ decode cX8_mark 20 = .ok (.iload_n 1, 1) ∧ decode cX8_mark 21 = .ok (.invokestatic 204, 3) ∧ decode cX8_mark 24 = .ok (.istore_n 3, 1) ∧ decode cX8_mark 25 = .ok (.lconst 1, 1) ∧ decode cX8_mark 26 = .ok (.lstore 4, 2) := by decide +kernel
theorem dX8_mark_14 : decode cX8_mark 14 = .ok (.ifCond .ne 6, 3) := bdX8_mark_14.1
theorem dX8_mark_17 : decode cX8_mark 17 = .ok (.ldc 154, 2) := bdX8_mark_14.2.1
theorem dX8_mark_19 : decode cX8_mark 19 = .ok (.ireturn, 1) := bdX8_mark_14.2.2.1
theorem dX8_mark_20 : decode cX8_mark 20 = .ok (.iload_n 1, 1) := bdX8_mark_14.2.2.2.1
theorem dX8_mark_21 : decode cX8_mark 21 = .ok (.invokestatic 204, 3) := bdX8_mark_14.2.2.2.2.1
theorem dX8_mark_24 : decode cX8_mark 24 = .ok (.istore_n 3, 1) := bdX8_mark_14.2.2.2.2.2.1
theorem dX8_mark_25 : decode cX8_mark 25 = .ok (.lconst 1, 1) := bdX8_mark_14.2.2.2.2.2.2.1
theorem dX8_mark_26 : decode cX8_mark 26 = .ok (.lstore 4, 2) := bdX8_mark_14.2.2.2.2.2.2.2
theorem bdX8_mark_28 : decode cX8_mark 28 = .ok (.iconst 0, 1) ∧ decode cX8_mark 29 = .ok (.istore 6, 2) ∧ decode cX8_mark 31 = .ok (.iload 6, 2) ∧ decode cX8_mark 33 = .ok (.bipush 6, 2) ∧ decode cX8_mark 35 = .ok (.if_icmp .ge 41, 3) ∧ decode cX8_mark 38 = .ok (.aload_n 0, 1) ∧ decode cX8_mark 39 = .ok (.dup, 1) ∧ decode cX8_mark 40 = .ok (.getfield 207, 3) := by decide +kernel
theorem dX8_mark_28 : decode cX8_mark 28 = .ok (.iconst 0, 1) := bdX8_mark_28.1
theorem dX8_mark_29 : decode cX8_mark 29 = .ok (.istore 6, 2) := bdX8_mark_28.2.1
theorem dX8_mark_31 : decode cX8_mark 31 = .ok (.iload 6, 2) := bdX8_mark_28.2.2.1
theorem dX8_mark_33 : decode cX8_mark 33 = .ok (.bipush 6, 2) := bdX8_mark_28.2.2.2.1
theorem dX8_mark_35 : decode cX8_mark 35 = .ok (.if_icmp .ge 41, 3) := bdX8_mark_28.2.2.2.2.1
theorem dX8_mark_38 : decode cX8_mark 38 = .ok (.aload_n 0, 1) := bdX8_mark_28.2.2.2.2.2.1
theorem dX8_mark_39 : decode cX8_mark 39 = .ok (.dup, 1) := bdX8_mark_28.2.2.2.2.2.2.1
theorem dX8_mark_40 : decode cX8_mark 40 = .ok (.getfield 207, 3) := bdX8_mark_28.2.2.2.2.2.2.2
theorem bdX8_mark_43 : decode cX8_mark 43 = .ok (.iload_n 3, 1) ∧ decode cX8_mark 44 = .ok (.iload 6, 2) ∧ decode cX8_mark 46 = .ok (.invokestatic 145, 3) ∧ decode cX8_mark 49 = .ok (.ifCond .eq 8, 3) ∧ decode cX8_mark 52 = .ok (.lload 4, 2) ∧ decode cX8_mark 54 = .ok (.goto 4, 3) ∧ decode cX8_mark 57 = .ok (.lconst 0, 1) ∧ decode cX8_mark 58 = .ok (.ladd, 1) := by decide +kernel
theorem dX8_mark_43 : decode cX8_mark 43 = .ok (.iload_n 3, 1) := bdX8_mark_43.1
theorem dX8_mark_44 : decode cX8_mark 44 = .ok (.iload 6, 2) := bdX8_mark_43.2.1
theorem dX8_mark_46 : decode cX8_mark 46 = .ok (.invokestatic 145, 3) := bdX8_mark_43.2.2.1
theorem dX8_mark_49 : decode cX8_mark 49 = .ok (.ifCond .eq 8, 3) := bdX8_mark_43.2.2.2.1
theorem dX8_mark_52 : decode cX8_mark 52 = .ok (.lload 4, 2) := bdX8_mark_43.2.2.2.2.1
theorem dX8_mark_54 : decode cX8_mark 54 = .ok (.goto 4, 3) := bdX8_mark_43.2.2.2.2.2.1
theorem dX8_mark_57 : decode cX8_mark 57 = .ok (.lconst 0, 1) := bdX8_mark_43.2.2.2.2.2.2.1
theorem dX8_mark_58 : decode cX8_mark 58 = .ok (.ladd, 1) := bdX8_mark_43.2.2.2.2.2.2.2
theorem bdX8_mark_59 : decode cX8_mark 59 = .ok (.putfield 207, 3) ∧ decode cX8_mark 62 = .ok (.lload 4, 2) ∧ decode cX8_mark 64 = .ok (.ldc2_w 211, 3) ∧ decode cX8_mark 67 = .ok (.lmul, 1) ∧ decode cX8_mark 68 = .ok (.lstore 4, 2) ∧ decode cX8_mark 70 = .ok (.iinc 6 1, 3) ∧ decode cX8_mark 73 = .ok (.goto (-42), 3) ∧ decode cX8_mark 76 = .ok (.aload_n 0, 1) := by decide +kernel
theorem dX8_mark_59 : decode cX8_mark 59 = .ok (.putfield 207, 3) := bdX8_mark_59.1
theorem dX8_mark_62 : decode cX8_mark 62 = .ok (.lload 4, 2) := bdX8_mark_59.2.1
theorem dX8_mark_64 : decode cX8_mark 64 = .ok (.ldc2_w 211, 3) := bdX8_mark_59.2.2.1
theorem dX8_mark_67 : decode cX8_mark 67 = .ok (.lmul, 1) := bdX8_mark_59.2.2.2.1
theorem dX8_mark_68 : decode cX8_mark 68 = .ok (.lstore 4, 2) := bdX8_mark_59.2.2.2.2.1
theorem dX8_mark_70 : decode cX8_mark 70 = .ok (.iinc 6 1, 3) := bdX8_mark_59.2.2.2.2.2.1
theorem dX8_mark_73 : decode cX8_mark 73 = .ok (.goto (-42), 3) := bdX8_mark_59.2.2.2.2.2.2.1
theorem dX8_mark_76 : decode cX8_mark 76 = .ok (.aload_n 0, 1) := bdX8_mark_59.2.2.2.2.2.2.2
theorem bdX8_mark_77 : decode cX8_mark 77 = .ok (.getfield 17, 3) ∧ decode cX8_mark 80 = .ok (.iload_n 2, 1) ∧ decode cX8_mark 81 = .ok (.iaload, 1) ∧ decode cX8_mark 82 = .ok (.istore 6, 2) ∧ decode cX8_mark 84 = .ok (.iload 6, 2) ∧ decode cX8_mark 86 = .ok (.iload_n 3, 1) ∧ decode cX8_mark 87 = .ok (.iconst 1, 1) ∧ decode cX8_mark 88 = .ok (.invokestatic 145, 3) := by decide +kernel
theorem dX8_mark_77 : decode cX8_mark 77 = .ok (.getfield 17, 3) := bdX8_mark_77.1
theorem dX8_mark_80 : decode cX8_mark 80 = .ok (.iload_n 2, 1) := bdX8_mark_77.2.1
theorem dX8_mark_81 : decode cX8_mark 81 = .ok (.iaload, 1) := bdX8_mark_77.2.2.1
theorem dX8_mark_82 : decode cX8_mark 82 = .ok (.istore 6, 2) := bdX8_mark_77.2.2.2.1
theorem dX8_mark_84 : decode cX8_mark 84 = .ok (.iload 6, 2) := bdX8_mark_77.2.2.2.2.1
theorem dX8_mark_86 : decode cX8_mark 86 = .ok (.iload_n 3, 1) := bdX8_mark_77.2.2.2.2.2.1
theorem dX8_mark_87 : decode cX8_mark 87 = .ok (.iconst 1, 1) := bdX8_mark_77.2.2.2.2.2.2.1
theorem dX8_mark_88 : decode cX8_mark 88 = .ok (.invokestatic 145, 3) := bdX8_mark_77.2.2.2.2.2.2.2
theorem bdX8_mark_91 : decode cX8_mark 91 = .ok (.ifCond .eq 15, 3) ∧ decode cX8_mark 94 = .ok (.aload_n 0, 1) ∧ decode cX8_mark 95 = .ok (.iload_n 2, 1) ∧ decode cX8_mark 96 = .ok (.iconst 2, 1) ∧ decode cX8_mark 97 = .ok (.invokevirtual 213, 3) ∧ decode cX8_mark 100 = .ok (.invokestatic 192, 3) ∧ decode cX8_mark 103 = .ok (.goto 4, 3) ∧ decode cX8_mark 106 = .ok (.iconst 0, 1) := by decide +kernel
theorem dX8_mark_91 : decode cX8_mark 91 = .ok (.ifCond .eq 15, 3) := bdX8_mark_91.1
theorem dX8_mark_94 : decode cX8_mark 94 = .ok (.aload_n 0, 1) := bdX8_mark_91.2.1
theorem dX8_mark_95 : decode cX8_mark 95 = .ok (.iload_n 2, 1) := bdX8_mark_91.2.2.1
theorem dX8_mark_96 : decode cX8_mark 96 = .ok (.iconst 2, 1) := bdX8_mark_91.2.2.2.1
theorem dX8_mark_97 : decode cX8_mark 97 = .ok (.invokevirtual 213, 3) := bdX8_mark_91.2.2.2.2.1
theorem dX8_mark_100 : decode cX8_mark 100 = .ok (.invokestatic 192, 3) := bdX8_mark_91.2.2.2.2.2.1
theorem dX8_mark_103 : decode cX8_mark 103 = .ok (.goto 4, 3) := bdX8_mark_91.2.2.2.2.2.2.1
theorem dX8_mark_106 : decode cX8_mark 106 = .ok (.iconst 0, 1) := bdX8_mark_91.2.2.2.2.2.2.2
theorem bdX8_mark_107 : decode cX8_mark 107 = .ok (.iadd, 1) ∧ decode cX8_mark 108 = .ok (.istore 6, 2) ∧ decode cX8_mark 110 = .ok (.iload 6, 2) ∧ decode cX8_mark 112 = .ok (.iload_n 3, 1) ∧ decode cX8_mark 113 = .ok (.iconst 2, 1) ∧ decode cX8_mark 114 = .ok (.invokestatic 145, 3) ∧ decode cX8_mark 117 = .ok (.ifCond .eq 12, 3) ∧ decode cX8_mark 120 = .ok (.aload_n 0, 1) := by decide +kernel
theorem dX8_mark_107 : decode cX8_mark 107 = .ok (.iadd, 1) := bdX8_mark_107.1
theorem dX8_mark_108 : decode cX8_mark 108 = .ok (.istore 6, 2) := bdX8_mark_107.2.1
theorem dX8_mark_110 : decode cX8_mark 110 = .ok (.iload 6, 2) := bdX8_mark_107.2.2.1
theorem dX8_mark_112 : decode cX8_mark 112 = .ok (.iload_n 3, 1) := bdX8_mark_107.2.2.2.1
theorem dX8_mark_113 : decode cX8_mark 113 = .ok (.iconst 2, 1) := bdX8_mark_107.2.2.2.2.1
theorem dX8_mark_114 : decode cX8_mark 114 = .ok (.invokestatic 145, 3) := bdX8_mark_107.2.2.2.2.2.1
theorem dX8_mark_117 : decode cX8_mark 117 = .ok (.ifCond .eq 12, 3) := bdX8_mark_107.2.2.2.2.2.2.1
theorem dX8_mark_120 : decode cX8_mark 120 = .ok (.aload_n 0, 1) := bdX8_mark_107.2.2.2.2.2.2.2
theorem bdX8_mark_121 : decode cX8_mark 121 = .ok (.getfield 44, 3) ∧ decode cX8_mark 124 = .ok (.iconst 1, 1) ∧ decode cX8_mark 125 = .ok (.iaload, 1) ∧ decode cX8_mark 126 = .ok (.goto 4, 3) ∧ decode cX8_mark 129 = .ok (.iconst 0, 1) ∧ decode cX8_mark 130 = .ok (.isub, 1) ∧ decode cX8_mark 131 = .ok (.istore 6, 2) ∧ decode cX8_mark 133 = .ok (.iload_n 3, 1) := by decide +kernel
theorem dX8_mark_121 : decode cX8_mark 121 = .ok (.getfield 44, 3) := bdX8_mark_121.1
theorem dX8_mark_124 : decode cX8_mark 124 = .ok (.iconst 1, 1) := bdX8_mark_121.2.1
theorem dX8_mark_125 : decode cX8_mark 125 = .ok (.iaload, 1) := bdX8_mark_121.2.2.1
theorem dX8_mark_126 : decode cX8_mark 126 = .ok (.goto 4, 3) := bdX8_mark_121.2.2.2.1
theorem dX8_mark_129 : decode cX8_mark 129 = .ok (.iconst 0, 1) := bdX8_mark_121.2.2.2.2.1
theorem dX8_mark_130 : decode cX8_mark 130 = .ok (.isub, 1) := bdX8_mark_121.2.2.2.2.2.1
theorem dX8_mark_131 : decode cX8_mark 131 = .ok (.istore 6, 2) := bdX8_mark_121.2.2.2.2.2.2.1
theorem dX8_mark_133 : decode cX8_mark 133 = .ok (.iload_n 3, 1) := bdX8_mark_121.2.2.2.2.2.2.2
theorem bdX8_mark_134 : decode cX8_mark 134 = .ok (.iconst 3, 1) ∧ decode cX8_mark 135 = .ok (.invokestatic 145, 3) ∧ decode cX8_mark 138 = .ok (.ifCond .eq 10, 3) ∧ decode cX8_mark 141 = .ok (.iconst 2, 1) ∧ decode cX8_mark 142 = .ok (.iload 6, 2) ∧ decode cX8_mark 144 = .ok (.imul, 1) ∧ decode cX8_mark 145 = .ok (.goto 5, 3) ∧ decode cX8_mark 148 = .ok (.iload 6, 2) := by decide +kernel
theorem dX8_mark_134 : decode cX8_mark 134 = .ok (.iconst 3, 1) := bdX8_mark_134.1
theorem dX8_mark_135 : decode cX8_mark 135 = .ok (.invokestatic 145, 3) := bdX8_mark_134.2.1
theorem dX8_mark_138 : decode cX8_mark 138 = .ok (.ifCond .eq 10, 3) := bdX8_mark_134.2.2.1
theorem dX8_mark_141 : decode cX8_mark 141 = .ok (.iconst 2, 1) := bdX8_mark_134.2.2.2.1
theorem dX8_mark_142 : decode cX8_mark 142 = .ok (.iload 6, 2) := bdX8_mark_134.2.2.2.2.1
theorem dX8_mark_144 : decode cX8_mark 144 = .ok (.imul, 1) := bdX8_mark_134.2.2.2.2.2.1
theorem dX8_mark_145 : decode cX8_mark 145 = .ok (.goto 5, 3) := bdX8_mark_134.2.2.2.2.2.2.1
theorem dX8_mark_148 : decode cX8_mark 148 = .ok (.iload 6, 2) := bdX8_mark_134.2.2.2.2.2.2.2
theorem bdX8_mark_150 : decode cX8_mark 150 = .ok (.istore 6, 2) ∧ decode cX8_mark 152 = .ok (.iload 6, 2) ∧ decode cX8_mark 154 = .ok (.iload_n 3, 1) ∧ decode cX8_mark 155 = .ok (.iconst 4, 1) ∧ decode cX8_mark 156 = .ok (.invokestatic 145, 3) ∧ decode cX8_mark 159 = .ok (.ifCond .eq 7, 3) ∧ decode cX8_mark 162 = .ok (.iload_n 2, 1) ∧ decode cX8_mark 163 = .ok (.goto 4, 3) := by decide +kernel
theorem dX8_mark_150 : decode cX8_mark 150 = .ok (.istore 6, 2) := bdX8_mark_150.1
theorem dX8_mark_152 : decode cX8_mark 152 = .ok (.iload 6, 2) := bdX8_mark_150.2.1
theorem dX8_mark_154 : decode cX8_mark 154 = .ok (.iload_n 3, 1) := bdX8_mark_150.2.2.1
theorem dX8_mark_155 : decode cX8_mark 155 = .ok (.iconst 4, 1) := bdX8_mark_150.2.2.2.1
theorem dX8_mark_156 : decode cX8_mark 156 = .ok (.invokestatic 145, 3) := bdX8_mark_150.2.2.2.2.1
theorem dX8_mark_159 : decode cX8_mark 159 = .ok (.ifCond .eq 7, 3) := bdX8_mark_150.2.2.2.2.2.1
theorem dX8_mark_162 : decode cX8_mark 162 = .ok (.iload_n 2, 1) := bdX8_mark_150.2.2.2.2.2.2.1
theorem dX8_mark_163 : decode cX8_mark 163 = .ok (.goto 4, 3) := bdX8_mark_150.2.2.2.2.2.2.2
theorem bdX8_mark_166 : decode cX8_mark 166 = .ok (.iconst 0, 1) ∧ decode cX8_mark 167 = .ok (.iadd, 1) ∧ decode cX8_mark 168 = .ok (.istore 6, 2) ∧ decode cX8_mark 170 = .ok (.iload 6, 2) ∧ decode cX8_mark 172 = .ok (.iload_n 3, 1) ∧ decode cX8_mark 173 = .ok (.iconst 5, 1) ∧ decode cX8_mark 174 = .ok (.invokestatic 145, 3) ∧ decode cX8_mark 177 = .ok (.ifCond .eq 33, 3) := by decide +kernel
theorem dX8_mark_166 : decode cX8_mark 166 = .ok (.iconst 0, 1) := bdX8_mark_166.1
theorem dX8_mark_167 : decode cX8_mark 167 = .ok (.iadd, 1) := bdX8_mark_166.2.1
theorem dX8_mark_168 : decode cX8_mark 168 = .ok (.istore 6, 2) := bdX8_mark_166.2.2.1
theorem dX8_mark_170 : decode cX8_mark 170 = .ok (.iload 6, 2) := bdX8_mark_166.2.2.2.1
theorem dX8_mark_172 : decode cX8_mark 172 = .ok (.iload_n 3, 1) := bdX8_mark_166.2.2.2.2.1
theorem dX8_mark_173 : decode cX8_mark 173 = .ok (.iconst 5, 1) := bdX8_mark_166.2.2.2.2.2.1
theorem dX8_mark_174 : decode cX8_mark 174 = .ok (.invokestatic 145, 3) := bdX8_mark_166.2.2.2.2.2.2.1
theorem dX8_mark_177 : decode cX8_mark 177 = .ok (.ifCond .eq 33, 3) := bdX8_mark_166.2.2.2.2.2.2.2
theorem bdX8_mark_180 : decode cX8_mark 180 = .ok (.aload_n 0, 1) ∧ decode cX8_mark 181 = .ok (.getfield 44, 3) ∧ decode cX8_mark 184 = .ok (.iconst 2, 1) ∧ decode cX8_mark 185 = .ok (.iaload, 1) ∧ decode cX8_mark 186 = .ok (.aload_n 0, 1) ∧ decode cX8_mark 187 = .ok (.getfield 44, 3) ∧ decode cX8_mark 190 = .ok (.iconst 3, 1) ∧ decode cX8_mark 191 = .ok (.iaload, 1) := by decide +kernel
theorem dX8_mark_180 : decode cX8_mark 180 = .ok (.aload_n 0, 1) := bdX8_mark_180.1
theorem dX8_mark_181 : decode cX8_mark 181 = .ok (.getfield 44, 3) := bdX8_mark_180.2.1
theorem dX8_mark_184 : decode cX8_mark 184 = .ok (.iconst 2, 1) := bdX8_mark_180.2.2.1
theorem dX8_mark_185 : decode cX8_mark 185 = .ok (.iaload, 1) := bdX8_mark_180.2.2.2.1
theorem dX8_mark_186 : decode cX8_mark 186 = .ok (.aload_n 0, 1) := bdX8_mark_180.2.2.2.2.1
theorem dX8_mark_187 : decode cX8_mark 187 = .ok (.getfield 44, 3) := bdX8_mark_180.2.2.2.2.2.1
theorem dX8_mark_190 : decode cX8_mark 190 = .ok (.iconst 3, 1) := bdX8_mark_180.2.2.2.2.2.2.1
theorem dX8_mark_191 : decode cX8_mark 191 = .ok (.iaload, 1) := bdX8_mark_180.2.2.2.2.2.2.2
theorem bdX8_mark_192 : decode cX8_mark 192 = .ok (.iadd, 1) ∧ decode cX8_mark 193 = .ok (.aload_n 0, 1) ∧ decode cX8_mark 194 = .ok (.getfield 44, 3) ∧ decode cX8_mark 197 = .ok (.iconst 4, 1) ∧ decode cX8_mark 198 = .ok (.iaload, 1) ∧ decode cX8_mark 199 = .ok (.iadd, 1) ∧ decode cX8_mark 200 = .ok (.aload_n 0, 1) ∧ decode cX8_mark 201 = .ok (.getfield 44, 3) := by decide +kernel
theorem dX8_mark_192 : decode cX8_mark 192 = .ok (.iadd, 1) := bdX8_mark_192.1
theorem dX8_mark_193 : decode cX8_mark 193 = .ok (.aload_n 0, 1) := bdX8_mark_192.2.1
theorem dX8_mark_194 : decode cX8_mark 194 = .ok (.getfield 44, 3) := bdX8_mark_192.2.2.1
theorem dX8_mark_197 : decode cX8_mark 197 = .ok (.iconst 4, 1) := bdX8_mark_192.2.2.2.1
theorem dX8_mark_198 : decode cX8_mark 198 = .ok (.iaload, 1) := bdX8_mark_192.2.2.2.2.1
theorem dX8_mark_199 : decode cX8_mark 199 = .ok (.iadd, 1) := bdX8_mark_192.2.2.2.2.2.1
theorem dX8_mark_200 : decode cX8_mark 200 = .ok (.aload_n 0, 1) := bdX8_mark_192.2.2.2.2.2.2.1
theorem dX8_mark_201 : decode cX8_mark 201 = .ok (.getfield 44, 3) := bdX8_mark_192.2.2.2.2.2.2.2
theorem bdX8_mark_204 : decode cX8_mark 204 = .ok (.iconst 5, 1) ∧ decode cX8_mark 205 = .ok (.iaload, 1) ∧ decode cX8_mark 206 = .ok (.iadd, 1) ∧ decode cX8_mark 207 = .ok (.goto 4, 3) ∧ decode cX8_mark 210 = .ok (.iconst 0, 1) ∧ decode cX8_mark 211 = .ok (.iadd, 1) ∧ decode cX8_mark 212 = .ok (.istore 6, 2) ∧ decode cX8_mark 214 = .ok (.iload 6, 2) := by decide +kernel
theorem dX8_mark_204 : decode cX8_mark 204 = .ok (.iconst 5, 1) := bdX8_mark_204.1
theorem dX8_mark_205 : decode cX8_mark 205 = .ok (.iaload, 1) := bdX8_mark_204.2.1
theorem dX8_mark_206 : decode cX8_mark 206 = .ok (.iadd, 1) := bdX8_mark_204.2.2.1
theorem dX8_mark_207 : decode cX8_mark 207 = .ok (.goto 4, 3) := bdX8_mark_204.2.2.2.1
theorem dX8_mark_210 : decode cX8_mark 210 = .ok (.iconst 0, 1) := bdX8_mark_204.2.2.2.2.1
theorem dX8_mark_211 : decode cX8_mark 211 = .ok (.iadd, 1) := bdX8_mark_204.2.2.2.2.2.1
theorem dX8_mark_212 : decode cX8_mark 212 = .ok (.istore 6, 2) := bdX8_mark_204.2.2.2.2.2.2.1
theorem dX8_mark_214 : decode cX8_mark 214 = .ok (.iload 6, 2) := bdX8_mark_204.2.2.2.2.2.2.2
theorem dX8_mark_216 : decode cX8_mark 216 = .ok (.ireturn, 1) := by decide +kernel
theorem bdX8_trace_0 : decode cX8_trace 0 = .ok (.aload_n 0, 1) ∧ decode cX8_trace 1 = .ok (.getfield 207, 3) ∧ decode cX8_trace 4 = .ok (.lreturn, 1) := by decide +kernel
theorem dX8_trace_0 : decode cX8_trace 0 = .ok (.aload_n 0, 1) := bdX8_trace_0.1
theorem dX8_trace_1 : decode cX8_trace 1 = .ok (.getfield 207, 3) := bdX8_trace_0.2.1
theorem dX8_trace_4 : decode cX8_trace 4 = .ok (.lreturn, 1) := bdX8_trace_0.2.2
set_option maxRecDepth 20000 in
set_option maxRecDepth 100000 in
theorem ggX8_keep_X8_in : GoodIn wsX8_keep wsX8_in := goodIn_hd (goodIn_c ch_X8_keep hc_X8_keep ([.code yX8_in cX8_in 3 (some .boolean)] : List Cond) [(1, 8)] rfl (by decide +kernel)) (goodIn_c ch_X8_keep hc_X8_keep ([] : List Cond) [] rfl (by decide +kernel))
set_option maxRecDepth 20000 in
theorem gX8_keep_X8_in : GoodIn wsX8_keep (va_wsS RX8 72 yX8_in wsX8_in) := goodIn_app (goodIn_of _ (by decide +kernel)) ggX8_keep_X8_in
theorem bdX8_keep_0 : decode cX8_keep 0 = .ok (.iload_n 1, 1) ∧ decode cX8_keep 1 = .ok (.iconst 0, 1) ∧ decode cX8_keep 2 = .ok (.iconst 1, 1) ∧ decode cX8_keep 3 = .ok (.invokestatic 72, 3) ∧ decode cX8_keep 6 = .ok (.ifCond .ne 5, 3) ∧ decode cX8_keep 9 = .ok (.iconst (-1), 1) ∧ decode cX8_keep 10 = .ok (.ireturn, 1) ∧ decode cX8_keep 11 = .ok (.iconst 0, 1) := by decide +kernel
theorem dX8_keep_0 : decode cX8_keep 0 = .ok (.iload_n 1, 1) := bdX8_keep_0.1
theorem dX8_keep_1 : decode cX8_keep 1 = .ok (.iconst 0, 1) := bdX8_keep_0.2.1
theorem dX8_keep_2 : decode cX8_keep 2 = .ok (.iconst 1, 1) := bdX8_keep_0.2.2.1
theorem dX8_keep_3 : decode cX8_keep 3 = .ok (.invokestatic 72, 3) := bdX8_keep_0.2.2.2.1
theorem dX8_keep_6 : decode cX8_keep 6 = .ok (.ifCond .ne 5, 3) := bdX8_keep_0.2.2.2.2.1
theorem dX8_keep_9 : decode cX8_keep 9 = .ok (.iconst (-1), 1) := bdX8_keep_0.2.2.2.2.2.1
theorem dX8_keep_10 : decode cX8_keep 10 = .ok (.ireturn, 1) := bdX8_keep_0.2.2.2.2.2.2.1
theorem dX8_keep_11 : decode cX8_keep 11 = .ok (.iconst 0, 1) := bdX8_keep_0.2.2.2.2.2.2.2
theorem bdX8_keep_12 : decode cX8_keep 12 = .ok (.istore_n 2, 1) ∧ decode cX8_keep 13 = .ok (.iload_n 2, 1) ∧ decode cX8_keep 14 = .ok (.bipush 29, 2) ∧ decode cX8_keep 16 = .ok (.if_icmp .ge 26, 3) ∧ decode cX8_keep 19 = .ok (.aload_n 0, 1) ∧ decode cX8_keep 20 = .ok (.getfield 53, 3) ∧ decode cX8_keep 23 = .ok (.bipush 29, 2) ∧ decode cX8_keep 25 = .ok (.iload_n 1, 1) := by decide +kernel
theorem dX8_keep_12 : decode cX8_keep 12 = .ok (.istore_n 2, 1) := bdX8_keep_12.1
theorem dX8_keep_13 : decode cX8_keep 13 = .ok (.iload_n 2, 1) := bdX8_keep_12.2.1
theorem dX8_keep_14 : decode cX8_keep 14 = .ok (.bipush 29, 2) := bdX8_keep_12.2.2.1
theorem dX8_keep_16 : decode cX8_keep 16 = .ok (.if_icmp .ge 26, 3) := bdX8_keep_12.2.2.2.1
theorem dX8_keep_19 : decode cX8_keep 19 = .ok (.aload_n 0, 1) := bdX8_keep_12.2.2.2.2.1
theorem dX8_keep_20 : decode cX8_keep 20 = .ok (.getfield 53, 3) := bdX8_keep_12.2.2.2.2.2.1
theorem dX8_keep_23 : decode cX8_keep 23 = .ok (.bipush 29, 2) := bdX8_keep_12.2.2.2.2.2.2.1
theorem dX8_keep_25 : decode cX8_keep 25 = .ok (.iload_n 1, 1) := bdX8_keep_12.2.2.2.2.2.2.2
theorem bdX8_keep_26 : decode cX8_keep 26 = .ok (.imul, 1) ∧ decode cX8_keep 27 = .ok (.iload_n 2, 1) ∧ decode cX8_keep 28 = .ok (.iadd, 1) ∧ decode cX8_keep 29 = .ok (.aload_n 0, 1) ∧ decode cX8_keep 30 = .ok (.getfield 44, 3) ∧ decode cX8_keep 33 = .ok (.iload_n 2, 1) ∧ decode cX8_keep 34 = .ok (.iaload, 1) ∧ decode cX8_keep 35 = .ok (.iastore, 1) := by decide +kernel
theorem dX8_keep_26 : decode cX8_keep 26 = .ok (.imul, 1) := bdX8_keep_26.1
theorem dX8_keep_27 : decode cX8_keep 27 = .ok (.iload_n 2, 1) := bdX8_keep_26.2.1
theorem dX8_keep_28 : decode cX8_keep 28 = .ok (.iadd, 1) := bdX8_keep_26.2.2.1
theorem dX8_keep_29 : decode cX8_keep 29 = .ok (.aload_n 0, 1) := bdX8_keep_26.2.2.2.1
theorem dX8_keep_30 : decode cX8_keep 30 = .ok (.getfield 44, 3) := bdX8_keep_26.2.2.2.2.1
theorem dX8_keep_33 : decode cX8_keep 33 = .ok (.iload_n 2, 1) := bdX8_keep_26.2.2.2.2.2.1
theorem dX8_keep_34 : decode cX8_keep 34 = .ok (.iaload, 1) := bdX8_keep_26.2.2.2.2.2.2.1
theorem dX8_keep_35 : decode cX8_keep 35 = .ok (.iastore, 1) := bdX8_keep_26.2.2.2.2.2.2.2
theorem bdX8_keep_36 : decode cX8_keep 36 = .ok (.iinc 2 1, 3) ∧ decode cX8_keep 39 = .ok (.goto (-26), 3) ∧ decode cX8_keep 42 = .ok (.iconst 0, 1) ∧ decode cX8_keep 43 = .ok (.istore_n 2, 1) ∧ decode cX8_keep 44 = .ok (.iload_n 2, 1) ∧ decode cX8_keep 45 = .ok (.sipush 290, 3) ∧ decode cX8_keep 48 = .ok (.if_icmp .ge 29, 3) ∧ decode cX8_keep 51 = .ok (.aload_n 0, 1) := by decide +kernel
theorem dX8_keep_36 : decode cX8_keep 36 = .ok (.iinc 2 1, 3) := bdX8_keep_36.1
theorem dX8_keep_39 : decode cX8_keep 39 = .ok (.goto (-26), 3) := bdX8_keep_36.2.1
theorem dX8_keep_42 : decode cX8_keep 42 = .ok (.iconst 0, 1) := bdX8_keep_36.2.2.1
theorem dX8_keep_43 : decode cX8_keep 43 = .ok (.istore_n 2, 1) := bdX8_keep_36.2.2.2.1
theorem dX8_keep_44 : decode cX8_keep 44 = .ok (.iload_n 2, 1) := bdX8_keep_36.2.2.2.2.1
theorem dX8_keep_45 : decode cX8_keep 45 = .ok (.sipush 290, 3) := bdX8_keep_36.2.2.2.2.2.1
theorem dX8_keep_48 : decode cX8_keep 48 = .ok (.if_icmp .ge 29, 3) := bdX8_keep_36.2.2.2.2.2.2.1
theorem dX8_keep_51 : decode cX8_keep 51 = .ok (.aload_n 0, 1) := bdX8_keep_36.2.2.2.2.2.2.2
theorem bdX8_keep_52 : decode cX8_keep 52 = .ok (.getfield 50, 3) ∧ decode cX8_keep 55 = .ok (.sipush 290, 3) ∧ decode cX8_keep 58 = .ok (.iconst 1, 1) ∧ decode cX8_keep 59 = .ok (.iload_n 1, 1) ∧ decode cX8_keep 60 = .ok (.iadd, 1) ∧ decode cX8_keep 61 = .ok (.imul, 1) ∧ decode cX8_keep 62 = .ok (.iload_n 2, 1) ∧ decode cX8_keep 63 = .ok (.iadd, 1) := by decide +kernel
theorem dX8_keep_52 : decode cX8_keep 52 = .ok (.getfield 50, 3) := bdX8_keep_52.1
theorem dX8_keep_55 : decode cX8_keep 55 = .ok (.sipush 290, 3) := bdX8_keep_52.2.1
theorem dX8_keep_58 : decode cX8_keep 58 = .ok (.iconst 1, 1) := bdX8_keep_52.2.2.1
theorem dX8_keep_59 : decode cX8_keep 59 = .ok (.iload_n 1, 1) := bdX8_keep_52.2.2.2.1
theorem dX8_keep_60 : decode cX8_keep 60 = .ok (.iadd, 1) := bdX8_keep_52.2.2.2.2.1
theorem dX8_keep_61 : decode cX8_keep 61 = .ok (.imul, 1) := bdX8_keep_52.2.2.2.2.2.1
theorem dX8_keep_62 : decode cX8_keep 62 = .ok (.iload_n 2, 1) := bdX8_keep_52.2.2.2.2.2.2.1
theorem dX8_keep_63 : decode cX8_keep 63 = .ok (.iadd, 1) := bdX8_keep_52.2.2.2.2.2.2.2
theorem bdX8_keep_64 : decode cX8_keep 64 = .ok (.aload_n 0, 1) ∧ decode cX8_keep 65 = .ok (.getfield 50, 3) ∧ decode cX8_keep 68 = .ok (.iload_n 2, 1) ∧ decode cX8_keep 69 = .ok (.iaload, 1) ∧ decode cX8_keep 70 = .ok (.iastore, 1) ∧ decode cX8_keep 71 = .ok (.iinc 2 1, 3) ∧ decode cX8_keep 74 = .ok (.goto (-30), 3) ∧ decode cX8_keep 77 = .ok (.aload_n 0, 1) := by decide +kernel
theorem dX8_keep_64 : decode cX8_keep 64 = .ok (.aload_n 0, 1) := bdX8_keep_64.1
theorem dX8_keep_65 : decode cX8_keep 65 = .ok (.getfield 50, 3) := bdX8_keep_64.2.1
theorem dX8_keep_68 : decode cX8_keep 68 = .ok (.iload_n 2, 1) := bdX8_keep_64.2.2.1
theorem dX8_keep_69 : decode cX8_keep 69 = .ok (.iaload, 1) := bdX8_keep_64.2.2.2.1
theorem dX8_keep_70 : decode cX8_keep 70 = .ok (.iastore, 1) := bdX8_keep_64.2.2.2.2.1
theorem dX8_keep_71 : decode cX8_keep 71 = .ok (.iinc 2 1, 3) := bdX8_keep_64.2.2.2.2.2.1
theorem dX8_keep_74 : decode cX8_keep 74 = .ok (.goto (-30), 3) := bdX8_keep_64.2.2.2.2.2.2.1
theorem dX8_keep_77 : decode cX8_keep 77 = .ok (.aload_n 0, 1) := bdX8_keep_64.2.2.2.2.2.2.2
theorem bdX8_keep_78 : decode cX8_keep 78 = .ok (.getfield 47, 3) ∧ decode cX8_keep 81 = .ok (.iconst 1, 1) ∧ decode cX8_keep 82 = .ok (.iload_n 1, 1) ∧ decode cX8_keep 83 = .ok (.iadd, 1) ∧ decode cX8_keep 84 = .ok (.aload_n 0, 1) ∧ decode cX8_keep 85 = .ok (.getfield 47, 3) ∧ decode cX8_keep 88 = .ok (.iconst 0, 1) ∧ decode cX8_keep 89 = .ok (.iaload, 1) := by decide +kernel
theorem dX8_keep_78 : decode cX8_keep 78 = .ok (.getfield 47, 3) := bdX8_keep_78.1
theorem dX8_keep_81 : decode cX8_keep 81 = .ok (.iconst 1, 1) := bdX8_keep_78.2.1
theorem dX8_keep_82 : decode cX8_keep 82 = .ok (.iload_n 1, 1) := bdX8_keep_78.2.2.1
theorem dX8_keep_83 : decode cX8_keep 83 = .ok (.iadd, 1) := bdX8_keep_78.2.2.2.1
theorem dX8_keep_84 : decode cX8_keep 84 = .ok (.aload_n 0, 1) := bdX8_keep_78.2.2.2.2.1
theorem dX8_keep_85 : decode cX8_keep 85 = .ok (.getfield 47, 3) := bdX8_keep_78.2.2.2.2.2.1
theorem dX8_keep_88 : decode cX8_keep 88 = .ok (.iconst 0, 1) := bdX8_keep_78.2.2.2.2.2.2.1
theorem dX8_keep_89 : decode cX8_keep 89 = .ok (.iaload, 1) := bdX8_keep_78.2.2.2.2.2.2.2
theorem bdX8_keep_90 : decode cX8_keep 90 = .ok (.iastore, 1) ∧ decode cX8_keep 91 = .ok (.aload_n 0, 1) ∧ decode cX8_keep 92 = .ok (.getfield 56, 3) ∧ decode cX8_keep 95 = .ok (.iload_n 1, 1) ∧ decode cX8_keep 96 = .ok (.iconst 1, 1) ∧ decode cX8_keep 97 = .ok (.bastore, 1) ∧ decode cX8_keep 98 = .ok (.aload_n 0, 1) ∧ decode cX8_keep 99 = .ok (.getfield 44, 3) := by decide +kernel
theorem dX8_keep_90 : decode cX8_keep 90 = .ok (.iastore, 1) := bdX8_keep_90.1
theorem dX8_keep_91 : decode cX8_keep 91 = .ok (.aload_n 0, 1) := bdX8_keep_90.2.1
theorem dX8_keep_92 : decode cX8_keep 92 = .ok (.getfield 56, 3) := bdX8_keep_90.2.2.1
theorem dX8_keep_95 : decode cX8_keep 95 = .ok (.iload_n 1, 1) := bdX8_keep_90.2.2.2.1
theorem dX8_keep_96 : decode cX8_keep 96 = .ok (.iconst 1, 1) := bdX8_keep_90.2.2.2.2.1
theorem dX8_keep_97 : decode cX8_keep 97 = .ok (.bastore, 1) := bdX8_keep_90.2.2.2.2.2.1
theorem dX8_keep_98 : decode cX8_keep 98 = .ok (.aload_n 0, 1) := bdX8_keep_90.2.2.2.2.2.2.1
theorem dX8_keep_99 : decode cX8_keep 99 = .ok (.getfield 44, 3) := bdX8_keep_90.2.2.2.2.2.2.2
theorem bdX8_keep_102 : decode cX8_keep 102 = .ok (.iconst 0, 1) ∧ decode cX8_keep 103 = .ok (.iaload, 1) ∧ decode cX8_keep 104 = .ok (.ireturn, 1) := by decide +kernel
theorem dX8_keep_102 : decode cX8_keep 102 = .ok (.iconst 0, 1) := bdX8_keep_102.1
theorem dX8_keep_103 : decode cX8_keep 103 = .ok (.iaload, 1) := bdX8_keep_102.2.1
theorem dX8_keep_104 : decode cX8_keep 104 = .ok (.ireturn, 1) := bdX8_keep_102.2.2
set_option maxRecDepth 20000 in
set_option maxRecDepth 100000 in
theorem ggX8_back_X8_in : GoodIn wsX8_back wsX8_in := goodIn_hd (goodIn_c ch_X8_back hc_X8_back ([.code yX8_in cX8_in 3 (some .boolean)] : List Cond) [(1, 8)] rfl (by decide +kernel)) (goodIn_c ch_X8_back hc_X8_back ([] : List Cond) [] rfl (by decide +kernel))
set_option maxRecDepth 20000 in
theorem gX8_back_X8_in : GoodIn wsX8_back (va_wsS RX8 72 yX8_in wsX8_in) := goodIn_app (goodIn_of _ (by decide +kernel)) ggX8_back_X8_in
theorem bdX8_back_0 : decode cX8_back 0 = .ok (.iload_n 1, 1) ∧ decode cX8_back 1 = .ok (.iconst 0, 1) ∧ decode cX8_back 2 = .ok (.iconst 1, 1) ∧ decode cX8_back 3 = .ok (.invokestatic 72, 3) ∧ decode cX8_back 6 = .ok (.ifCond .ne 5, 3) ∧ decode cX8_back 9 = .ok (.iconst (-1), 1) ∧ decode cX8_back 10 = .ok (.ireturn, 1) ∧ decode cX8_back 11 = .ok (.aload_n 0, 1) := by decide +kernel
theorem dX8_back_0 : decode cX8_back 0 = .ok (.iload_n 1, 1) := bdX8_back_0.1
theorem dX8_back_1 : decode cX8_back 1 = .ok (.iconst 0, 1) := bdX8_back_0.2.1
theorem dX8_back_2 : decode cX8_back 2 = .ok (.iconst 1, 1) := bdX8_back_0.2.2.1
theorem dX8_back_3 : decode cX8_back 3 = .ok (.invokestatic 72, 3) := bdX8_back_0.2.2.2.1
theorem dX8_back_6 : decode cX8_back 6 = .ok (.ifCond .ne 5, 3) := bdX8_back_0.2.2.2.2.1
theorem dX8_back_9 : decode cX8_back 9 = .ok (.iconst (-1), 1) := bdX8_back_0.2.2.2.2.2.1
theorem dX8_back_10 : decode cX8_back 10 = .ok (.ireturn, 1) := bdX8_back_0.2.2.2.2.2.2.1
theorem dX8_back_11 : decode cX8_back 11 = .ok (.aload_n 0, 1) := bdX8_back_0.2.2.2.2.2.2.2
theorem bdX8_back_12 : decode cX8_back 12 = .ok (.getfield 56, 3) ∧ decode cX8_back 15 = .ok (.iload_n 1, 1) ∧ decode cX8_back 16 = .ok (.baload, 1) ∧ decode cX8_back 17 = .ok (.ifCond .ne 6, 3) ∧ decode cX8_back 20 = .ok (.bipush (-2), 2) ∧ decode cX8_back 22 = .ok (.ireturn, 1) ∧ decode cX8_back 23 = .ok (.iconst 0, 1) ∧ decode cX8_back 24 = .ok (.istore_n 2, 1) := by decide +kernel
theorem dX8_back_12 : decode cX8_back 12 = .ok (.getfield 56, 3) := bdX8_back_12.1
theorem dX8_back_15 : decode cX8_back 15 = .ok (.iload_n 1, 1) := bdX8_back_12.2.1
theorem dX8_back_16 : decode cX8_back 16 = .ok (.baload, 1) := bdX8_back_12.2.2.1
theorem dX8_back_17 : decode cX8_back 17 = .ok (.ifCond .ne 6, 3) := bdX8_back_12.2.2.2.1
theorem dX8_back_20 : decode cX8_back 20 = .ok (.bipush (-2), 2) := bdX8_back_12.2.2.2.2.1
theorem dX8_back_22 : decode cX8_back 22 = .ok (.ireturn, 1) := bdX8_back_12.2.2.2.2.2.1
theorem dX8_back_23 : decode cX8_back 23 = .ok (.iconst 0, 1) := bdX8_back_12.2.2.2.2.2.2.1
theorem dX8_back_24 : decode cX8_back 24 = .ok (.istore_n 2, 1) := bdX8_back_12.2.2.2.2.2.2.2
theorem bdX8_back_25 : decode cX8_back 25 = .ok (.iload_n 2, 1) ∧ decode cX8_back 26 = .ok (.bipush 29, 2) ∧ decode cX8_back 28 = .ok (.if_icmp .ge 26, 3) ∧ decode cX8_back 31 = .ok (.aload_n 0, 1) ∧ decode cX8_back 32 = .ok (.getfield 44, 3) ∧ decode cX8_back 35 = .ok (.iload_n 2, 1) ∧ decode cX8_back 36 = .ok (.aload_n 0, 1) ∧ decode cX8_back 37 = .ok (.getfield 53, 3) := by decide +kernel
theorem dX8_back_25 : decode cX8_back 25 = .ok (.iload_n 2, 1) := bdX8_back_25.1
theorem dX8_back_26 : decode cX8_back 26 = .ok (.bipush 29, 2) := bdX8_back_25.2.1
theorem dX8_back_28 : decode cX8_back 28 = .ok (.if_icmp .ge 26, 3) := bdX8_back_25.2.2.1
theorem dX8_back_31 : decode cX8_back 31 = .ok (.aload_n 0, 1) := bdX8_back_25.2.2.2.1
theorem dX8_back_32 : decode cX8_back 32 = .ok (.getfield 44, 3) := bdX8_back_25.2.2.2.2.1
theorem dX8_back_35 : decode cX8_back 35 = .ok (.iload_n 2, 1) := bdX8_back_25.2.2.2.2.2.1
theorem dX8_back_36 : decode cX8_back 36 = .ok (.aload_n 0, 1) := bdX8_back_25.2.2.2.2.2.2.1
theorem dX8_back_37 : decode cX8_back 37 = .ok (.getfield 53, 3) := bdX8_back_25.2.2.2.2.2.2.2
theorem bdX8_back_40 : decode cX8_back 40 = .ok (.bipush 29, 2) ∧ decode cX8_back 42 = .ok (.iload_n 1, 1) ∧ decode cX8_back 43 = .ok (.imul, 1) ∧ decode cX8_back 44 = .ok (.iload_n 2, 1) ∧ decode cX8_back 45 = .ok (.iadd, 1) ∧ decode cX8_back 46 = .ok (.iaload, 1) ∧ decode cX8_back 47 = .ok (.iastore, 1) ∧ decode cX8_back 48 = .ok (.iinc 2 1, 3) := by decide +kernel
theorem dX8_back_40 : decode cX8_back 40 = .ok (.bipush 29, 2) := bdX8_back_40.1
theorem dX8_back_42 : decode cX8_back 42 = .ok (.iload_n 1, 1) := bdX8_back_40.2.1
theorem dX8_back_43 : decode cX8_back 43 = .ok (.imul, 1) := bdX8_back_40.2.2.1
theorem dX8_back_44 : decode cX8_back 44 = .ok (.iload_n 2, 1) := bdX8_back_40.2.2.2.1
theorem dX8_back_45 : decode cX8_back 45 = .ok (.iadd, 1) := bdX8_back_40.2.2.2.2.1
theorem dX8_back_46 : decode cX8_back 46 = .ok (.iaload, 1) := bdX8_back_40.2.2.2.2.2.1
theorem dX8_back_47 : decode cX8_back 47 = .ok (.iastore, 1) := bdX8_back_40.2.2.2.2.2.2.1
theorem dX8_back_48 : decode cX8_back 48 = .ok (.iinc 2 1, 3) := bdX8_back_40.2.2.2.2.2.2.2
theorem bdX8_back_51 : decode cX8_back 51 = .ok (.goto (-26), 3) ∧ decode cX8_back 54 = .ok (.iconst 0, 1) ∧ decode cX8_back 55 = .ok (.istore_n 2, 1) ∧ decode cX8_back 56 = .ok (.iload_n 2, 1) ∧ decode cX8_back 57 = .ok (.sipush 290, 3) ∧ decode cX8_back 60 = .ok (.if_icmp .ge 29, 3) ∧ decode cX8_back 63 = .ok (.aload_n 0, 1) ∧ decode cX8_back 64 = .ok (.getfield 50, 3) := by decide +kernel
theorem dX8_back_51 : decode cX8_back 51 = .ok (.goto (-26), 3) := bdX8_back_51.1
theorem dX8_back_54 : decode cX8_back 54 = .ok (.iconst 0, 1) := bdX8_back_51.2.1
theorem dX8_back_55 : decode cX8_back 55 = .ok (.istore_n 2, 1) := bdX8_back_51.2.2.1
theorem dX8_back_56 : decode cX8_back 56 = .ok (.iload_n 2, 1) := bdX8_back_51.2.2.2.1
theorem dX8_back_57 : decode cX8_back 57 = .ok (.sipush 290, 3) := bdX8_back_51.2.2.2.2.1
theorem dX8_back_60 : decode cX8_back 60 = .ok (.if_icmp .ge 29, 3) := bdX8_back_51.2.2.2.2.2.1
theorem dX8_back_63 : decode cX8_back 63 = .ok (.aload_n 0, 1) := bdX8_back_51.2.2.2.2.2.2.1
theorem dX8_back_64 : decode cX8_back 64 = .ok (.getfield 50, 3) := bdX8_back_51.2.2.2.2.2.2.2
theorem bdX8_back_67 : decode cX8_back 67 = .ok (.iload_n 2, 1) ∧ decode cX8_back 68 = .ok (.aload_n 0, 1) ∧ decode cX8_back 69 = .ok (.getfield 50, 3) ∧ decode cX8_back 72 = .ok (.sipush 290, 3) ∧ decode cX8_back 75 = .ok (.iconst 1, 1) ∧ decode cX8_back 76 = .ok (.iload_n 1, 1) ∧ decode cX8_back 77 = .ok (.iadd, 1) ∧ decode cX8_back 78 = .ok (.imul, 1) := by decide +kernel
theorem dX8_back_67 : decode cX8_back 67 = .ok (.iload_n 2, 1) := bdX8_back_67.1
theorem dX8_back_68 : decode cX8_back 68 = .ok (.aload_n 0, 1) := bdX8_back_67.2.1
theorem dX8_back_69 : decode cX8_back 69 = .ok (.getfield 50, 3) := bdX8_back_67.2.2.1
theorem dX8_back_72 : decode cX8_back 72 = .ok (.sipush 290, 3) := bdX8_back_67.2.2.2.1
theorem dX8_back_75 : decode cX8_back 75 = .ok (.iconst 1, 1) := bdX8_back_67.2.2.2.2.1
theorem dX8_back_76 : decode cX8_back 76 = .ok (.iload_n 1, 1) := bdX8_back_67.2.2.2.2.2.1
theorem dX8_back_77 : decode cX8_back 77 = .ok (.iadd, 1) := bdX8_back_67.2.2.2.2.2.2.1
theorem dX8_back_78 : decode cX8_back 78 = .ok (.imul, 1) := bdX8_back_67.2.2.2.2.2.2.2
theorem bdX8_back_79 : decode cX8_back 79 = .ok (.iload_n 2, 1) ∧ decode cX8_back 80 = .ok (.iadd, 1) ∧ decode cX8_back 81 = .ok (.iaload, 1) ∧ decode cX8_back 82 = .ok (.iastore, 1) ∧ decode cX8_back 83 = .ok (.iinc 2 1, 3) ∧ decode cX8_back 86 = .ok (.goto (-30), 3) ∧ decode cX8_back 89 = .ok (.aload_n 0, 1) ∧ decode cX8_back 90 = .ok (.getfield 47, 3) := by decide +kernel
theorem dX8_back_79 : decode cX8_back 79 = .ok (.iload_n 2, 1) := bdX8_back_79.1
theorem dX8_back_80 : decode cX8_back 80 = .ok (.iadd, 1) := bdX8_back_79.2.1
theorem dX8_back_81 : decode cX8_back 81 = .ok (.iaload, 1) := bdX8_back_79.2.2.1
theorem dX8_back_82 : decode cX8_back 82 = .ok (.iastore, 1) := bdX8_back_79.2.2.2.1
theorem dX8_back_83 : decode cX8_back 83 = .ok (.iinc 2 1, 3) := bdX8_back_79.2.2.2.2.1
theorem dX8_back_86 : decode cX8_back 86 = .ok (.goto (-30), 3) := bdX8_back_79.2.2.2.2.2.1
theorem dX8_back_89 : decode cX8_back 89 = .ok (.aload_n 0, 1) := bdX8_back_79.2.2.2.2.2.2.1
theorem dX8_back_90 : decode cX8_back 90 = .ok (.getfield 47, 3) := bdX8_back_79.2.2.2.2.2.2.2
theorem bdX8_back_93 : decode cX8_back 93 = .ok (.iconst 0, 1) ∧ decode cX8_back 94 = .ok (.aload_n 0, 1) ∧ decode cX8_back 95 = .ok (.getfield 47, 3) ∧ decode cX8_back 98 = .ok (.iconst 1, 1) ∧ decode cX8_back 99 = .ok (.iload_n 1, 1) ∧ decode cX8_back 100 = .ok (.iadd, 1) ∧ decode cX8_back 101 = .ok (.iaload, 1) ∧ decode cX8_back 102 = .ok (.iastore, 1) := by decide +kernel
theorem dX8_back_93 : decode cX8_back 93 = .ok (.iconst 0, 1) := bdX8_back_93.1
theorem dX8_back_94 : decode cX8_back 94 = .ok (.aload_n 0, 1) := bdX8_back_93.2.1
theorem dX8_back_95 : decode cX8_back 95 = .ok (.getfield 47, 3) := bdX8_back_93.2.2.1
theorem dX8_back_98 : decode cX8_back 98 = .ok (.iconst 1, 1) := bdX8_back_93.2.2.2.1
theorem dX8_back_99 : decode cX8_back 99 = .ok (.iload_n 1, 1) := bdX8_back_93.2.2.2.2.1
theorem dX8_back_100 : decode cX8_back 100 = .ok (.iadd, 1) := bdX8_back_93.2.2.2.2.2.1
theorem dX8_back_101 : decode cX8_back 101 = .ok (.iaload, 1) := bdX8_back_93.2.2.2.2.2.2.1
theorem dX8_back_102 : decode cX8_back 102 = .ok (.iastore, 1) := bdX8_back_93.2.2.2.2.2.2.2
theorem bdX8_back_103 : decode cX8_back 103 = .ok (.aload_n 0, 1) ∧ decode cX8_back 104 = .ok (.getfield 44, 3) ∧ decode cX8_back 107 = .ok (.iconst 0, 1) ∧ decode cX8_back 108 = .ok (.iaload, 1) ∧ decode cX8_back 109 = .ok (.ireturn, 1) := by decide +kernel
theorem dX8_back_103 : decode cX8_back 103 = .ok (.aload_n 0, 1) := bdX8_back_103.1
theorem dX8_back_104 : decode cX8_back 104 = .ok (.getfield 44, 3) := bdX8_back_103.2.1
theorem dX8_back_107 : decode cX8_back 107 = .ok (.iconst 0, 1) := bdX8_back_103.2.2.1
theorem dX8_back_108 : decode cX8_back 108 = .ok (.iaload, 1) := bdX8_back_103.2.2.2.1
theorem dX8_back_109 : decode cX8_back 109 = .ok (.ireturn, 1) := bdX8_back_103.2.2.2.2
theorem bdX8_count_0 : decode cX8_count 0 = .ok (.iload_n 1, 1) ∧ decode cX8_count 1 = .ok (.tableswitch 77 0 5 #[39, 46, 53, 60, 65, 72], 39) ∧ decode cX8_count 40 = .ok (.aload_n 0, 1) ∧ decode cX8_count 41 = .ok (.getfield 13, 3) ∧ decode cX8_count 44 = .ok (.iconst 0, 1) ∧ decode cX8_count 45 = .ok (.iaload, 1) ∧ decode cX8_count 46 = .ok (.ireturn, 1) ∧ decode cX8_count 47 = .ok (.aload_n 0, 1) := by decide +kernel
theorem dX8_count_0 : decode cX8_count 0 = .ok (.iload_n 1, 1) := bdX8_count_0.1
theorem dX8_count_1 : decode cX8_count 1 = .ok (.tableswitch 77 0 5 #[39, 46, 53, 60, 65, 72], 39) := bdX8_count_0.2.1
theorem dX8_count_40 : decode cX8_count 40 = .ok (.aload_n 0, 1) := bdX8_count_0.2.2.1
theorem dX8_count_41 : decode cX8_count 41 = .ok (.getfield 13, 3) := bdX8_count_0.2.2.2.1
theorem dX8_count_44 : decode cX8_count 44 = .ok (.iconst 0, 1) := bdX8_count_0.2.2.2.2.1
theorem dX8_count_45 : decode cX8_count 45 = .ok (.iaload, 1) := bdX8_count_0.2.2.2.2.2.1
theorem dX8_count_46 : decode cX8_count 46 = .ok (.ireturn, 1) := bdX8_count_0.2.2.2.2.2.2.1
theorem dX8_count_47 : decode cX8_count 47 = .ok (.aload_n 0, 1) := bdX8_count_0.2.2.2.2.2.2.2
theorem bdX8_count_48 : decode cX8_count 48 = .ok (.getfield 23, 3) ∧ decode cX8_count 51 = .ok (.iconst 0, 1) ∧ decode cX8_count 52 = .ok (.iaload, 1) ∧ decode cX8_count 53 = .ok (.ireturn, 1) ∧ decode cX8_count 54 = .ok (.aload_n 0, 1) ∧ decode cX8_count 55 = .ok (.getfield 35, 3) ∧ decode cX8_count 58 = .ok (.iconst 0, 1) ∧ decode cX8_count 59 = .ok (.iaload, 1) := by decide +kernel
theorem dX8_count_48 : decode cX8_count 48 = .ok (.getfield 23, 3) := bdX8_count_48.1
theorem dX8_count_51 : decode cX8_count 51 = .ok (.iconst 0, 1) := bdX8_count_48.2.1
theorem dX8_count_52 : decode cX8_count 52 = .ok (.iaload, 1) := bdX8_count_48.2.2.1
theorem dX8_count_53 : decode cX8_count 53 = .ok (.ireturn, 1) := bdX8_count_48.2.2.2.1
theorem dX8_count_54 : decode cX8_count 54 = .ok (.aload_n 0, 1) := bdX8_count_48.2.2.2.2.1
theorem dX8_count_55 : decode cX8_count 55 = .ok (.getfield 35, 3) := bdX8_count_48.2.2.2.2.2.1
theorem dX8_count_58 : decode cX8_count 58 = .ok (.iconst 0, 1) := bdX8_count_48.2.2.2.2.2.2.1
theorem dX8_count_59 : decode cX8_count 59 = .ok (.iaload, 1) := bdX8_count_48.2.2.2.2.2.2.2
theorem bdX8_count_60 : decode cX8_count 60 = .ok (.ireturn, 1) ∧ decode cX8_count 61 = .ok (.aload_n 0, 1) ∧ decode cX8_count 62 = .ok (.getfield 131, 3) ∧ decode cX8_count 65 = .ok (.ireturn, 1) ∧ decode cX8_count 66 = .ok (.aload_n 0, 1) ∧ decode cX8_count 67 = .ok (.getfield 47, 3) ∧ decode cX8_count 70 = .ok (.iconst 0, 1) ∧ decode cX8_count 71 = .ok (.iaload, 1) := by decide +kernel
theorem dX8_count_60 : decode cX8_count 60 = .ok (.ireturn, 1) := bdX8_count_60.1
theorem dX8_count_61 : decode cX8_count 61 = .ok (.aload_n 0, 1) := bdX8_count_60.2.1
theorem dX8_count_62 : decode cX8_count 62 = .ok (.getfield 131, 3) := bdX8_count_60.2.2.1
theorem dX8_count_65 : decode cX8_count 65 = .ok (.ireturn, 1) := bdX8_count_60.2.2.2.1
theorem dX8_count_66 : decode cX8_count 66 = .ok (.aload_n 0, 1) := bdX8_count_60.2.2.2.2.1
theorem dX8_count_67 : decode cX8_count 67 = .ok (.getfield 47, 3) := bdX8_count_60.2.2.2.2.2.1
theorem dX8_count_70 : decode cX8_count 70 = .ok (.iconst 0, 1) := bdX8_count_60.2.2.2.2.2.2.1
theorem dX8_count_71 : decode cX8_count 71 = .ok (.iaload, 1) := bdX8_count_60.2.2.2.2.2.2.2
theorem bdX8_count_72 : decode cX8_count 72 = .ok (.ireturn, 1) ∧ decode cX8_count 73 = .ok (.aload_n 0, 1) ∧ decode cX8_count 74 = .ok (.getfield 76, 3) ∧ decode cX8_count 77 = .ok (.ireturn, 1) ∧ decode cX8_count 78 = .ok (.iconst (-1), 1) ∧ decode cX8_count 79 = .ok (.ireturn, 1) := by decide +kernel
theorem dX8_count_72 : decode cX8_count 72 = .ok (.ireturn, 1) := bdX8_count_72.1
theorem dX8_count_73 : decode cX8_count 73 = .ok (.aload_n 0, 1) := bdX8_count_72.2.1
theorem dX8_count_74 : decode cX8_count 74 = .ok (.getfield 76, 3) := bdX8_count_72.2.2.1
theorem dX8_count_77 : decode cX8_count 77 = .ok (.ireturn, 1) := bdX8_count_72.2.2.2.1
theorem dX8_count_78 : decode cX8_count 78 = .ok (.iconst (-1), 1) := bdX8_count_72.2.2.2.2.1
theorem dX8_count_79 : decode cX8_count 79 = .ok (.ireturn, 1) := bdX8_count_72.2.2.2.2.2
