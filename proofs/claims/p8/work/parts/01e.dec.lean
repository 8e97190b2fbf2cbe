theorem dGX12_0 : decode cX12_init 0 = .ok (.aload_n 0, 1) ∧ decode cX12_init 1 = .ok (.invokespecial 1, 3) ∧ decode cX12_init 4 = .ok (.aload_n 0, 1) ∧ decode cX12_init 5 = .ok (.sipush 220, 3) ∧ decode cX12_init 8 = .ok (.newarray .byte, 2) ∧ decode cX12_init 10 = .ok (.putfield 7, 3) := by decide +kernel
theorem dX12_init_0 : decode cX12_init 0 = .ok (.aload_n 0, 1) := dGX12_0.1
theorem dX12_init_1 : decode cX12_init 1 = .ok (.invokespecial 1, 3) := dGX12_0.2.1
theorem dX12_init_4 : decode cX12_init 4 = .ok (.aload_n 0, 1) := dGX12_0.2.2.1
theorem dX12_init_5 : decode cX12_init 5 = .ok (.sipush 220, 3) := dGX12_0.2.2.2.1
theorem dX12_init_8 : decode cX12_init 8 = .ok (.newarray .byte, 2) := dGX12_0.2.2.2.2.1
theorem dX12_init_10 : decode cX12_init 10 = .ok (.putfield 7, 3) := dGX12_0.2.2.2.2.2
theorem dGX12_1 : decode cX12_init 13 = .ok (.aload_n 0, 1) ∧ decode cX12_init 14 = .ok (.iconst 1, 1) ∧ decode cX12_init 15 = .ok (.putfield 13, 3) ∧ decode cX12_init 18 = .ok (.aload_n 0, 1) ∧ decode cX12_init 19 = .ok (.bipush 10, 2) ∧ decode cX12_init 21 = .ok (.newarray .int, 2) := by decide +kernel
theorem dX12_init_13 : decode cX12_init 13 = .ok (.aload_n 0, 1) := dGX12_1.1
theorem dX12_init_14 : decode cX12_init 14 = .ok (.iconst 1, 1) := dGX12_1.2.1
theorem dX12_init_15 : decode cX12_init 15 = .ok (.putfield 13, 3) := dGX12_1.2.2.1
theorem dX12_init_18 : decode cX12_init 18 = .ok (.aload_n 0, 1) := dGX12_1.2.2.2.1
theorem dX12_init_19 : decode cX12_init 19 = .ok (.bipush 10, 2) := dGX12_1.2.2.2.2.1
theorem dX12_init_21 : decode cX12_init 21 = .ok (.newarray .int, 2) := dGX12_1.2.2.2.2.2
theorem dGX12_2 : decode cX12_init 23 = .ok (.putfield 17, 3) ∧ decode cX12_init 26 = .ok (.aload_n 0, 1) ∧ decode cX12_init 27 = .ok (.bipush 10, 2) ∧ decode cX12_init 29 = .ok (.newarray .int, 2) ∧ decode cX12_init 31 = .ok (.putfield 21, 3) ∧ decode cX12_init 34 = .ok (.aload_n 0, 1) := by decide +kernel
theorem dX12_init_23 : decode cX12_init 23 = .ok (.putfield 17, 3) := dGX12_2.1
theorem dX12_init_26 : decode cX12_init 26 = .ok (.aload_n 0, 1) := dGX12_2.2.1
theorem dX12_init_27 : decode cX12_init 27 = .ok (.bipush 10, 2) := dGX12_2.2.2.1
theorem dX12_init_29 : decode cX12_init 29 = .ok (.newarray .int, 2) := dGX12_2.2.2.2.1
theorem dX12_init_31 : decode cX12_init 31 = .ok (.putfield 21, 3) := dGX12_2.2.2.2.2.1
theorem dX12_init_34 : decode cX12_init 34 = .ok (.aload_n 0, 1) := dGX12_2.2.2.2.2.2
theorem dGX12_3 : decode cX12_init 35 = .ok (.bipush 10, 2) ∧ decode cX12_init 37 = .ok (.newarray .int, 2) ∧ decode cX12_init 39 = .ok (.putfield 24, 3) ∧ decode cX12_init 42 = .ok (.aload_n 0, 1) ∧ decode cX12_init 43 = .ok (.bipush 8, 2) ∧ decode cX12_init 45 = .ok (.newarray .int, 2) := by decide +kernel
theorem dX12_init_35 : decode cX12_init 35 = .ok (.bipush 10, 2) := dGX12_3.1
theorem dX12_init_37 : decode cX12_init 37 = .ok (.newarray .int, 2) := dGX12_3.2.1
theorem dX12_init_39 : decode cX12_init 39 = .ok (.putfield 24, 3) := dGX12_3.2.2.1
theorem dX12_init_42 : decode cX12_init 42 = .ok (.aload_n 0, 1) := dGX12_3.2.2.2.1
theorem dX12_init_43 : decode cX12_init 43 = .ok (.bipush 8, 2) := dGX12_3.2.2.2.2.1
theorem dX12_init_45 : decode cX12_init 45 = .ok (.newarray .int, 2) := dGX12_3.2.2.2.2.2
theorem dGX12_4 : decode cX12_init 47 = .ok (.putfield 27, 3) ∧ decode cX12_init 50 = .ok (.aload_n 0, 1) ∧ decode cX12_init 51 = .ok (.bipush 8, 2) ∧ decode cX12_init 53 = .ok (.newarray .int, 2) ∧ decode cX12_init 55 = .ok (.putfield 30, 3) ∧ decode cX12_init 58 = .ok (.aload_n 0, 1) := by decide +kernel
theorem dX12_init_47 : decode cX12_init 47 = .ok (.putfield 27, 3) := dGX12_4.1
theorem dX12_init_50 : decode cX12_init 50 = .ok (.aload_n 0, 1) := dGX12_4.2.1
theorem dX12_init_51 : decode cX12_init 51 = .ok (.bipush 8, 2) := dGX12_4.2.2.1
theorem dX12_init_53 : decode cX12_init 53 = .ok (.newarray .int, 2) := dGX12_4.2.2.2.1
theorem dX12_init_55 : decode cX12_init 55 = .ok (.putfield 30, 3) := dGX12_4.2.2.2.2.1
theorem dX12_init_58 : decode cX12_init 58 = .ok (.aload_n 0, 1) := dGX12_4.2.2.2.2.2
theorem dGX12_5 : decode cX12_init 59 = .ok (.bipush 40, 2) ∧ decode cX12_init 61 = .ok (.newarray .int, 2) ∧ decode cX12_init 63 = .ok (.putfield 33, 3) ∧ decode cX12_init 66 = .ok (.aload_n 0, 1) ∧ decode cX12_init 67 = .ok (.bipush 8, 2) ∧ decode cX12_init 69 = .ok (.newarray .boolean, 2) := by decide +kernel
theorem dX12_init_59 : decode cX12_init 59 = .ok (.bipush 40, 2) := dGX12_5.1
theorem dX12_init_61 : decode cX12_init 61 = .ok (.newarray .int, 2) := dGX12_5.2.1
theorem dX12_init_63 : decode cX12_init 63 = .ok (.putfield 33, 3) := dGX12_5.2.2.1
theorem dX12_init_66 : decode cX12_init 66 = .ok (.aload_n 0, 1) := dGX12_5.2.2.2.1
theorem dX12_init_67 : decode cX12_init 67 = .ok (.bipush 8, 2) := dGX12_5.2.2.2.2.1
theorem dX12_init_69 : decode cX12_init 69 = .ok (.newarray .boolean, 2) := dGX12_5.2.2.2.2.2
theorem dGX12_6 : decode cX12_init 71 = .ok (.putfield 36, 3) ∧ decode cX12_init 74 = .ok (.aload_n 0, 1) ∧ decode cX12_init 75 = .ok (.bipush 8, 2) ∧ decode cX12_init 77 = .ok (.newarray .int, 2) ∧ decode cX12_init 79 = .ok (.putfield 40, 3) ∧ decode cX12_init 82 = .ok (.aload_n 0, 1) := by decide +kernel
theorem dX12_init_71 : decode cX12_init 71 = .ok (.putfield 36, 3) := dGX12_6.1
theorem dX12_init_74 : decode cX12_init 74 = .ok (.aload_n 0, 1) := dGX12_6.2.1
theorem dX12_init_75 : decode cX12_init 75 = .ok (.bipush 8, 2) := dGX12_6.2.2.1
theorem dX12_init_77 : decode cX12_init 77 = .ok (.newarray .int, 2) := dGX12_6.2.2.2.1
theorem dX12_init_79 : decode cX12_init 79 = .ok (.putfield 40, 3) := dGX12_6.2.2.2.2.1
theorem dX12_init_82 : decode cX12_init 82 = .ok (.aload_n 0, 1) := dGX12_6.2.2.2.2.2
theorem dGX12_7 : decode cX12_init 83 = .ok (.bipush 8, 2) ∧ decode cX12_init 85 = .ok (.newarray .int, 2) ∧ decode cX12_init 87 = .ok (.putfield 43, 3) ∧ decode cX12_init 90 = .ok (.aload_n 0, 1) ∧ decode cX12_init 91 = .ok (.bipush 8, 2) ∧ decode cX12_init 93 = .ok (.newarray .int, 2) := by decide +kernel
theorem dX12_init_83 : decode cX12_init 83 = .ok (.bipush 8, 2) := dGX12_7.1
theorem dX12_init_85 : decode cX12_init 85 = .ok (.newarray .int, 2) := dGX12_7.2.1
theorem dX12_init_87 : decode cX12_init 87 = .ok (.putfield 43, 3) := dGX12_7.2.2.1
theorem dX12_init_90 : decode cX12_init 90 = .ok (.aload_n 0, 1) := dGX12_7.2.2.2.1
theorem dX12_init_91 : decode cX12_init 91 = .ok (.bipush 8, 2) := dGX12_7.2.2.2.2.1
theorem dX12_init_93 : decode cX12_init 93 = .ok (.newarray .int, 2) := dGX12_7.2.2.2.2.2
theorem dGX12_8 : decode cX12_init 95 = .ok (.putfield 46, 3) ∧ decode cX12_init 98 = .ok (.aload_n 0, 1) ∧ decode cX12_init 99 = .ok (.bipush 8, 2) ∧ decode cX12_init 101 = .ok (.newarray .boolean, 2) ∧ decode cX12_init 103 = .ok (.putfield 49, 3) ∧ decode cX12_init 106 = .ok (.aload_n 0, 1) := by decide +kernel
theorem dX12_init_95 : decode cX12_init 95 = .ok (.putfield 46, 3) := dGX12_8.1
theorem dX12_init_98 : decode cX12_init 98 = .ok (.aload_n 0, 1) := dGX12_8.2.1
theorem dX12_init_99 : decode cX12_init 99 = .ok (.bipush 8, 2) := dGX12_8.2.2.1
theorem dX12_init_101 : decode cX12_init 101 = .ok (.newarray .boolean, 2) := dGX12_8.2.2.2.1
theorem dX12_init_103 : decode cX12_init 103 = .ok (.putfield 49, 3) := dGX12_8.2.2.2.2.1
theorem dX12_init_106 : decode cX12_init 106 = .ok (.aload_n 0, 1) := dGX12_8.2.2.2.2.2
theorem dGX12_9 : decode cX12_init 107 = .ok (.bipush 8, 2) ∧ decode cX12_init 109 = .ok (.newarray .int, 2) ∧ decode cX12_init 111 = .ok (.putfield 52, 3) ∧ decode cX12_init 114 = .ok (.aload_n 0, 1) ∧ decode cX12_init 115 = .ok (.bipush 64, 2) ∧ decode cX12_init 117 = .ok (.newarray .int, 2) := by decide +kernel
theorem dX12_init_107 : decode cX12_init 107 = .ok (.bipush 8, 2) := dGX12_9.1
theorem dX12_init_109 : decode cX12_init 109 = .ok (.newarray .int, 2) := dGX12_9.2.1
theorem dX12_init_111 : decode cX12_init 111 = .ok (.putfield 52, 3) := dGX12_9.2.2.1
theorem dX12_init_114 : decode cX12_init 114 = .ok (.aload_n 0, 1) := dGX12_9.2.2.2.1
theorem dX12_init_115 : decode cX12_init 115 = .ok (.bipush 64, 2) := dGX12_9.2.2.2.2.1
theorem dX12_init_117 : decode cX12_init 117 = .ok (.newarray .int, 2) := dGX12_9.2.2.2.2.2
theorem dGX12_10 : decode cX12_init 119 = .ok (.putfield 55, 3) ∧ decode cX12_init 122 = .ok (.aload_n 0, 1) ∧ decode cX12_init 123 = .ok (.bipush 64, 2) ∧ decode cX12_init 125 = .ok (.newarray .int, 2) ∧ decode cX12_init 127 = .ok (.putfield 58, 3) ∧ decode cX12_init 130 = .ok (.aload_n 0, 1) := by decide +kernel
theorem dX12_init_119 : decode cX12_init 119 = .ok (.putfield 55, 3) := dGX12_10.1
theorem dX12_init_122 : decode cX12_init 122 = .ok (.aload_n 0, 1) := dGX12_10.2.1
theorem dX12_init_123 : decode cX12_init 123 = .ok (.bipush 64, 2) := dGX12_10.2.2.1
theorem dX12_init_125 : decode cX12_init 125 = .ok (.newarray .int, 2) := dGX12_10.2.2.2.1
theorem dX12_init_127 : decode cX12_init 127 = .ok (.putfield 58, 3) := dGX12_10.2.2.2.2.1
theorem dX12_init_130 : decode cX12_init 130 = .ok (.aload_n 0, 1) := dGX12_10.2.2.2.2.2
theorem dGX12_11 : decode cX12_init 131 = .ok (.bipush 100, 2) ∧ decode cX12_init 133 = .ok (.newarray .boolean, 2) ∧ decode cX12_init 135 = .ok (.putfield 61, 3) ∧ decode cX12_init 138 = .ok (.aload_n 0, 1) ∧ decode cX12_init 139 = .ok (.bipush 14, 2) ∧ decode cX12_init 141 = .ok (.newarray .int, 2) := by decide +kernel
theorem dX12_init_131 : decode cX12_init 131 = .ok (.bipush 100, 2) := dGX12_11.1
theorem dX12_init_133 : decode cX12_init 133 = .ok (.newarray .boolean, 2) := dGX12_11.2.1
theorem dX12_init_135 : decode cX12_init 135 = .ok (.putfield 61, 3) := dGX12_11.2.2.1
theorem dX12_init_138 : decode cX12_init 138 = .ok (.aload_n 0, 1) := dGX12_11.2.2.2.1
theorem dX12_init_139 : decode cX12_init 139 = .ok (.bipush 14, 2) := dGX12_11.2.2.2.2.1
theorem dX12_init_141 : decode cX12_init 141 = .ok (.newarray .int, 2) := dGX12_11.2.2.2.2.2
theorem dGX12_12 : decode cX12_init 143 = .ok (.putfield 64, 3) ∧ decode cX12_init 146 = .ok (.aload_n 0, 1) ∧ decode cX12_init 147 = .ok (.bipush 14, 2) ∧ decode cX12_init 149 = .ok (.newarray .int, 2) ∧ decode cX12_init 151 = .ok (.putfield 67, 3) ∧ decode cX12_init 154 = .ok (.aload_n 0, 1) := by decide +kernel
theorem dX12_init_143 : decode cX12_init 143 = .ok (.putfield 64, 3) := dGX12_12.1
theorem dX12_init_146 : decode cX12_init 146 = .ok (.aload_n 0, 1) := dGX12_12.2.1
theorem dX12_init_147 : decode cX12_init 147 = .ok (.bipush 14, 2) := dGX12_12.2.2.1
theorem dX12_init_149 : decode cX12_init 149 = .ok (.newarray .int, 2) := dGX12_12.2.2.2.1
theorem dX12_init_151 : decode cX12_init 151 = .ok (.putfield 67, 3) := dGX12_12.2.2.2.2.1
theorem dX12_init_154 : decode cX12_init 154 = .ok (.aload_n 0, 1) := dGX12_12.2.2.2.2.2
theorem dGX12_13 : decode cX12_init 155 = .ok (.bipush 14, 2) ∧ decode cX12_init 157 = .ok (.newarray .int, 2) ∧ decode cX12_init 159 = .ok (.putfield 70, 3) ∧ decode cX12_init 162 = .ok (.aload_n 0, 1) ∧ decode cX12_init 163 = .ok (.bipush 14, 2) ∧ decode cX12_init 165 = .ok (.newarray .int, 2) := by decide +kernel
theorem dX12_init_155 : decode cX12_init 155 = .ok (.bipush 14, 2) := dGX12_13.1
theorem dX12_init_157 : decode cX12_init 157 = .ok (.newarray .int, 2) := dGX12_13.2.1
theorem dX12_init_159 : decode cX12_init 159 = .ok (.putfield 70, 3) := dGX12_13.2.2.1
theorem dX12_init_162 : decode cX12_init 162 = .ok (.aload_n 0, 1) := dGX12_13.2.2.2.1
theorem dX12_init_163 : decode cX12_init 163 = .ok (.bipush 14, 2) := dGX12_13.2.2.2.2.1
theorem dX12_init_165 : decode cX12_init 165 = .ok (.newarray .int, 2) := dGX12_13.2.2.2.2.2
theorem dGX12_14 : decode cX12_init 167 = .ok (.putfield 73, 3) ∧ decode cX12_init 170 = .ok (.aload_n 0, 1) ∧ decode cX12_init 171 = .ok (.sipush 200, 3) ∧ decode cX12_init 174 = .ok (.newarray .int, 2) ∧ decode cX12_init 176 = .ok (.putfield 76, 3) ∧ decode cX12_init 179 = .ok (.aload_n 0, 1) := by decide +kernel
theorem dX12_init_167 : decode cX12_init 167 = .ok (.putfield 73, 3) := dGX12_14.1
theorem dX12_init_170 : decode cX12_init 170 = .ok (.aload_n 0, 1) := dGX12_14.2.1
theorem dX12_init_171 : decode cX12_init 171 = .ok (.sipush 200, 3) := dGX12_14.2.2.1
theorem dX12_init_174 : decode cX12_init 174 = .ok (.newarray .int, 2) := dGX12_14.2.2.2.1
theorem dX12_init_176 : decode cX12_init 176 = .ok (.putfield 76, 3) := dGX12_14.2.2.2.2.1
theorem dX12_init_179 : decode cX12_init 179 = .ok (.aload_n 0, 1) := dGX12_14.2.2.2.2.2
theorem dGX12_15 : decode cX12_init 180 = .ok (.sipush 200, 3) ∧ decode cX12_init 183 = .ok (.newarray .int, 2) ∧ decode cX12_init 185 = .ok (.putfield 79, 3) ∧ decode cX12_init 188 = .ok (.aload_n 0, 1) ∧ decode cX12_init 189 = .ok (.bipush 14, 2) ∧ decode cX12_init 191 = .ok (.newarray .int, 2) := by decide +kernel
theorem dX12_init_180 : decode cX12_init 180 = .ok (.sipush 200, 3) := dGX12_15.1
theorem dX12_init_183 : decode cX12_init 183 = .ok (.newarray .int, 2) := dGX12_15.2.1
theorem dX12_init_185 : decode cX12_init 185 = .ok (.putfield 79, 3) := dGX12_15.2.2.1
theorem dX12_init_188 : decode cX12_init 188 = .ok (.aload_n 0, 1) := dGX12_15.2.2.2.1
theorem dX12_init_189 : decode cX12_init 189 = .ok (.bipush 14, 2) := dGX12_15.2.2.2.2.1
theorem dX12_init_191 : decode cX12_init 191 = .ok (.newarray .int, 2) := dGX12_15.2.2.2.2.2
theorem dGX12_16 : decode cX12_init 193 = .ok (.putfield 82, 3) ∧ decode cX12_init 196 = .ok (.aload_n 0, 1) ∧ decode cX12_init 197 = .ok (.bipush 14, 2) ∧ decode cX12_init 199 = .ok (.newarray .int, 2) ∧ decode cX12_init 201 = .ok (.putfield 85, 3) ∧ decode cX12_init 204 = .ok (.aload_n 0, 1) := by decide +kernel
theorem dX12_init_193 : decode cX12_init 193 = .ok (.putfield 82, 3) := dGX12_16.1
theorem dX12_init_196 : decode cX12_init 196 = .ok (.aload_n 0, 1) := dGX12_16.2.1
theorem dX12_init_197 : decode cX12_init 197 = .ok (.bipush 14, 2) := dGX12_16.2.2.1
theorem dX12_init_199 : decode cX12_init 199 = .ok (.newarray .int, 2) := dGX12_16.2.2.2.1
theorem dX12_init_201 : decode cX12_init 201 = .ok (.putfield 85, 3) := dGX12_16.2.2.2.2.1
theorem dX12_init_204 : decode cX12_init 204 = .ok (.aload_n 0, 1) := dGX12_16.2.2.2.2.2
theorem dGX12_17 : decode cX12_init 205 = .ok (.bipush 14, 2) ∧ decode cX12_init 207 = .ok (.newarray .int, 2) ∧ decode cX12_init 209 = .ok (.putfield 88, 3) ∧ decode cX12_init 212 = .ok (.aload_n 0, 1) ∧ decode cX12_init 213 = .ok (.bipush 14, 2) ∧ decode cX12_init 215 = .ok (.newarray .int, 2) := by decide +kernel
theorem dX12_init_205 : decode cX12_init 205 = .ok (.bipush 14, 2) := dGX12_17.1
theorem dX12_init_207 : decode cX12_init 207 = .ok (.newarray .int, 2) := dGX12_17.2.1
theorem dX12_init_209 : decode cX12_init 209 = .ok (.putfield 88, 3) := dGX12_17.2.2.1
theorem dX12_init_212 : decode cX12_init 212 = .ok (.aload_n 0, 1) := dGX12_17.2.2.2.1
theorem dX12_init_213 : decode cX12_init 213 = .ok (.bipush 14, 2) := dGX12_17.2.2.2.2.1
theorem dX12_init_215 : decode cX12_init 215 = .ok (.newarray .int, 2) := dGX12_17.2.2.2.2.2
theorem dGX12_18 : decode cX12_init 217 = .ok (.putfield 91, 3) ∧ decode cX12_init 220 = .ok (.aload_n 0, 1) ∧ decode cX12_init 221 = .ok (.sipush 200, 3) ∧ decode cX12_init 224 = .ok (.newarray .int, 2) ∧ decode cX12_init 226 = .ok (.putfield 94, 3) ∧ decode cX12_init 229 = .ok (.aload_n 0, 1) := by decide +kernel
theorem dX12_init_217 : decode cX12_init 217 = .ok (.putfield 91, 3) := dGX12_18.1
theorem dX12_init_220 : decode cX12_init 220 = .ok (.aload_n 0, 1) := dGX12_18.2.1
theorem dX12_init_221 : decode cX12_init 221 = .ok (.sipush 200, 3) := dGX12_18.2.2.1
theorem dX12_init_224 : decode cX12_init 224 = .ok (.newarray .int, 2) := dGX12_18.2.2.2.1
theorem dX12_init_226 : decode cX12_init 226 = .ok (.putfield 94, 3) := dGX12_18.2.2.2.2.1
theorem dX12_init_229 : decode cX12_init 229 = .ok (.aload_n 0, 1) := dGX12_18.2.2.2.2.2
theorem dGX12_19 : decode cX12_init 230 = .ok (.sipush 200, 3) ∧ decode cX12_init 233 = .ok (.newarray .int, 2) ∧ decode cX12_init 235 = .ok (.putfield 97, 3) ∧ decode cX12_init 238 = .ok (.aload_n 0, 1) ∧ decode cX12_init 239 = .ok (.sipush 240, 3) ∧ decode cX12_init 242 = .ok (.newarray .int, 2) := by decide +kernel
theorem dX12_init_230 : decode cX12_init 230 = .ok (.sipush 200, 3) := dGX12_19.1
theorem dX12_init_233 : decode cX12_init 233 = .ok (.newarray .int, 2) := dGX12_19.2.1
theorem dX12_init_235 : decode cX12_init 235 = .ok (.putfield 97, 3) := dGX12_19.2.2.1
theorem dX12_init_238 : decode cX12_init 238 = .ok (.aload_n 0, 1) := dGX12_19.2.2.2.1
theorem dX12_init_239 : decode cX12_init 239 = .ok (.sipush 240, 3) := dGX12_19.2.2.2.2.1
theorem dX12_init_242 : decode cX12_init 242 = .ok (.newarray .int, 2) := dGX12_19.2.2.2.2.2
theorem dGX12_20 : decode cX12_init 244 = .ok (.putfield 100, 3) ∧ decode cX12_init 247 = .ok (.aload_n 0, 1) ∧ decode cX12_init 248 = .ok (.sipush 240, 3) ∧ decode cX12_init 251 = .ok (.newarray .int, 2) ∧ decode cX12_init 253 = .ok (.putfield 103, 3) ∧ decode cX12_init 256 = .ok (.aload_n 0, 1) := by decide +kernel
theorem dX12_init_244 : decode cX12_init 244 = .ok (.putfield 100, 3) := dGX12_20.1
theorem dX12_init_247 : decode cX12_init 247 = .ok (.aload_n 0, 1) := dGX12_20.2.1
theorem dX12_init_248 : decode cX12_init 248 = .ok (.sipush 240, 3) := dGX12_20.2.2.1
theorem dX12_init_251 : decode cX12_init 251 = .ok (.newarray .int, 2) := dGX12_20.2.2.2.1
theorem dX12_init_253 : decode cX12_init 253 = .ok (.putfield 103, 3) := dGX12_20.2.2.2.2.1
theorem dX12_init_256 : decode cX12_init 256 = .ok (.aload_n 0, 1) := dGX12_20.2.2.2.2.2
theorem dGX12_21 : decode cX12_init 257 = .ok (.sipush 240, 3) ∧ decode cX12_init 260 = .ok (.newarray .boolean, 2) ∧ decode cX12_init 262 = .ok (.putfield 106, 3) ∧ decode cX12_init 265 = .ok (.aload_n 0, 1) ∧ decode cX12_init 266 = .ok (.bipush 20, 2) ∧ decode cX12_init 268 = .ok (.newarray .int, 2) := by decide +kernel
theorem dX12_init_257 : decode cX12_init 257 = .ok (.sipush 240, 3) := dGX12_21.1
theorem dX12_init_260 : decode cX12_init 260 = .ok (.newarray .boolean, 2) := dGX12_21.2.1
theorem dX12_init_262 : decode cX12_init 262 = .ok (.putfield 106, 3) := dGX12_21.2.2.1
theorem dX12_init_265 : decode cX12_init 265 = .ok (.aload_n 0, 1) := dGX12_21.2.2.2.1
theorem dX12_init_266 : decode cX12_init 266 = .ok (.bipush 20, 2) := dGX12_21.2.2.2.2.1
theorem dX12_init_268 : decode cX12_init 268 = .ok (.newarray .int, 2) := dGX12_21.2.2.2.2.2
theorem dGX12_22 : decode cX12_init 270 = .ok (.putfield 109, 3) ∧ decode cX12_init 273 = .ok (.aload_n 0, 1) ∧ decode cX12_init 274 = .ok (.bipush 20, 2) ∧ decode cX12_init 276 = .ok (.newarray .int, 2) ∧ decode cX12_init 278 = .ok (.putfield 112, 3) ∧ decode cX12_init 281 = .ok (.aload_n 0, 1) := by decide +kernel
theorem dX12_init_270 : decode cX12_init 270 = .ok (.putfield 109, 3) := dGX12_22.1
theorem dX12_init_273 : decode cX12_init 273 = .ok (.aload_n 0, 1) := dGX12_22.2.1
theorem dX12_init_274 : decode cX12_init 274 = .ok (.bipush 20, 2) := dGX12_22.2.2.1
theorem dX12_init_276 : decode cX12_init 276 = .ok (.newarray .int, 2) := dGX12_22.2.2.2.1
theorem dX12_init_278 : decode cX12_init 278 = .ok (.putfield 112, 3) := dGX12_22.2.2.2.2.1
theorem dX12_init_281 : decode cX12_init 281 = .ok (.aload_n 0, 1) := dGX12_22.2.2.2.2.2
theorem dGX12_23 : decode cX12_init 282 = .ok (.bipush 20, 2) ∧ decode cX12_init 284 = .ok (.newarray .int, 2) ∧ decode cX12_init 286 = .ok (.putfield 115, 3) ∧ decode cX12_init 289 = .ok (.aload_n 0, 1) ∧ decode cX12_init 290 = .ok (.bipush 16, 2) ∧ decode cX12_init 292 = .ok (.newarray .int, 2) := by decide +kernel
theorem dX12_init_282 : decode cX12_init 282 = .ok (.bipush 20, 2) := dGX12_23.1
theorem dX12_init_284 : decode cX12_init 284 = .ok (.newarray .int, 2) := dGX12_23.2.1
theorem dX12_init_286 : decode cX12_init 286 = .ok (.putfield 115, 3) := dGX12_23.2.2.1
theorem dX12_init_289 : decode cX12_init 289 = .ok (.aload_n 0, 1) := dGX12_23.2.2.2.1
theorem dX12_init_290 : decode cX12_init 290 = .ok (.bipush 16, 2) := dGX12_23.2.2.2.2.1
theorem dX12_init_292 : decode cX12_init 292 = .ok (.newarray .int, 2) := dGX12_23.2.2.2.2.2
theorem dGX12_24 : decode cX12_init 294 = .ok (.putfield 118, 3) ∧ decode cX12_init 297 = .ok (.aload_n 0, 1) ∧ decode cX12_init 298 = .ok (.bipush 16, 2) ∧ decode cX12_init 300 = .ok (.newarray .int, 2) ∧ decode cX12_init 302 = .ok (.putfield 121, 3) ∧ decode cX12_init 305 = .ok (.aload_n 0, 1) := by decide +kernel
theorem dX12_init_294 : decode cX12_init 294 = .ok (.putfield 118, 3) := dGX12_24.1
theorem dX12_init_297 : decode cX12_init 297 = .ok (.aload_n 0, 1) := dGX12_24.2.1
theorem dX12_init_298 : decode cX12_init 298 = .ok (.bipush 16, 2) := dGX12_24.2.2.1
theorem dX12_init_300 : decode cX12_init 300 = .ok (.newarray .int, 2) := dGX12_24.2.2.2.1
theorem dX12_init_302 : decode cX12_init 302 = .ok (.putfield 121, 3) := dGX12_24.2.2.2.2.1
theorem dX12_init_305 : decode cX12_init 305 = .ok (.aload_n 0, 1) := dGX12_24.2.2.2.2.2
theorem dGX12_25 : decode cX12_init 306 = .ok (.bipush 80, 2) ∧ decode cX12_init 308 = .ok (.newarray .int, 2) ∧ decode cX12_init 310 = .ok (.putfield 124, 3) ∧ decode cX12_init 313 = .ok (.aload_n 0, 1) ∧ decode cX12_init 314 = .ok (.bipush 16, 2) ∧ decode cX12_init 316 = .ok (.newarray .boolean, 2) := by decide +kernel
theorem dX12_init_306 : decode cX12_init 306 = .ok (.bipush 80, 2) := dGX12_25.1
theorem dX12_init_308 : decode cX12_init 308 = .ok (.newarray .int, 2) := dGX12_25.2.1
theorem dX12_init_310 : decode cX12_init 310 = .ok (.putfield 124, 3) := dGX12_25.2.2.1
theorem dX12_init_313 : decode cX12_init 313 = .ok (.aload_n 0, 1) := dGX12_25.2.2.2.1
theorem dX12_init_314 : decode cX12_init 314 = .ok (.bipush 16, 2) := dGX12_25.2.2.2.2.1
theorem dX12_init_316 : decode cX12_init 316 = .ok (.newarray .boolean, 2) := dGX12_25.2.2.2.2.2
theorem dGX12_26 : decode cX12_init 318 = .ok (.putfield 127, 3) ∧ decode cX12_init 321 = .ok (.aload_n 0, 1) ∧ decode cX12_init 322 = .ok (.bipush 16, 2) ∧ decode cX12_init 324 = .ok (.newarray .int, 2) ∧ decode cX12_init 326 = .ok (.putfield 130, 3) ∧ decode cX12_init 329 = .ok (.aload_n 0, 1) := by decide +kernel
theorem dX12_init_318 : decode cX12_init 318 = .ok (.putfield 127, 3) := dGX12_26.1
theorem dX12_init_321 : decode cX12_init 321 = .ok (.aload_n 0, 1) := dGX12_26.2.1
theorem dX12_init_322 : decode cX12_init 322 = .ok (.bipush 16, 2) := dGX12_26.2.2.1
theorem dX12_init_324 : decode cX12_init 324 = .ok (.newarray .int, 2) := dGX12_26.2.2.2.1
theorem dX12_init_326 : decode cX12_init 326 = .ok (.putfield 130, 3) := dGX12_26.2.2.2.2.1
theorem dX12_init_329 : decode cX12_init 329 = .ok (.aload_n 0, 1) := dGX12_26.2.2.2.2.2
theorem dGX12_27 : decode cX12_init 330 = .ok (.bipush 16, 2) ∧ decode cX12_init 332 = .ok (.newarray .int, 2) ∧ decode cX12_init 334 = .ok (.putfield 133, 3) ∧ decode cX12_init 337 = .ok (.aload_n 0, 1) ∧ decode cX12_init 338 = .ok (.bipush 16, 2) ∧ decode cX12_init 340 = .ok (.newarray .int, 2) := by decide +kernel
theorem dX12_init_330 : decode cX12_init 330 = .ok (.bipush 16, 2) := dGX12_27.1
theorem dX12_init_332 : decode cX12_init 332 = .ok (.newarray .int, 2) := dGX12_27.2.1
theorem dX12_init_334 : decode cX12_init 334 = .ok (.putfield 133, 3) := dGX12_27.2.2.1
theorem dX12_init_337 : decode cX12_init 337 = .ok (.aload_n 0, 1) := dGX12_27.2.2.2.1
theorem dX12_init_338 : decode cX12_init 338 = .ok (.bipush 16, 2) := dGX12_27.2.2.2.2.1
theorem dX12_init_340 : decode cX12_init 340 = .ok (.newarray .int, 2) := dGX12_27.2.2.2.2.2
theorem dGX12_28 : decode cX12_init 342 = .ok (.putfield 136, 3) ∧ decode cX12_init 345 = .ok (.aload_n 0, 1) ∧ decode cX12_init 346 = .ok (.bipush 16, 2) ∧ decode cX12_init 348 = .ok (.newarray .boolean, 2) ∧ decode cX12_init 350 = .ok (.putfield 139, 3) ∧ decode cX12_init 353 = .ok (.aload_n 0, 1) := by decide +kernel
theorem dX12_init_342 : decode cX12_init 342 = .ok (.putfield 136, 3) := dGX12_28.1
theorem dX12_init_345 : decode cX12_init 345 = .ok (.aload_n 0, 1) := dGX12_28.2.1
theorem dX12_init_346 : decode cX12_init 346 = .ok (.bipush 16, 2) := dGX12_28.2.2.1
theorem dX12_init_348 : decode cX12_init 348 = .ok (.newarray .boolean, 2) := dGX12_28.2.2.2.1
theorem dX12_init_350 : decode cX12_init 350 = .ok (.putfield 139, 3) := dGX12_28.2.2.2.2.1
theorem dX12_init_353 : decode cX12_init 353 = .ok (.aload_n 0, 1) := dGX12_28.2.2.2.2.2
theorem dGX12_29 : decode cX12_init 354 = .ok (.bipush 16, 2) ∧ decode cX12_init 356 = .ok (.newarray .int, 2) ∧ decode cX12_init 358 = .ok (.putfield 142, 3) ∧ decode cX12_init 361 = .ok (.aload_n 0, 1) ∧ decode cX12_init 362 = .ok (.sipush 128, 3) ∧ decode cX12_init 365 = .ok (.newarray .int, 2) := by decide +kernel
theorem dX12_init_354 : decode cX12_init 354 = .ok (.bipush 16, 2) := dGX12_29.1
theorem dX12_init_356 : decode cX12_init 356 = .ok (.newarray .int, 2) := dGX12_29.2.1
theorem dX12_init_358 : decode cX12_init 358 = .ok (.putfield 142, 3) := dGX12_29.2.2.1
theorem dX12_init_361 : decode cX12_init 361 = .ok (.aload_n 0, 1) := dGX12_29.2.2.2.1
theorem dX12_init_362 : decode cX12_init 362 = .ok (.sipush 128, 3) := dGX12_29.2.2.2.2.1
theorem dX12_init_365 : decode cX12_init 365 = .ok (.newarray .int, 2) := dGX12_29.2.2.2.2.2
theorem dGX12_30 : decode cX12_init 367 = .ok (.putfield 145, 3) ∧ decode cX12_init 370 = .ok (.aload_n 0, 1) ∧ decode cX12_init 371 = .ok (.sipush 128, 3) ∧ decode cX12_init 374 = .ok (.newarray .int, 2) ∧ decode cX12_init 376 = .ok (.putfield 148, 3) ∧ decode cX12_init 379 = .ok (.aload_n 0, 1) := by decide +kernel
theorem dX12_init_367 : decode cX12_init 367 = .ok (.putfield 145, 3) := dGX12_30.1
theorem dX12_init_370 : decode cX12_init 370 = .ok (.aload_n 0, 1) := dGX12_30.2.1
theorem dX12_init_371 : decode cX12_init 371 = .ok (.sipush 128, 3) := dGX12_30.2.2.1
theorem dX12_init_374 : decode cX12_init 374 = .ok (.newarray .int, 2) := dGX12_30.2.2.2.1
theorem dX12_init_376 : decode cX12_init 376 = .ok (.putfield 148, 3) := dGX12_30.2.2.2.2.1
theorem dX12_init_379 : decode cX12_init 379 = .ok (.aload_n 0, 1) := dGX12_30.2.2.2.2.2
theorem dGX12_31 : decode cX12_init 380 = .ok (.sipush 200, 3) ∧ decode cX12_init 383 = .ok (.newarray .boolean, 2) ∧ decode cX12_init 385 = .ok (.putfield 151, 3) ∧ decode cX12_init 388 = .ok (.aload_n 0, 1) ∧ decode cX12_init 389 = .ok (.bipush 12, 2) ∧ decode cX12_init 391 = .ok (.newarray .int, 2) := by decide +kernel
theorem dX12_init_380 : decode cX12_init 380 = .ok (.sipush 200, 3) := dGX12_31.1
theorem dX12_init_383 : decode cX12_init 383 = .ok (.newarray .boolean, 2) := dGX12_31.2.1
theorem dX12_init_385 : decode cX12_init 385 = .ok (.putfield 151, 3) := dGX12_31.2.2.1
theorem dX12_init_388 : decode cX12_init 388 = .ok (.aload_n 0, 1) := dGX12_31.2.2.2.1
theorem dX12_init_389 : decode cX12_init 389 = .ok (.bipush 12, 2) := dGX12_31.2.2.2.2.1
theorem dX12_init_391 : decode cX12_init 391 = .ok (.newarray .int, 2) := dGX12_31.2.2.2.2.2
theorem dGX12_32 : decode cX12_init 393 = .ok (.putfield 154, 3) ∧ decode cX12_init 396 = .ok (.aload_n 0, 1) ∧ decode cX12_init 397 = .ok (.bipush 8, 2) ∧ decode cX12_init 399 = .ok (.newarray .int, 2) ∧ decode cX12_init 401 = .ok (.putfield 157, 3) ∧ decode cX12_init 404 = .ok (.aload_n 0, 1) := by decide +kernel
theorem dX12_init_393 : decode cX12_init 393 = .ok (.putfield 154, 3) := dGX12_32.1
theorem dX12_init_396 : decode cX12_init 396 = .ok (.aload_n 0, 1) := dGX12_32.2.1
theorem dX12_init_397 : decode cX12_init 397 = .ok (.bipush 8, 2) := dGX12_32.2.2.1
theorem dX12_init_399 : decode cX12_init 399 = .ok (.newarray .int, 2) := dGX12_32.2.2.2.1
theorem dX12_init_401 : decode cX12_init 401 = .ok (.putfield 157, 3) := dGX12_32.2.2.2.2.1
theorem dX12_init_404 : decode cX12_init 404 = .ok (.aload_n 0, 1) := dGX12_32.2.2.2.2.2
theorem dGX12_33 : decode cX12_init 405 = .ok (.sipush 2304, 3) ∧ decode cX12_init 408 = .ok (.newarray .int, 2) ∧ decode cX12_init 410 = .ok (.putfield 160, 3) ∧ decode cX12_init 413 = .ok (.aload_n 0, 1) ∧ decode cX12_init 414 = .ok (.bipush 16, 2) ∧ decode cX12_init 416 = .ok (.newarray .int, 2) := by decide +kernel
theorem dX12_init_405 : decode cX12_init 405 = .ok (.sipush 2304, 3) := dGX12_33.1
theorem dX12_init_408 : decode cX12_init 408 = .ok (.newarray .int, 2) := dGX12_33.2.1
theorem dX12_init_410 : decode cX12_init 410 = .ok (.putfield 160, 3) := dGX12_33.2.2.1
theorem dX12_init_413 : decode cX12_init 413 = .ok (.aload_n 0, 1) := dGX12_33.2.2.2.1
theorem dX12_init_414 : decode cX12_init 414 = .ok (.bipush 16, 2) := dGX12_33.2.2.2.2.1
theorem dX12_init_416 : decode cX12_init 416 = .ok (.newarray .int, 2) := dGX12_33.2.2.2.2.2
theorem dGX12_34 : decode cX12_init 418 = .ok (.putfield 163, 3) ∧ decode cX12_init 421 = .ok (.aload_n 0, 1) ∧ decode cX12_init 422 = .ok (.sipush 128, 3) ∧ decode cX12_init 425 = .ok (.newarray .int, 2) ∧ decode cX12_init 427 = .ok (.putfield 166, 3) ∧ decode cX12_init 430 = .ok (.aload_n 0, 1) := by decide +kernel
theorem dX12_init_418 : decode cX12_init 418 = .ok (.putfield 163, 3) := dGX12_34.1
theorem dX12_init_421 : decode cX12_init 421 = .ok (.aload_n 0, 1) := dGX12_34.2.1
theorem dX12_init_422 : decode cX12_init 422 = .ok (.sipush 128, 3) := dGX12_34.2.2.1
theorem dX12_init_425 : decode cX12_init 425 = .ok (.newarray .int, 2) := dGX12_34.2.2.2.1
theorem dX12_init_427 : decode cX12_init 427 = .ok (.putfield 166, 3) := dGX12_34.2.2.2.2.1
theorem dX12_init_430 : decode cX12_init 430 = .ok (.aload_n 0, 1) := dGX12_34.2.2.2.2.2
theorem dGX12_35 : decode cX12_init 431 = .ok (.bipush 8, 2) ∧ decode cX12_init 433 = .ok (.newarray .int, 2) ∧ decode cX12_init 435 = .ok (.putfield 169, 3) ∧ decode cX12_init 438 = .ok (.return_, 1) ∧ decode cX12_lies 0 = .ok (.lload_n 0, 1) ∧ decode cX12_lies 1 = .ok (.lload_n 2, 1) := by decide +kernel
theorem dX12_init_431 : decode cX12_init 431 = .ok (.bipush 8, 2) := dGX12_35.1
theorem dX12_init_433 : decode cX12_init 433 = .ok (.newarray .int, 2) := dGX12_35.2.1
theorem dX12_init_435 : decode cX12_init 435 = .ok (.putfield 169, 3) := dGX12_35.2.2.1
theorem dX12_init_438 : decode cX12_init 438 = .ok (.return_, 1) := dGX12_35.2.2.2.1
theorem dX12_lies_0 : decode cX12_lies 0 = .ok (.lload_n 0, 1) := dGX12_35.2.2.2.2.1
theorem dX12_lies_1 : decode cX12_lies 1 = .ok (.lload_n 2, 1) := dGX12_35.2.2.2.2.2
theorem dGX12_36 : decode cX12_lies 2 = .ok (.lcmp, 1) ∧ decode cX12_lies 3 = .ok (.ifCond .lt 14, 3) ∧ decode cX12_lies 6 = .ok (.lload_n 0, 1) ∧ decode cX12_lies 7 = .ok (.lload 4, 2) ∧ decode cX12_lies 9 = .ok (.lcmp, 1) ∧ decode cX12_lies 10 = .ok (.ifCond .gt 7, 3) := by decide +kernel
theorem dX12_lies_2 : decode cX12_lies 2 = .ok (.lcmp, 1) := dGX12_36.1
theorem dX12_lies_3 : decode cX12_lies 3 = .ok (.ifCond .lt 14, 3) := dGX12_36.2.1
theorem dX12_lies_6 : decode cX12_lies 6 = .ok (.lload_n 0, 1) := dGX12_36.2.2.1
theorem dX12_lies_7 : decode cX12_lies 7 = .ok (.lload 4, 2) := dGX12_36.2.2.2.1
theorem dX12_lies_9 : decode cX12_lies 9 = .ok (.lcmp, 1) := dGX12_36.2.2.2.2.1
theorem dX12_lies_10 : decode cX12_lies 10 = .ok (.ifCond .gt 7, 3) := dGX12_36.2.2.2.2.2
theorem dGX12_37 : decode cX12_lies 13 = .ok (.iconst 1, 1) ∧ decode cX12_lies 14 = .ok (.goto 4, 3) ∧ decode cX12_lies 17 = .ok (.iconst 0, 1) ∧ decode cX12_lies 18 = .ok (.ireturn, 1) ∧ decode cX12_has 0 = .ok (.iload_n 0, 1) ∧ decode cX12_has 1 = .ok (.iload_n 1, 1) := by decide +kernel
theorem dX12_lies_13 : decode cX12_lies 13 = .ok (.iconst 1, 1) := dGX12_37.1
theorem dX12_lies_14 : decode cX12_lies 14 = .ok (.goto 4, 3) := dGX12_37.2.1
theorem dX12_lies_17 : decode cX12_lies 17 = .ok (.iconst 0, 1) := dGX12_37.2.2.1
theorem dX12_lies_18 : decode cX12_lies 18 = .ok (.ireturn, 1) := dGX12_37.2.2.2.1
theorem dX12_has_0 : decode cX12_has 0 = .ok (.iload_n 0, 1) := dGX12_37.2.2.2.2.1
theorem dX12_has_1 : decode cX12_has 1 = .ok (.iload_n 1, 1) := dGX12_37.2.2.2.2.2
theorem dGX12_38 : decode cX12_has 2 = .ok (.ishr, 1) ∧ decode cX12_has 3 = .ok (.iconst 1, 1) ∧ decode cX12_has 4 = .ok (.iand, 1) ∧ decode cX12_has 5 = .ok (.iconst 1, 1) ∧ decode cX12_has 6 = .ok (.if_icmp .ne 7, 3) ∧ decode cX12_has 9 = .ok (.iconst 1, 1) := by decide +kernel
theorem dX12_has_2 : decode cX12_has 2 = .ok (.ishr, 1) := dGX12_38.1
theorem dX12_has_3 : decode cX12_has 3 = .ok (.iconst 1, 1) := dGX12_38.2.1
theorem dX12_has_4 : decode cX12_has 4 = .ok (.iand, 1) := dGX12_38.2.2.1
theorem dX12_has_5 : decode cX12_has 5 = .ok (.iconst 1, 1) := dGX12_38.2.2.2.1
theorem dX12_has_6 : decode cX12_has 6 = .ok (.if_icmp .ne 7, 3) := dGX12_38.2.2.2.2.1
theorem dX12_has_9 : decode cX12_has 9 = .ok (.iconst 1, 1) := dGX12_38.2.2.2.2.2
theorem dGX12_39 : decode cX12_has 10 = .ok (.goto 4, 3) ∧ decode cX12_has 13 = .ok (.iconst 0, 1) ∧ decode cX12_has 14 = .ok (.ireturn, 1) ∧ decode cX12_sizeOf 0 = .ok (.iconst 0, 1) ∧ decode cX12_sizeOf 1 = .ok (.istore_n 1, 1) ∧ decode cX12_sizeOf 2 = .ok (.iload_n 0, 1) := by decide +kernel
theorem dX12_has_10 : decode cX12_has 10 = .ok (.goto 4, 3) := dGX12_39.1
theorem dX12_has_13 : decode cX12_has 13 = .ok (.iconst 0, 1) := dGX12_39.2.1
theorem dX12_has_14 : decode cX12_has 14 = .ok (.ireturn, 1) := dGX12_39.2.2.1
theorem dX12_sizeOf_0 : decode cX12_sizeOf 0 = .ok (.iconst 0, 1) := dGX12_39.2.2.2.1
theorem dX12_sizeOf_1 : decode cX12_sizeOf 1 = .ok (.istore_n 1, 1) := dGX12_39.2.2.2.2.1
theorem dX12_sizeOf_2 : decode cX12_sizeOf 2 = .ok (.iload_n 0, 1) := dGX12_39.2.2.2.2.2
theorem dGX12_40 : decode cX12_sizeOf 3 = .ok (.istore_n 2, 1) ∧ decode cX12_sizeOf 4 = .ok (.iload_n 2, 1) ∧ decode cX12_sizeOf 5 = .ok (.ifCond .eq 15, 3) ∧ decode cX12_sizeOf 8 = .ok (.iinc 1 1, 3) ∧ decode cX12_sizeOf 11 = .ok (.iload_n 2, 1) ∧ decode cX12_sizeOf 12 = .ok (.iload_n 2, 1) := by decide +kernel
theorem dX12_sizeOf_3 : decode cX12_sizeOf 3 = .ok (.istore_n 2, 1) := dGX12_40.1
theorem dX12_sizeOf_4 : decode cX12_sizeOf 4 = .ok (.iload_n 2, 1) := dGX12_40.2.1
theorem dX12_sizeOf_5 : decode cX12_sizeOf 5 = .ok (.ifCond .eq 15, 3) := dGX12_40.2.2.1
theorem dX12_sizeOf_8 : decode cX12_sizeOf 8 = .ok (.iinc 1 1, 3) := dGX12_40.2.2.2.1
theorem dX12_sizeOf_11 : decode cX12_sizeOf 11 = .ok (.iload_n 2, 1) := dGX12_40.2.2.2.2.1
theorem dX12_sizeOf_12 : decode cX12_sizeOf 12 = .ok (.iload_n 2, 1) := dGX12_40.2.2.2.2.2
theorem dGX12_41 : decode cX12_sizeOf 13 = .ok (.iconst 1, 1) ∧ decode cX12_sizeOf 14 = .ok (.isub, 1) ∧ decode cX12_sizeOf 15 = .ok (.iand, 1) ∧ decode cX12_sizeOf 16 = .ok (.istore_n 2, 1) ∧ decode cX12_sizeOf 17 = .ok (.goto (-13), 3) ∧ decode cX12_sizeOf 20 = .ok (.iload_n 1, 1) := by decide +kernel
theorem dX12_sizeOf_13 : decode cX12_sizeOf 13 = .ok (.iconst 1, 1) := dGX12_41.1
theorem dX12_sizeOf_14 : decode cX12_sizeOf 14 = .ok (.isub, 1) := dGX12_41.2.1
theorem dX12_sizeOf_15 : decode cX12_sizeOf 15 = .ok (.iand, 1) := dGX12_41.2.2.1
theorem dX12_sizeOf_16 : decode cX12_sizeOf 16 = .ok (.istore_n 2, 1) := dGX12_41.2.2.2.1
theorem dX12_sizeOf_17 : decode cX12_sizeOf 17 = .ok (.goto (-13), 3) := dGX12_41.2.2.2.2.1
theorem dX12_sizeOf_20 : decode cX12_sizeOf 20 = .ok (.iload_n 1, 1) := dGX12_41.2.2.2.2.2
theorem dGX12_42 : decode cX12_sizeOf 21 = .ok (.ireturn, 1) ∧ decode cX12_isRoof 0 = .ok (.iload_n 1, 1) ∧ decode cX12_isRoof 1 = .ok (.i2l, 1) ∧ decode cX12_isRoof 2 = .ok (.lconst 0, 1) ∧ decode cX12_isRoof 3 = .ok (.aload_n 0, 1) ∧ decode cX12_isRoof 4 = .ok (.getfield 172, 3) := by decide +kernel
theorem dX12_sizeOf_21 : decode cX12_sizeOf 21 = .ok (.ireturn, 1) := dGX12_42.1
theorem dX12_isRoof_0 : decode cX12_isRoof 0 = .ok (.iload_n 1, 1) := dGX12_42.2.1
theorem dX12_isRoof_1 : decode cX12_isRoof 1 = .ok (.i2l, 1) := dGX12_42.2.2.1
theorem dX12_isRoof_2 : decode cX12_isRoof 2 = .ok (.lconst 0, 1) := dGX12_42.2.2.2.1
theorem dX12_isRoof_3 : decode cX12_isRoof 3 = .ok (.aload_n 0, 1) := dGX12_42.2.2.2.2.1
theorem dX12_isRoof_4 : decode cX12_isRoof 4 = .ok (.getfield 172, 3) := dGX12_42.2.2.2.2.2
theorem dGX12_43 : decode cX12_isRoof 7 = .ok (.iconst 1, 1) ∧ decode cX12_isRoof 8 = .ok (.isub, 1) ∧ decode cX12_isRoof 9 = .ok (.i2l, 1) ∧ decode cX12_isRoof 10 = .ok (.invokestatic 175, 3) ∧ decode cX12_isRoof 13 = .ok (.ireturn, 1) ∧ decode cX12_isApprentice 0 = .ok (.iload_n 1, 1) := by decide +kernel
theorem dX12_isRoof_7 : decode cX12_isRoof 7 = .ok (.iconst 1, 1) := dGX12_43.1
theorem dX12_isRoof_8 : decode cX12_isRoof 8 = .ok (.isub, 1) := dGX12_43.2.1
theorem dX12_isRoof_9 : decode cX12_isRoof 9 = .ok (.i2l, 1) := dGX12_43.2.2.1
theorem dX12_isRoof_10 : decode cX12_isRoof 10 = .ok (.invokestatic 175, 3) := dGX12_43.2.2.2.1
theorem dX12_isRoof_13 : decode cX12_isRoof 13 = .ok (.ireturn, 1) := dGX12_43.2.2.2.2.1
theorem dX12_isApprentice_0 : decode cX12_isApprentice 0 = .ok (.iload_n 1, 1) := dGX12_43.2.2.2.2.2
theorem dGX12_44 : decode cX12_isApprentice 1 = .ok (.i2l, 1) ∧ decode cX12_isApprentice 2 = .ok (.lconst 0, 1) ∧ decode cX12_isApprentice 3 = .ok (.aload_n 0, 1) ∧ decode cX12_isApprentice 4 = .ok (.getfield 179, 3) ∧ decode cX12_isApprentice 7 = .ok (.iconst 1, 1) ∧ decode cX12_isApprentice 8 = .ok (.isub, 1) := by decide +kernel
theorem dX12_isApprentice_1 : decode cX12_isApprentice 1 = .ok (.i2l, 1) := dGX12_44.1
theorem dX12_isApprentice_2 : decode cX12_isApprentice 2 = .ok (.lconst 0, 1) := dGX12_44.2.1
theorem dX12_isApprentice_3 : decode cX12_isApprentice 3 = .ok (.aload_n 0, 1) := dGX12_44.2.2.1
theorem dX12_isApprentice_4 : decode cX12_isApprentice 4 = .ok (.getfield 179, 3) := dGX12_44.2.2.2.1
theorem dX12_isApprentice_7 : decode cX12_isApprentice 7 = .ok (.iconst 1, 1) := dGX12_44.2.2.2.2.1
theorem dX12_isApprentice_8 : decode cX12_isApprentice 8 = .ok (.isub, 1) := dGX12_44.2.2.2.2.2
theorem dGX12_45 : decode cX12_isApprentice 9 = .ok (.i2l, 1) ∧ decode cX12_isApprentice 10 = .ok (.invokestatic 175, 3) ∧ decode cX12_isApprentice 13 = .ok (.ireturn, 1) ∧ decode cX12_isMaster 0 = .ok (.iload_n 1, 1) ∧ decode cX12_isMaster 1 = .ok (.i2l, 1) ∧ decode cX12_isMaster 2 = .ok (.lconst 0, 1) := by decide +kernel
theorem dX12_isApprentice_9 : decode cX12_isApprentice 9 = .ok (.i2l, 1) := dGX12_45.1
theorem dX12_isApprentice_10 : decode cX12_isApprentice 10 = .ok (.invokestatic 175, 3) := dGX12_45.2.1
theorem dX12_isApprentice_13 : decode cX12_isApprentice 13 = .ok (.ireturn, 1) := dGX12_45.2.2.1
theorem dX12_isMaster_0 : decode cX12_isMaster 0 = .ok (.iload_n 1, 1) := dGX12_45.2.2.2.1
theorem dX12_isMaster_1 : decode cX12_isMaster 1 = .ok (.i2l, 1) := dGX12_45.2.2.2.2.1
theorem dX12_isMaster_2 : decode cX12_isMaster 2 = .ok (.lconst 0, 1) := dGX12_45.2.2.2.2.2
theorem dGX12_46 : decode cX12_isMaster 3 = .ok (.aload_n 0, 1) ∧ decode cX12_isMaster 4 = .ok (.getfield 182, 3) ∧ decode cX12_isMaster 7 = .ok (.iconst 1, 1) ∧ decode cX12_isMaster 8 = .ok (.isub, 1) ∧ decode cX12_isMaster 9 = .ok (.i2l, 1) ∧ decode cX12_isMaster 10 = .ok (.invokestatic 175, 3) := by decide +kernel
theorem dX12_isMaster_3 : decode cX12_isMaster 3 = .ok (.aload_n 0, 1) := dGX12_46.1
theorem dX12_isMaster_4 : decode cX12_isMaster 4 = .ok (.getfield 182, 3) := dGX12_46.2.1
theorem dX12_isMaster_7 : decode cX12_isMaster 7 = .ok (.iconst 1, 1) := dGX12_46.2.2.1
theorem dX12_isMaster_8 : decode cX12_isMaster 8 = .ok (.isub, 1) := dGX12_46.2.2.2.1
theorem dX12_isMaster_9 : decode cX12_isMaster 9 = .ok (.i2l, 1) := dGX12_46.2.2.2.2.1
theorem dX12_isMaster_10 : decode cX12_isMaster 10 = .ok (.invokestatic 175, 3) := dGX12_46.2.2.2.2.2
theorem dGX12_47 : decode cX12_isMaster 13 = .ok (.ireturn, 1) ∧ decode cX12_isDigit 0 = .ok (.iload_n 0, 1) ∧ decode cX12_isDigit 1 = .ok (.i2l, 1) ∧ decode cX12_isDigit 2 = .ok (.lconst 0, 1) ∧ decode cX12_isDigit 3 = .ok (.ldc2_w 185, 3) ∧ decode cX12_isDigit 6 = .ok (.invokestatic 175, 3) := by decide +kernel
theorem dX12_isMaster_13 : decode cX12_isMaster 13 = .ok (.ireturn, 1) := dGX12_47.1
theorem dX12_isDigit_0 : decode cX12_isDigit 0 = .ok (.iload_n 0, 1) := dGX12_47.2.1
theorem dX12_isDigit_1 : decode cX12_isDigit 1 = .ok (.i2l, 1) := dGX12_47.2.2.1
theorem dX12_isDigit_2 : decode cX12_isDigit 2 = .ok (.lconst 0, 1) := dGX12_47.2.2.2.1
theorem dX12_isDigit_3 : decode cX12_isDigit 3 = .ok (.ldc2_w 185, 3) := dGX12_47.2.2.2.2.1
theorem dX12_isDigit_6 : decode cX12_isDigit 6 = .ok (.invokestatic 175, 3) := dGX12_47.2.2.2.2.2
theorem dGX12_48 : decode cX12_isDigit 9 = .ok (.ireturn, 1) ∧ decode cX12_roof 0 = .ok (.iload_n 1, 1) ∧ decode cX12_roof 1 = .ok (.i2l, 1) ∧ decode cX12_roof 2 = .ok (.lconst 0, 1) ∧ decode cX12_roof 3 = .ok (.ldc2_w 187, 3) ∧ decode cX12_roof 6 = .ok (.invokestatic 175, 3) := by decide +kernel
theorem dX12_isDigit_9 : decode cX12_isDigit 9 = .ok (.ireturn, 1) := dGX12_48.1
theorem dX12_roof_0 : decode cX12_roof 0 = .ok (.iload_n 1, 1) := dGX12_48.2.1
theorem dX12_roof_1 : decode cX12_roof 1 = .ok (.i2l, 1) := dGX12_48.2.2.1
theorem dX12_roof_2 : decode cX12_roof 2 = .ok (.lconst 0, 1) := dGX12_48.2.2.2.1
theorem dX12_roof_3 : decode cX12_roof 3 = .ok (.ldc2_w 187, 3) := dGX12_48.2.2.2.2.1
theorem dX12_roof_6 : decode cX12_roof 6 = .ok (.invokestatic 175, 3) := dGX12_48.2.2.2.2.2
theorem dGX12_49 : decode cX12_roof 9 = .ok (.ifCond .eq 30, 3) ∧ decode cX12_roof 12 = .ok (.iload_n 2, 1) ∧ decode cX12_roof 13 = .ok (.i2l, 1) ∧ decode cX12_roof 14 = .ok (.lconst 0, 1) ∧ decode cX12_roof 15 = .ok (.iload_n 1, 1) ∧ decode cX12_roof 16 = .ok (.i2l, 1) := by decide +kernel
theorem dX12_roof_9 : decode cX12_roof 9 = .ok (.ifCond .eq 30, 3) := dGX12_49.1
theorem dX12_roof_12 : decode cX12_roof 12 = .ok (.iload_n 2, 1) := dGX12_49.2.1
theorem dX12_roof_13 : decode cX12_roof 13 = .ok (.i2l, 1) := dGX12_49.2.2.1
theorem dX12_roof_14 : decode cX12_roof 14 = .ok (.lconst 0, 1) := dGX12_49.2.2.2.1
theorem dX12_roof_15 : decode cX12_roof 15 = .ok (.iload_n 1, 1) := dGX12_49.2.2.2.2.1
theorem dX12_roof_16 : decode cX12_roof 16 = .ok (.i2l, 1) := dGX12_49.2.2.2.2.2
theorem dGX12_50 : decode cX12_roof 17 = .ok (.invokestatic 175, 3) ∧ decode cX12_roof 20 = .ok (.ifCond .eq 19, 3) ∧ decode cX12_roof 23 = .ok (.iload_n 3, 1) ∧ decode cX12_roof 24 = .ok (.invokestatic 189, 3) ∧ decode cX12_roof 27 = .ok (.ifCond .eq 12, 3) ∧ decode cX12_roof 30 = .ok (.aload_n 0, 1) := by decide +kernel
theorem dX12_roof_17 : decode cX12_roof 17 = .ok (.invokestatic 175, 3) := dGX12_50.1
theorem dX12_roof_20 : decode cX12_roof 20 = .ok (.ifCond .eq 19, 3) := dGX12_50.2.1
theorem dX12_roof_23 : decode cX12_roof 23 = .ok (.iload_n 3, 1) := dGX12_50.2.2.1
theorem dX12_roof_24 : decode cX12_roof 24 = .ok (.invokestatic 189, 3) := dGX12_50.2.2.2.1
theorem dX12_roof_27 : decode cX12_roof 27 = .ok (.ifCond .eq 12, 3) := dGX12_50.2.2.2.2.1
theorem dX12_roof_30 : decode cX12_roof 30 = .ok (.aload_n 0, 1) := dGX12_50.2.2.2.2.2
theorem dGX12_51 : decode cX12_roof 31 = .ok (.getfield 172, 3) ∧ decode cX12_roof 34 = .ok (.bipush 10, 2) ∧ decode cX12_roof 36 = .ok (.if_icmp .ne 5, 3) ∧ decode cX12_roof 39 = .ok (.iconst (-1), 1) ∧ decode cX12_roof 40 = .ok (.ireturn, 1) ∧ decode cX12_roof 41 = .ok (.aload_n 0, 1) := by decide +kernel
theorem dX12_roof_31 : decode cX12_roof 31 = .ok (.getfield 172, 3) := dGX12_51.1
theorem dX12_roof_34 : decode cX12_roof 34 = .ok (.bipush 10, 2) := dGX12_51.2.1
theorem dX12_roof_36 : decode cX12_roof 36 = .ok (.if_icmp .ne 5, 3) := dGX12_51.2.2.1
theorem dX12_roof_39 : decode cX12_roof 39 = .ok (.iconst (-1), 1) := dGX12_51.2.2.2.1
theorem dX12_roof_40 : decode cX12_roof 40 = .ok (.ireturn, 1) := dGX12_51.2.2.2.2.1
theorem dX12_roof_41 : decode cX12_roof 41 = .ok (.aload_n 0, 1) := dGX12_51.2.2.2.2.2
theorem dGX12_52 : decode cX12_roof 42 = .ok (.getfield 17, 3) ∧ decode cX12_roof 45 = .ok (.aload_n 0, 1) ∧ decode cX12_roof 46 = .ok (.getfield 172, 3) ∧ decode cX12_roof 49 = .ok (.iload_n 1, 1) ∧ decode cX12_roof 50 = .ok (.iastore, 1) ∧ decode cX12_roof 51 = .ok (.aload_n 0, 1) := by decide +kernel
theorem dX12_roof_42 : decode cX12_roof 42 = .ok (.getfield 17, 3) := dGX12_52.1
theorem dX12_roof_45 : decode cX12_roof 45 = .ok (.aload_n 0, 1) := dGX12_52.2.1
theorem dX12_roof_46 : decode cX12_roof 46 = .ok (.getfield 172, 3) := dGX12_52.2.2.1
theorem dX12_roof_49 : decode cX12_roof 49 = .ok (.iload_n 1, 1) := dGX12_52.2.2.2.1
theorem dX12_roof_50 : decode cX12_roof 50 = .ok (.iastore, 1) := dGX12_52.2.2.2.2.1
theorem dX12_roof_51 : decode cX12_roof 51 = .ok (.aload_n 0, 1) := dGX12_52.2.2.2.2.2
theorem dGX12_53 : decode cX12_roof 52 = .ok (.getfield 21, 3) ∧ decode cX12_roof 55 = .ok (.aload_n 0, 1) ∧ decode cX12_roof 56 = .ok (.getfield 172, 3) ∧ decode cX12_roof 59 = .ok (.iload_n 2, 1) ∧ decode cX12_roof 60 = .ok (.iastore, 1) ∧ decode cX12_roof 61 = .ok (.aload_n 0, 1) := by decide +kernel
theorem dX12_roof_52 : decode cX12_roof 52 = .ok (.getfield 21, 3) := dGX12_53.1
theorem dX12_roof_55 : decode cX12_roof 55 = .ok (.aload_n 0, 1) := dGX12_53.2.1
theorem dX12_roof_56 : decode cX12_roof 56 = .ok (.getfield 172, 3) := dGX12_53.2.2.1
theorem dX12_roof_59 : decode cX12_roof 59 = .ok (.iload_n 2, 1) := dGX12_53.2.2.2.1
theorem dX12_roof_60 : decode cX12_roof 60 = .ok (.iastore, 1) := dGX12_53.2.2.2.2.1
theorem dX12_roof_61 : decode cX12_roof 61 = .ok (.aload_n 0, 1) := dGX12_53.2.2.2.2.2
theorem dGX12_54 : decode cX12_roof 62 = .ok (.getfield 24, 3) ∧ decode cX12_roof 65 = .ok (.aload_n 0, 1) ∧ decode cX12_roof 66 = .ok (.getfield 172, 3) ∧ decode cX12_roof 69 = .ok (.iload_n 3, 1) ∧ decode cX12_roof 70 = .ok (.iastore, 1) ∧ decode cX12_roof 71 = .ok (.aload_n 0, 1) := by decide +kernel
theorem dX12_roof_62 : decode cX12_roof 62 = .ok (.getfield 24, 3) := dGX12_54.1
theorem dX12_roof_65 : decode cX12_roof 65 = .ok (.aload_n 0, 1) := dGX12_54.2.1
theorem dX12_roof_66 : decode cX12_roof 66 = .ok (.getfield 172, 3) := dGX12_54.2.2.1
theorem dX12_roof_69 : decode cX12_roof 69 = .ok (.iload_n 3, 1) := dGX12_54.2.2.2.1
theorem dX12_roof_70 : decode cX12_roof 70 = .ok (.iastore, 1) := dGX12_54.2.2.2.2.1
theorem dX12_roof_71 : decode cX12_roof 71 = .ok (.aload_n 0, 1) := dGX12_54.2.2.2.2.2
theorem dGX12_55 : decode cX12_roof 72 = .ok (.dup, 1) ∧ decode cX12_roof 73 = .ok (.getfield 172, 3) ∧ decode cX12_roof 76 = .ok (.iconst 1, 1) ∧ decode cX12_roof 77 = .ok (.iadd, 1) ∧ decode cX12_roof 78 = .ok (.putfield 172, 3) ∧ decode cX12_roof 81 = .ok (.aload_n 0, 1) := by decide +kernel
theorem dX12_roof_72 : decode cX12_roof 72 = .ok (.dup, 1) := dGX12_55.1
theorem dX12_roof_73 : decode cX12_roof 73 = .ok (.getfield 172, 3) := dGX12_55.2.1
theorem dX12_roof_76 : decode cX12_roof 76 = .ok (.iconst 1, 1) := dGX12_55.2.2.1
theorem dX12_roof_77 : decode cX12_roof 77 = .ok (.iadd, 1) := dGX12_55.2.2.2.1
theorem dX12_roof_78 : decode cX12_roof 78 = .ok (.putfield 172, 3) := dGX12_55.2.2.2.2.1
theorem dX12_roof_81 : decode cX12_roof 81 = .ok (.aload_n 0, 1) := dGX12_55.2.2.2.2.2
theorem dGX12_56 : decode cX12_roof 82 = .ok (.getfield 172, 3) ∧ decode cX12_roof 85 = .ok (.iconst 1, 1) ∧ decode cX12_roof 86 = .ok (.isub, 1) ∧ decode cX12_roof 87 = .ok (.ireturn, 1) ∧ decode cX12_apprentice 0 = .ok (.iload_n 1, 1) ∧ decode cX12_apprentice 1 = .ok (.invokestatic 189, 3) := by decide +kernel
theorem dX12_roof_82 : decode cX12_roof 82 = .ok (.getfield 172, 3) := dGX12_56.1
theorem dX12_roof_85 : decode cX12_roof 85 = .ok (.iconst 1, 1) := dGX12_56.2.1
theorem dX12_roof_86 : decode cX12_roof 86 = .ok (.isub, 1) := dGX12_56.2.2.1
theorem dX12_roof_87 : decode cX12_roof 87 = .ok (.ireturn, 1) := dGX12_56.2.2.2.1
theorem dX12_apprentice_0 : decode cX12_apprentice 0 = .ok (.iload_n 1, 1) := dGX12_56.2.2.2.2.1
theorem dX12_apprentice_1 : decode cX12_apprentice 1 = .ok (.invokestatic 189, 3) := dGX12_56.2.2.2.2.2
theorem dGX12_57 : decode cX12_apprentice 4 = .ok (.ifCond .eq 12, 3) ∧ decode cX12_apprentice 7 = .ok (.aload_n 0, 1) ∧ decode cX12_apprentice 8 = .ok (.getfield 179, 3) ∧ decode cX12_apprentice 11 = .ok (.bipush 8, 2) ∧ decode cX12_apprentice 13 = .ok (.if_icmp .ne 5, 3) ∧ decode cX12_apprentice 16 = .ok (.iconst (-1), 1) := by decide +kernel
theorem dX12_apprentice_4 : decode cX12_apprentice 4 = .ok (.ifCond .eq 12, 3) := dGX12_57.1
theorem dX12_apprentice_7 : decode cX12_apprentice 7 = .ok (.aload_n 0, 1) := dGX12_57.2.1
theorem dX12_apprentice_8 : decode cX12_apprentice 8 = .ok (.getfield 179, 3) := dGX12_57.2.2.1
theorem dX12_apprentice_11 : decode cX12_apprentice 11 = .ok (.bipush 8, 2) := dGX12_57.2.2.2.1
theorem dX12_apprentice_13 : decode cX12_apprentice 13 = .ok (.if_icmp .ne 5, 3) := dGX12_57.2.2.2.2.1
theorem dX12_apprentice_16 : decode cX12_apprentice 16 = .ok (.iconst (-1), 1) := dGX12_57.2.2.2.2.2
theorem dGX12_58 : decode cX12_apprentice 17 = .ok (.ireturn, 1) ∧ decode cX12_apprentice 18 = .ok (.aload_n 0, 1) ∧ decode cX12_apprentice 19 = .ok (.getfield 27, 3) ∧ decode cX12_apprentice 22 = .ok (.aload_n 0, 1) ∧ decode cX12_apprentice 23 = .ok (.getfield 179, 3) ∧ decode cX12_apprentice 26 = .ok (.bipush 10, 2) := by decide +kernel
theorem dX12_apprentice_17 : decode cX12_apprentice 17 = .ok (.ireturn, 1) := dGX12_58.1
theorem dX12_apprentice_18 : decode cX12_apprentice 18 = .ok (.aload_n 0, 1) := dGX12_58.2.1
theorem dX12_apprentice_19 : decode cX12_apprentice 19 = .ok (.getfield 27, 3) := dGX12_58.2.2.1
theorem dX12_apprentice_22 : decode cX12_apprentice 22 = .ok (.aload_n 0, 1) := dGX12_58.2.2.2.1
theorem dX12_apprentice_23 : decode cX12_apprentice 23 = .ok (.getfield 179, 3) := dGX12_58.2.2.2.2.1
theorem dX12_apprentice_26 : decode cX12_apprentice 26 = .ok (.bipush 10, 2) := dGX12_58.2.2.2.2.2
theorem dGX12_59 : decode cX12_apprentice 28 = .ok (.iastore, 1) ∧ decode cX12_apprentice 29 = .ok (.aload_n 0, 1) ∧ decode cX12_apprentice 30 = .ok (.getfield 30, 3) ∧ decode cX12_apprentice 33 = .ok (.aload_n 0, 1) ∧ decode cX12_apprentice 34 = .ok (.getfield 179, 3) ∧ decode cX12_apprentice 37 = .ok (.iload_n 1, 1) := by decide +kernel
theorem dX12_apprentice_28 : decode cX12_apprentice 28 = .ok (.iastore, 1) := dGX12_59.1
theorem dX12_apprentice_29 : decode cX12_apprentice 29 = .ok (.aload_n 0, 1) := dGX12_59.2.1
theorem dX12_apprentice_30 : decode cX12_apprentice 30 = .ok (.getfield 30, 3) := dGX12_59.2.2.1
theorem dX12_apprentice_33 : decode cX12_apprentice 33 = .ok (.aload_n 0, 1) := dGX12_59.2.2.2.1
theorem dX12_apprentice_34 : decode cX12_apprentice 34 = .ok (.getfield 179, 3) := dGX12_59.2.2.2.2.1
theorem dX12_apprentice_37 : decode cX12_apprentice 37 = .ok (.iload_n 1, 1) := dGX12_59.2.2.2.2.2
theorem dGX12_60 : decode cX12_apprentice 38 = .ok (.iastore, 1) ∧ decode cX12_apprentice 39 = .ok (.aload_n 0, 1) ∧ decode cX12_apprentice 40 = .ok (.getfield 36, 3) ∧ decode cX12_apprentice 43 = .ok (.aload_n 0, 1) ∧ decode cX12_apprentice 44 = .ok (.getfield 179, 3) ∧ decode cX12_apprentice 47 = .ok (.iconst 0, 1) := by decide +kernel
theorem dX12_apprentice_38 : decode cX12_apprentice 38 = .ok (.iastore, 1) := dGX12_60.1
theorem dX12_apprentice_39 : decode cX12_apprentice 39 = .ok (.aload_n 0, 1) := dGX12_60.2.1
theorem dX12_apprentice_40 : decode cX12_apprentice 40 = .ok (.getfield 36, 3) := dGX12_60.2.2.1
theorem dX12_apprentice_43 : decode cX12_apprentice 43 = .ok (.aload_n 0, 1) := dGX12_60.2.2.2.1
theorem dX12_apprentice_44 : decode cX12_apprentice 44 = .ok (.getfield 179, 3) := dGX12_60.2.2.2.2.1
theorem dX12_apprentice_47 : decode cX12_apprentice 47 = .ok (.iconst 0, 1) := dGX12_60.2.2.2.2.2
theorem dGX12_61 : decode cX12_apprentice 48 = .ok (.bastore, 1) ∧ decode cX12_apprentice 49 = .ok (.aload_n 0, 1) ∧ decode cX12_apprentice 50 = .ok (.getfield 40, 3) ∧ decode cX12_apprentice 53 = .ok (.aload_n 0, 1) ∧ decode cX12_apprentice 54 = .ok (.getfield 179, 3) ∧ decode cX12_apprentice 57 = .ok (.iconst 0, 1) := by decide +kernel
theorem dX12_apprentice_48 : decode cX12_apprentice 48 = .ok (.bastore, 1) := dGX12_61.1
theorem dX12_apprentice_49 : decode cX12_apprentice 49 = .ok (.aload_n 0, 1) := dGX12_61.2.1
theorem dX12_apprentice_50 : decode cX12_apprentice 50 = .ok (.getfield 40, 3) := dGX12_61.2.2.1
theorem dX12_apprentice_53 : decode cX12_apprentice 53 = .ok (.aload_n 0, 1) := dGX12_61.2.2.2.1
theorem dX12_apprentice_54 : decode cX12_apprentice 54 = .ok (.getfield 179, 3) := dGX12_61.2.2.2.2.1
theorem dX12_apprentice_57 : decode cX12_apprentice 57 = .ok (.iconst 0, 1) := dGX12_61.2.2.2.2.2
theorem dGX12_62 : decode cX12_apprentice 58 = .ok (.iastore, 1) ∧ decode cX12_apprentice 59 = .ok (.iconst 0, 1) ∧ decode cX12_apprentice 60 = .ok (.istore_n 2, 1) ∧ decode cX12_apprentice 61 = .ok (.iload_n 2, 1) ∧ decode cX12_apprentice 62 = .ok (.iconst 5, 1) ∧ decode cX12_apprentice 63 = .ok (.if_icmp .ge 23, 3) := by decide +kernel
theorem dX12_apprentice_58 : decode cX12_apprentice 58 = .ok (.iastore, 1) := dGX12_62.1
theorem dX12_apprentice_59 : decode cX12_apprentice 59 = .ok (.iconst 0, 1) := dGX12_62.2.1
theorem dX12_apprentice_60 : decode cX12_apprentice 60 = .ok (.istore_n 2, 1) := dGX12_62.2.2.1
theorem dX12_apprentice_61 : decode cX12_apprentice 61 = .ok (.iload_n 2, 1) := dGX12_62.2.2.2.1
theorem dX12_apprentice_62 : decode cX12_apprentice 62 = .ok (.iconst 5, 1) := dGX12_62.2.2.2.2.1
theorem dX12_apprentice_63 : decode cX12_apprentice 63 = .ok (.if_icmp .ge 23, 3) := dGX12_62.2.2.2.2.2
theorem dGX12_63 : decode cX12_apprentice 66 = .ok (.aload_n 0, 1) ∧ decode cX12_apprentice 67 = .ok (.getfield 33, 3) ∧ decode cX12_apprentice 70 = .ok (.iconst 5, 1) ∧ decode cX12_apprentice 71 = .ok (.aload_n 0, 1) ∧ decode cX12_apprentice 72 = .ok (.getfield 179, 3) ∧ decode cX12_apprentice 75 = .ok (.imul, 1) := by decide +kernel
theorem dX12_apprentice_66 : decode cX12_apprentice 66 = .ok (.aload_n 0, 1) := dGX12_63.1
theorem dX12_apprentice_67 : decode cX12_apprentice 67 = .ok (.getfield 33, 3) := dGX12_63.2.1
theorem dX12_apprentice_70 : decode cX12_apprentice 70 = .ok (.iconst 5, 1) := dGX12_63.2.2.1
theorem dX12_apprentice_71 : decode cX12_apprentice 71 = .ok (.aload_n 0, 1) := dGX12_63.2.2.2.1
theorem dX12_apprentice_72 : decode cX12_apprentice 72 = .ok (.getfield 179, 3) := dGX12_63.2.2.2.2.1
theorem dX12_apprentice_75 : decode cX12_apprentice 75 = .ok (.imul, 1) := dGX12_63.2.2.2.2.2
theorem dGX12_64 : decode cX12_apprentice 76 = .ok (.iload_n 2, 1) ∧ decode cX12_apprentice 77 = .ok (.iadd, 1) ∧ decode cX12_apprentice 78 = .ok (.iconst 0, 1) ∧ decode cX12_apprentice 79 = .ok (.iastore, 1) ∧ decode cX12_apprentice 80 = .ok (.iinc 2 1, 3) ∧ decode cX12_apprentice 83 = .ok (.goto (-22), 3) := by decide +kernel
theorem dX12_apprentice_76 : decode cX12_apprentice 76 = .ok (.iload_n 2, 1) := dGX12_64.1
theorem dX12_apprentice_77 : decode cX12_apprentice 77 = .ok (.iadd, 1) := dGX12_64.2.1
theorem dX12_apprentice_78 : decode cX12_apprentice 78 = .ok (.iconst 0, 1) := dGX12_64.2.2.1
theorem dX12_apprentice_79 : decode cX12_apprentice 79 = .ok (.iastore, 1) := dGX12_64.2.2.2.1
theorem dX12_apprentice_80 : decode cX12_apprentice 80 = .ok (.iinc 2 1, 3) := dGX12_64.2.2.2.2.1
theorem dX12_apprentice_83 : decode cX12_apprentice 83 = .ok (.goto (-22), 3) := dGX12_64.2.2.2.2.2
theorem dGX12_65 : decode cX12_apprentice 86 = .ok (.iconst 0, 1) ∧ decode cX12_apprentice 87 = .ok (.istore_n 2, 1) ∧ decode cX12_apprentice 88 = .ok (.iload_n 2, 1) ∧ decode cX12_apprentice 89 = .ok (.bipush 8, 2) ∧ decode cX12_apprentice 91 = .ok (.if_icmp .ge 39, 3) ∧ decode cX12_apprentice 94 = .ok (.aload_n 0, 1) := by decide +kernel
theorem dX12_apprentice_86 : decode cX12_apprentice 86 = .ok (.iconst 0, 1) := dGX12_65.1
theorem dX12_apprentice_87 : decode cX12_apprentice 87 = .ok (.istore_n 2, 1) := dGX12_65.2.1
theorem dX12_apprentice_88 : decode cX12_apprentice 88 = .ok (.iload_n 2, 1) := dGX12_65.2.2.1
theorem dX12_apprentice_89 : decode cX12_apprentice 89 = .ok (.bipush 8, 2) := dGX12_65.2.2.2.1
theorem dX12_apprentice_91 : decode cX12_apprentice 91 = .ok (.if_icmp .ge 39, 3) := dGX12_65.2.2.2.2.1
theorem dX12_apprentice_94 : decode cX12_apprentice 94 = .ok (.aload_n 0, 1) := dGX12_65.2.2.2.2.2
theorem dGX12_66 : decode cX12_apprentice 95 = .ok (.getfield 55, 3) ∧ decode cX12_apprentice 98 = .ok (.bipush 8, 2) ∧ decode cX12_apprentice 100 = .ok (.aload_n 0, 1) ∧ decode cX12_apprentice 101 = .ok (.getfield 179, 3) ∧ decode cX12_apprentice 104 = .ok (.imul, 1) ∧ decode cX12_apprentice 105 = .ok (.iload_n 2, 1) := by decide +kernel
theorem dX12_apprentice_95 : decode cX12_apprentice 95 = .ok (.getfield 55, 3) := dGX12_66.1
theorem dX12_apprentice_98 : decode cX12_apprentice 98 = .ok (.bipush 8, 2) := dGX12_66.2.1
theorem dX12_apprentice_100 : decode cX12_apprentice 100 = .ok (.aload_n 0, 1) := dGX12_66.2.2.1
theorem dX12_apprentice_101 : decode cX12_apprentice 101 = .ok (.getfield 179, 3) := dGX12_66.2.2.2.1
theorem dX12_apprentice_104 : decode cX12_apprentice 104 = .ok (.imul, 1) := dGX12_66.2.2.2.2.1
theorem dX12_apprentice_105 : decode cX12_apprentice 105 = .ok (.iload_n 2, 1) := dGX12_66.2.2.2.2.2
theorem dGX12_67 : decode cX12_apprentice 106 = .ok (.iadd, 1) ∧ decode cX12_apprentice 107 = .ok (.iconst 0, 1) ∧ decode cX12_apprentice 108 = .ok (.iastore, 1) ∧ decode cX12_apprentice 109 = .ok (.aload_n 0, 1) ∧ decode cX12_apprentice 110 = .ok (.getfield 58, 3) ∧ decode cX12_apprentice 113 = .ok (.bipush 8, 2) := by decide +kernel
theorem dX12_apprentice_106 : decode cX12_apprentice 106 = .ok (.iadd, 1) := dGX12_67.1
theorem dX12_apprentice_107 : decode cX12_apprentice 107 = .ok (.iconst 0, 1) := dGX12_67.2.1
theorem dX12_apprentice_108 : decode cX12_apprentice 108 = .ok (.iastore, 1) := dGX12_67.2.2.1
theorem dX12_apprentice_109 : decode cX12_apprentice 109 = .ok (.aload_n 0, 1) := dGX12_67.2.2.2.1
theorem dX12_apprentice_110 : decode cX12_apprentice 110 = .ok (.getfield 58, 3) := dGX12_67.2.2.2.2.1
theorem dX12_apprentice_113 : decode cX12_apprentice 113 = .ok (.bipush 8, 2) := dGX12_67.2.2.2.2.2
theorem dGX12_68 : decode cX12_apprentice 115 = .ok (.aload_n 0, 1) ∧ decode cX12_apprentice 116 = .ok (.getfield 179, 3) ∧ decode cX12_apprentice 119 = .ok (.imul, 1) ∧ decode cX12_apprentice 120 = .ok (.iload_n 2, 1) ∧ decode cX12_apprentice 121 = .ok (.iadd, 1) ∧ decode cX12_apprentice 122 = .ok (.iconst 0, 1) := by decide +kernel
theorem dX12_apprentice_115 : decode cX12_apprentice 115 = .ok (.aload_n 0, 1) := dGX12_68.1
theorem dX12_apprentice_116 : decode cX12_apprentice 116 = .ok (.getfield 179, 3) := dGX12_68.2.1
theorem dX12_apprentice_119 : decode cX12_apprentice 119 = .ok (.imul, 1) := dGX12_68.2.2.1
theorem dX12_apprentice_120 : decode cX12_apprentice 120 = .ok (.iload_n 2, 1) := dGX12_68.2.2.2.1
theorem dX12_apprentice_121 : decode cX12_apprentice 121 = .ok (.iadd, 1) := dGX12_68.2.2.2.2.1
theorem dX12_apprentice_122 : decode cX12_apprentice 122 = .ok (.iconst 0, 1) := dGX12_68.2.2.2.2.2
theorem dGX12_69 : decode cX12_apprentice 123 = .ok (.iastore, 1) ∧ decode cX12_apprentice 124 = .ok (.iinc 2 1, 3) ∧ decode cX12_apprentice 127 = .ok (.goto (-39), 3) ∧ decode cX12_apprentice 130 = .ok (.aload_n 0, 1) ∧ decode cX12_apprentice 131 = .ok (.dup, 1) ∧ decode cX12_apprentice 132 = .ok (.getfield 179, 3) := by decide +kernel
theorem dX12_apprentice_123 : decode cX12_apprentice 123 = .ok (.iastore, 1) := dGX12_69.1
theorem dX12_apprentice_124 : decode cX12_apprentice 124 = .ok (.iinc 2 1, 3) := dGX12_69.2.1
theorem dX12_apprentice_127 : decode cX12_apprentice 127 = .ok (.goto (-39), 3) := dGX12_69.2.2.1
theorem dX12_apprentice_130 : decode cX12_apprentice 130 = .ok (.aload_n 0, 1) := dGX12_69.2.2.2.1
theorem dX12_apprentice_131 : decode cX12_apprentice 131 = .ok (.dup, 1) := dGX12_69.2.2.2.2.1
theorem dX12_apprentice_132 : decode cX12_apprentice 132 = .ok (.getfield 179, 3) := dGX12_69.2.2.2.2.2
theorem dGX12_70 : decode cX12_apprentice 135 = .ok (.iconst 1, 1) ∧ decode cX12_apprentice 136 = .ok (.iadd, 1) ∧ decode cX12_apprentice 137 = .ok (.putfield 179, 3) ∧ decode cX12_apprentice 140 = .ok (.aload_n 0, 1) ∧ decode cX12_apprentice 141 = .ok (.getfield 179, 3) ∧ decode cX12_apprentice 144 = .ok (.iconst 1, 1) := by decide +kernel
theorem dX12_apprentice_135 : decode cX12_apprentice 135 = .ok (.iconst 1, 1) := dGX12_70.1
theorem dX12_apprentice_136 : decode cX12_apprentice 136 = .ok (.iadd, 1) := dGX12_70.2.1
theorem dX12_apprentice_137 : decode cX12_apprentice 137 = .ok (.putfield 179, 3) := dGX12_70.2.2.1
theorem dX12_apprentice_140 : decode cX12_apprentice 140 = .ok (.aload_n 0, 1) := dGX12_70.2.2.2.1
theorem dX12_apprentice_141 : decode cX12_apprentice 141 = .ok (.getfield 179, 3) := dGX12_70.2.2.2.2.1
theorem dX12_apprentice_144 : decode cX12_apprentice 144 = .ok (.iconst 1, 1) := dGX12_70.2.2.2.2.2
theorem dGX12_71 : decode cX12_apprentice 145 = .ok (.isub, 1) ∧ decode cX12_apprentice 146 = .ok (.ireturn, 1) ∧ decode cX12_master 0 = .ok (.iload_n 1, 1) ∧ decode cX12_master 1 = .ok (.i2l, 1) ∧ decode cX12_master 2 = .ok (.lconst 0, 1) ∧ decode cX12_master 3 = .ok (.ldc2_w 193, 3) := by decide +kernel
theorem dX12_apprentice_145 : decode cX12_apprentice 145 = .ok (.isub, 1) := dGX12_71.1
theorem dX12_apprentice_146 : decode cX12_apprentice 146 = .ok (.ireturn, 1) := dGX12_71.2.1
theorem dX12_master_0 : decode cX12_master 0 = .ok (.iload_n 1, 1) := dGX12_71.2.2.1
theorem dX12_master_1 : decode cX12_master 1 = .ok (.i2l, 1) := dGX12_71.2.2.2.1
theorem dX12_master_2 : decode cX12_master 2 = .ok (.lconst 0, 1) := dGX12_71.2.2.2.2.1
theorem dX12_master_3 : decode cX12_master 3 = .ok (.ldc2_w 193, 3) := dGX12_71.2.2.2.2.2
theorem dGX12_72 : decode cX12_master 6 = .ok (.invokestatic 175, 3) ∧ decode cX12_master 9 = .ok (.ifCond .eq 12, 3) ∧ decode cX12_master 12 = .ok (.aload_n 0, 1) ∧ decode cX12_master 13 = .ok (.getfield 182, 3) ∧ decode cX12_master 16 = .ok (.bipush 8, 2) ∧ decode cX12_master 18 = .ok (.if_icmp .ne 5, 3) := by decide +kernel
theorem dX12_master_6 : decode cX12_master 6 = .ok (.invokestatic 175, 3) := dGX12_72.1
theorem dX12_master_9 : decode cX12_master 9 = .ok (.ifCond .eq 12, 3) := dGX12_72.2.1
theorem dX12_master_12 : decode cX12_master 12 = .ok (.aload_n 0, 1) := dGX12_72.2.2.1
theorem dX12_master_13 : decode cX12_master 13 = .ok (.getfield 182, 3) := dGX12_72.2.2.2.1
theorem dX12_master_16 : decode cX12_master 16 = .ok (.bipush 8, 2) := dGX12_72.2.2.2.2.1
theorem dX12_master_18 : decode cX12_master 18 = .ok (.if_icmp .ne 5, 3) := dGX12_72.2.2.2.2.2
theorem dGX12_73 : decode cX12_master 21 = .ok (.iconst (-1), 1) ∧ decode cX12_master 22 = .ok (.ireturn, 1) ∧ decode cX12_master 23 = .ok (.aload_n 0, 1) ∧ decode cX12_master 24 = .ok (.getfield 43, 3) ∧ decode cX12_master 27 = .ok (.aload_n 0, 1) ∧ decode cX12_master 28 = .ok (.getfield 182, 3) := by decide +kernel
theorem dX12_master_21 : decode cX12_master 21 = .ok (.iconst (-1), 1) := dGX12_73.1
theorem dX12_master_22 : decode cX12_master 22 = .ok (.ireturn, 1) := dGX12_73.2.1
theorem dX12_master_23 : decode cX12_master 23 = .ok (.aload_n 0, 1) := dGX12_73.2.2.1
theorem dX12_master_24 : decode cX12_master 24 = .ok (.getfield 43, 3) := dGX12_73.2.2.2.1
theorem dX12_master_27 : decode cX12_master 27 = .ok (.aload_n 0, 1) := dGX12_73.2.2.2.2.1
theorem dX12_master_28 : decode cX12_master 28 = .ok (.getfield 182, 3) := dGX12_73.2.2.2.2.2
theorem dGX12_74 : decode cX12_master 31 = .ok (.iload_n 1, 1) ∧ decode cX12_master 32 = .ok (.iastore, 1) ∧ decode cX12_master 33 = .ok (.aload_n 0, 1) ∧ decode cX12_master 34 = .ok (.getfield 46, 3) ∧ decode cX12_master 37 = .ok (.aload_n 0, 1) ∧ decode cX12_master 38 = .ok (.getfield 182, 3) := by decide +kernel
theorem dX12_master_31 : decode cX12_master 31 = .ok (.iload_n 1, 1) := dGX12_74.1
theorem dX12_master_32 : decode cX12_master 32 = .ok (.iastore, 1) := dGX12_74.2.1
theorem dX12_master_33 : decode cX12_master 33 = .ok (.aload_n 0, 1) := dGX12_74.2.2.1
theorem dX12_master_34 : decode cX12_master 34 = .ok (.getfield 46, 3) := dGX12_74.2.2.2.1
theorem dX12_master_37 : decode cX12_master 37 = .ok (.aload_n 0, 1) := dGX12_74.2.2.2.2.1
theorem dX12_master_38 : decode cX12_master 38 = .ok (.getfield 182, 3) := dGX12_74.2.2.2.2.2
theorem dGX12_75 : decode cX12_master 41 = .ok (.bipush 10, 2) ∧ decode cX12_master 43 = .ok (.iastore, 1) ∧ decode cX12_master 44 = .ok (.aload_n 0, 1) ∧ decode cX12_master 45 = .ok (.getfield 49, 3) ∧ decode cX12_master 48 = .ok (.aload_n 0, 1) ∧ decode cX12_master 49 = .ok (.getfield 182, 3) := by decide +kernel
theorem dX12_master_41 : decode cX12_master 41 = .ok (.bipush 10, 2) := dGX12_75.1
theorem dX12_master_43 : decode cX12_master 43 = .ok (.iastore, 1) := dGX12_75.2.1
theorem dX12_master_44 : decode cX12_master 44 = .ok (.aload_n 0, 1) := dGX12_75.2.2.1
theorem dX12_master_45 : decode cX12_master 45 = .ok (.getfield 49, 3) := dGX12_75.2.2.2.1
theorem dX12_master_48 : decode cX12_master 48 = .ok (.aload_n 0, 1) := dGX12_75.2.2.2.2.1
theorem dX12_master_49 : decode cX12_master 49 = .ok (.getfield 182, 3) := dGX12_75.2.2.2.2.2
theorem dGX12_76 : decode cX12_master 52 = .ok (.iload_n 2, 1) ∧ decode cX12_master 53 = .ok (.bastore, 1) ∧ decode cX12_master 54 = .ok (.aload_n 0, 1) ∧ decode cX12_master 55 = .ok (.getfield 52, 3) ∧ decode cX12_master 58 = .ok (.aload_n 0, 1) ∧ decode cX12_master 59 = .ok (.getfield 182, 3) := by decide +kernel
theorem dX12_master_52 : decode cX12_master 52 = .ok (.iload_n 2, 1) := dGX12_76.1
theorem dX12_master_53 : decode cX12_master 53 = .ok (.bastore, 1) := dGX12_76.2.1
theorem dX12_master_54 : decode cX12_master 54 = .ok (.aload_n 0, 1) := dGX12_76.2.2.1
theorem dX12_master_55 : decode cX12_master 55 = .ok (.getfield 52, 3) := dGX12_76.2.2.2.1
theorem dX12_master_58 : decode cX12_master 58 = .ok (.aload_n 0, 1) := dGX12_76.2.2.2.2.1
theorem dX12_master_59 : decode cX12_master 59 = .ok (.getfield 182, 3) := dGX12_76.2.2.2.2.2
theorem dGX12_77 : decode cX12_master 62 = .ok (.iconst 0, 1) ∧ decode cX12_master 63 = .ok (.iastore, 1) ∧ decode cX12_master 64 = .ok (.iconst 0, 1) ∧ decode cX12_master 65 = .ok (.istore_n 3, 1) ∧ decode cX12_master 66 = .ok (.iload_n 3, 1) ∧ decode cX12_master 67 = .ok (.bipush 8, 2) := by decide +kernel
theorem dX12_master_62 : decode cX12_master 62 = .ok (.iconst 0, 1) := dGX12_77.1
theorem dX12_master_63 : decode cX12_master 63 = .ok (.iastore, 1) := dGX12_77.2.1
theorem dX12_master_64 : decode cX12_master 64 = .ok (.iconst 0, 1) := dGX12_77.2.2.1
theorem dX12_master_65 : decode cX12_master 65 = .ok (.istore_n 3, 1) := dGX12_77.2.2.2.1
theorem dX12_master_66 : decode cX12_master 66 = .ok (.iload_n 3, 1) := dGX12_77.2.2.2.2.1
theorem dX12_master_67 : decode cX12_master 67 = .ok (.bipush 8, 2) := dGX12_77.2.2.2.2.2
theorem dGX12_78 : decode cX12_master 69 = .ok (.if_icmp .ge 39, 3) ∧ decode cX12_master 72 = .ok (.aload_n 0, 1) ∧ decode cX12_master 73 = .ok (.getfield 55, 3) ∧ decode cX12_master 76 = .ok (.bipush 8, 2) ∧ decode cX12_master 78 = .ok (.iload_n 3, 1) ∧ decode cX12_master 79 = .ok (.imul, 1) := by decide +kernel
theorem dX12_master_69 : decode cX12_master 69 = .ok (.if_icmp .ge 39, 3) := dGX12_78.1
theorem dX12_master_72 : decode cX12_master 72 = .ok (.aload_n 0, 1) := dGX12_78.2.1
theorem dX12_master_73 : decode cX12_master 73 = .ok (.getfield 55, 3) := dGX12_78.2.2.1
theorem dX12_master_76 : decode cX12_master 76 = .ok (.bipush 8, 2) := dGX12_78.2.2.2.1
theorem dX12_master_78 : decode cX12_master 78 = .ok (.iload_n 3, 1) := dGX12_78.2.2.2.2.1
theorem dX12_master_79 : decode cX12_master 79 = .ok (.imul, 1) := dGX12_78.2.2.2.2.2
theorem dGX12_79 : decode cX12_master 80 = .ok (.aload_n 0, 1) ∧ decode cX12_master 81 = .ok (.getfield 182, 3) ∧ decode cX12_master 84 = .ok (.iadd, 1) ∧ decode cX12_master 85 = .ok (.iconst 0, 1) ∧ decode cX12_master 86 = .ok (.iastore, 1) ∧ decode cX12_master 87 = .ok (.aload_n 0, 1) := by decide +kernel
theorem dX12_master_80 : decode cX12_master 80 = .ok (.aload_n 0, 1) := dGX12_79.1
theorem dX12_master_81 : decode cX12_master 81 = .ok (.getfield 182, 3) := dGX12_79.2.1
theorem dX12_master_84 : decode cX12_master 84 = .ok (.iadd, 1) := dGX12_79.2.2.1
theorem dX12_master_85 : decode cX12_master 85 = .ok (.iconst 0, 1) := dGX12_79.2.2.2.1
theorem dX12_master_86 : decode cX12_master 86 = .ok (.iastore, 1) := dGX12_79.2.2.2.2.1
theorem dX12_master_87 : decode cX12_master 87 = .ok (.aload_n 0, 1) := dGX12_79.2.2.2.2.2
theorem dGX12_80 : decode cX12_master 88 = .ok (.getfield 58, 3) ∧ decode cX12_master 91 = .ok (.bipush 8, 2) ∧ decode cX12_master 93 = .ok (.iload_n 3, 1) ∧ decode cX12_master 94 = .ok (.imul, 1) ∧ decode cX12_master 95 = .ok (.aload_n 0, 1) ∧ decode cX12_master 96 = .ok (.getfield 182, 3) := by decide +kernel
theorem dX12_master_88 : decode cX12_master 88 = .ok (.getfield 58, 3) := dGX12_80.1
theorem dX12_master_91 : decode cX12_master 91 = .ok (.bipush 8, 2) := dGX12_80.2.1
theorem dX12_master_93 : decode cX12_master 93 = .ok (.iload_n 3, 1) := dGX12_80.2.2.1
theorem dX12_master_94 : decode cX12_master 94 = .ok (.imul, 1) := dGX12_80.2.2.2.1
theorem dX12_master_95 : decode cX12_master 95 = .ok (.aload_n 0, 1) := dGX12_80.2.2.2.2.1
theorem dX12_master_96 : decode cX12_master 96 = .ok (.getfield 182, 3) := dGX12_80.2.2.2.2.2
theorem dGX12_81 : decode cX12_master 99 = .ok (.iadd, 1) ∧ decode cX12_master 100 = .ok (.iconst 0, 1) ∧ decode cX12_master 101 = .ok (.iastore, 1) ∧ decode cX12_master 102 = .ok (.iinc 3 1, 3) ∧ decode cX12_master 105 = .ok (.goto (-39), 3) ∧ decode cX12_master 108 = .ok (.aload_n 0, 1) := by decide +kernel
theorem dX12_master_99 : decode cX12_master 99 = .ok (.iadd, 1) := dGX12_81.1
theorem dX12_master_100 : decode cX12_master 100 = .ok (.iconst 0, 1) := dGX12_81.2.1
theorem dX12_master_101 : decode cX12_master 101 = .ok (.iastore, 1) := dGX12_81.2.2.1
theorem dX12_master_102 : decode cX12_master 102 = .ok (.iinc 3 1, 3) := dGX12_81.2.2.2.1
theorem dX12_master_105 : decode cX12_master 105 = .ok (.goto (-39), 3) := dGX12_81.2.2.2.2.1
theorem dX12_master_108 : decode cX12_master 108 = .ok (.aload_n 0, 1) := dGX12_81.2.2.2.2.2
theorem dGX12_82 : decode cX12_master 109 = .ok (.dup, 1) ∧ decode cX12_master 110 = .ok (.getfield 182, 3) ∧ decode cX12_master 113 = .ok (.iconst 1, 1) ∧ decode cX12_master 114 = .ok (.iadd, 1) ∧ decode cX12_master 115 = .ok (.putfield 182, 3) ∧ decode cX12_master 118 = .ok (.aload_n 0, 1) := by decide +kernel
theorem dX12_master_109 : decode cX12_master 109 = .ok (.dup, 1) := dGX12_82.1
theorem dX12_master_110 : decode cX12_master 110 = .ok (.getfield 182, 3) := dGX12_82.2.1
theorem dX12_master_113 : decode cX12_master 113 = .ok (.iconst 1, 1) := dGX12_82.2.2.1
theorem dX12_master_114 : decode cX12_master 114 = .ok (.iadd, 1) := dGX12_82.2.2.2.1
theorem dX12_master_115 : decode cX12_master 115 = .ok (.putfield 182, 3) := dGX12_82.2.2.2.2.1
theorem dX12_master_118 : decode cX12_master 118 = .ok (.aload_n 0, 1) := dGX12_82.2.2.2.2.2
theorem dGX12_83 : decode cX12_master 119 = .ok (.getfield 182, 3) ∧ decode cX12_master 122 = .ok (.iconst 1, 1) ∧ decode cX12_master 123 = .ok (.isub, 1) ∧ decode cX12_master 124 = .ok (.ireturn, 1) ∧ decode cX12_on 0 = .ok (.aload_n 0, 1) ∧ decode cX12_on 1 = .ok (.iload_n 1, 1) := by decide +kernel
theorem dX12_master_119 : decode cX12_master 119 = .ok (.getfield 182, 3) := dGX12_83.1
theorem dX12_master_122 : decode cX12_master 122 = .ok (.iconst 1, 1) := dGX12_83.2.1
theorem dX12_master_123 : decode cX12_master 123 = .ok (.isub, 1) := dGX12_83.2.2.1
theorem dX12_master_124 : decode cX12_master 124 = .ok (.ireturn, 1) := dGX12_83.2.2.2.1
theorem dX12_on_0 : decode cX12_on 0 = .ok (.aload_n 0, 1) := dGX12_83.2.2.2.2.1
theorem dX12_on_1 : decode cX12_on 1 = .ok (.iload_n 1, 1) := dGX12_83.2.2.2.2.2
theorem dGX12_84 : decode cX12_on 2 = .ok (.invokevirtual 195, 3) ∧ decode cX12_on 5 = .ok (.ifCond .eq 16, 3) ∧ decode cX12_on 8 = .ok (.iload_n 2, 1) ∧ decode cX12_on 9 = .ok (.iconst (-1), 1) ∧ decode cX12_on 10 = .ok (.if_icmp .eq 13, 3) ∧ decode cX12_on 13 = .ok (.aload_n 0, 1) := by decide +kernel
theorem dX12_on_2 : decode cX12_on 2 = .ok (.invokevirtual 195, 3) := dGX12_84.1
theorem dX12_on_5 : decode cX12_on 5 = .ok (.ifCond .eq 16, 3) := dGX12_84.2.1
theorem dX12_on_8 : decode cX12_on 8 = .ok (.iload_n 2, 1) := dGX12_84.2.2.1
theorem dX12_on_9 : decode cX12_on 9 = .ok (.iconst (-1), 1) := dGX12_84.2.2.2.1
theorem dX12_on_10 : decode cX12_on 10 = .ok (.if_icmp .eq 13, 3) := dGX12_84.2.2.2.2.1
theorem dX12_on_13 : decode cX12_on 13 = .ok (.aload_n 0, 1) := dGX12_84.2.2.2.2.2
theorem dGX12_85 : decode cX12_on 14 = .ok (.iload_n 2, 1) ∧ decode cX12_on 15 = .ok (.invokevirtual 198, 3) ∧ decode cX12_on 18 = .ok (.ifCond .ne 5, 3) ∧ decode cX12_on 21 = .ok (.iconst 0, 1) ∧ decode cX12_on 22 = .ok (.ireturn, 1) ∧ decode cX12_on 23 = .ok (.aload_n 0, 1) := by decide +kernel
theorem dX12_on_14 : decode cX12_on 14 = .ok (.iload_n 2, 1) := dGX12_85.1
theorem dX12_on_15 : decode cX12_on 15 = .ok (.invokevirtual 198, 3) := dGX12_85.2.1
theorem dX12_on_18 : decode cX12_on 18 = .ok (.ifCond .ne 5, 3) := dGX12_85.2.2.1
theorem dX12_on_21 : decode cX12_on 21 = .ok (.iconst 0, 1) := dGX12_85.2.2.2.1
theorem dX12_on_22 : decode cX12_on 22 = .ok (.ireturn, 1) := dGX12_85.2.2.2.2.1
theorem dX12_on_23 : decode cX12_on 23 = .ok (.aload_n 0, 1) := dGX12_85.2.2.2.2.2
theorem dGX12_86 : decode cX12_on 24 = .ok (.getfield 27, 3) ∧ decode cX12_on 27 = .ok (.iload_n 1, 1) ∧ decode cX12_on 28 = .ok (.iload_n 2, 1) ∧ decode cX12_on 29 = .ok (.iconst (-1), 1) ∧ decode cX12_on 30 = .ok (.if_icmp .ne 8, 3) ∧ decode cX12_on 33 = .ok (.bipush 10, 2) := by decide +kernel
theorem dX12_on_24 : decode cX12_on 24 = .ok (.getfield 27, 3) := dGX12_86.1
theorem dX12_on_27 : decode cX12_on 27 = .ok (.iload_n 1, 1) := dGX12_86.2.1
theorem dX12_on_28 : decode cX12_on 28 = .ok (.iload_n 2, 1) := dGX12_86.2.2.1
theorem dX12_on_29 : decode cX12_on 29 = .ok (.iconst (-1), 1) := dGX12_86.2.2.2.1
theorem dX12_on_30 : decode cX12_on 30 = .ok (.if_icmp .ne 8, 3) := dGX12_86.2.2.2.2.1
theorem dX12_on_33 : decode cX12_on 33 = .ok (.bipush 10, 2) := dGX12_86.2.2.2.2.2
theorem dGX12_87 : decode cX12_on 35 = .ok (.goto 4, 3) ∧ decode cX12_on 38 = .ok (.iload_n 2, 1) ∧ decode cX12_on 39 = .ok (.iastore, 1) ∧ decode cX12_on 40 = .ok (.iconst 1, 1) ∧ decode cX12_on 41 = .ok (.ireturn, 1) ∧ decode cX12_below 0 = .ok (.aload_n 0, 1) := by decide +kernel
theorem dX12_on_35 : decode cX12_on 35 = .ok (.goto 4, 3) := dGX12_87.1
theorem dX12_on_38 : decode cX12_on 38 = .ok (.iload_n 2, 1) := dGX12_87.2.1
theorem dX12_on_39 : decode cX12_on 39 = .ok (.iastore, 1) := dGX12_87.2.2.1
theorem dX12_on_40 : decode cX12_on 40 = .ok (.iconst 1, 1) := dGX12_87.2.2.2.1
theorem dX12_on_41 : decode cX12_on 41 = .ok (.ireturn, 1) := dGX12_87.2.2.2.2.1
theorem dX12_below_0 : decode cX12_below 0 = .ok (.aload_n 0, 1) := dGX12_87.2.2.2.2.2
theorem dGX12_88 : decode cX12_below 1 = .ok (.iload_n 1, 1) ∧ decode cX12_below 2 = .ok (.invokevirtual 201, 3) ∧ decode cX12_below 5 = .ok (.ifCond .eq 16, 3) ∧ decode cX12_below 8 = .ok (.iload_n 2, 1) ∧ decode cX12_below 9 = .ok (.iconst (-1), 1) ∧ decode cX12_below 10 = .ok (.if_icmp .eq 13, 3) := by decide +kernel
theorem dX12_below_1 : decode cX12_below 1 = .ok (.iload_n 1, 1) := dGX12_88.1
theorem dX12_below_2 : decode cX12_below 2 = .ok (.invokevirtual 201, 3) := dGX12_88.2.1
theorem dX12_below_5 : decode cX12_below 5 = .ok (.ifCond .eq 16, 3) := dGX12_88.2.2.1
theorem dX12_below_8 : decode cX12_below 8 = .ok (.iload_n 2, 1) := dGX12_88.2.2.2.1
theorem dX12_below_9 : decode cX12_below 9 = .ok (.iconst (-1), 1) := dGX12_88.2.2.2.2.1
theorem dX12_below_10 : decode cX12_below 10 = .ok (.if_icmp .eq 13, 3) := dGX12_88.2.2.2.2.2
theorem dGX12_89 : decode cX12_below 13 = .ok (.aload_n 0, 1) ∧ decode cX12_below 14 = .ok (.iload_n 2, 1) ∧ decode cX12_below 15 = .ok (.invokevirtual 198, 3) ∧ decode cX12_below 18 = .ok (.ifCond .ne 5, 3) ∧ decode cX12_below 21 = .ok (.iconst 0, 1) ∧ decode cX12_below 22 = .ok (.ireturn, 1) := by decide +kernel
theorem dX12_below_13 : decode cX12_below 13 = .ok (.aload_n 0, 1) := dGX12_89.1
theorem dX12_below_14 : decode cX12_below 14 = .ok (.iload_n 2, 1) := dGX12_89.2.1
theorem dX12_below_15 : decode cX12_below 15 = .ok (.invokevirtual 198, 3) := dGX12_89.2.2.1
theorem dX12_below_18 : decode cX12_below 18 = .ok (.ifCond .ne 5, 3) := dGX12_89.2.2.2.1
theorem dX12_below_21 : decode cX12_below 21 = .ok (.iconst 0, 1) := dGX12_89.2.2.2.2.1
theorem dX12_below_22 : decode cX12_below 22 = .ok (.ireturn, 1) := dGX12_89.2.2.2.2.2
theorem dGX12_90 : decode cX12_below 23 = .ok (.aload_n 0, 1) ∧ decode cX12_below 24 = .ok (.getfield 46, 3) ∧ decode cX12_below 27 = .ok (.iload_n 1, 1) ∧ decode cX12_below 28 = .ok (.iload_n 2, 1) ∧ decode cX12_below 29 = .ok (.iconst (-1), 1) ∧ decode cX12_below 30 = .ok (.if_icmp .ne 8, 3) := by decide +kernel
theorem dX12_below_23 : decode cX12_below 23 = .ok (.aload_n 0, 1) := dGX12_90.1
theorem dX12_below_24 : decode cX12_below 24 = .ok (.getfield 46, 3) := dGX12_90.2.1
theorem dX12_below_27 : decode cX12_below 27 = .ok (.iload_n 1, 1) := dGX12_90.2.2.1
theorem dX12_below_28 : decode cX12_below 28 = .ok (.iload_n 2, 1) := dGX12_90.2.2.2.1
theorem dX12_below_29 : decode cX12_below 29 = .ok (.iconst (-1), 1) := dGX12_90.2.2.2.2.1
theorem dX12_below_30 : decode cX12_below 30 = .ok (.if_icmp .ne 8, 3) := dGX12_90.2.2.2.2.2
theorem dGX12_91 : decode cX12_below 33 = .ok (.bipush 10, 2) ∧ decode cX12_below 35 = .ok (.goto 4, 3) ∧ decode cX12_below 38 = .ok (.iload_n 2, 1) ∧ decode cX12_below 39 = .ok (.iastore, 1) ∧ decode cX12_below 40 = .ok (.iconst 1, 1) ∧ decode cX12_below 41 = .ok (.ireturn, 1) := by decide +kernel
theorem dX12_below_33 : decode cX12_below 33 = .ok (.bipush 10, 2) := dGX12_91.1
theorem dX12_below_35 : decode cX12_below 35 = .ok (.goto 4, 3) := dGX12_91.2.1
theorem dX12_below_38 : decode cX12_below 38 = .ok (.iload_n 2, 1) := dGX12_91.2.2.1
theorem dX12_below_39 : decode cX12_below 39 = .ok (.iastore, 1) := dGX12_91.2.2.2.1
theorem dX12_below_40 : decode cX12_below 40 = .ok (.iconst 1, 1) := dGX12_91.2.2.2.2.1
theorem dX12_below_41 : decode cX12_below 41 = .ok (.ireturn, 1) := dGX12_91.2.2.2.2.2
theorem dGX12_92 : decode cX12_gear 0 = .ok (.iload_n 1, 1) ∧ decode cX12_gear 1 = .ok (.ifCond .ne 30, 3) ∧ decode cX12_gear 4 = .ok (.aload_n 0, 1) ∧ decode cX12_gear 5 = .ok (.iload_n 2, 1) ∧ decode cX12_gear 6 = .ok (.invokevirtual 195, 3) ∧ decode cX12_gear 9 = .ok (.ifCond .eq 22, 3) := by decide +kernel
theorem dX12_gear_0 : decode cX12_gear 0 = .ok (.iload_n 1, 1) := dGX12_92.1
theorem dX12_gear_1 : decode cX12_gear 1 = .ok (.ifCond .ne 30, 3) := dGX12_92.2.1
theorem dX12_gear_4 : decode cX12_gear 4 = .ok (.aload_n 0, 1) := dGX12_92.2.2.1
theorem dX12_gear_5 : decode cX12_gear 5 = .ok (.iload_n 2, 1) := dGX12_92.2.2.2.1
theorem dX12_gear_6 : decode cX12_gear 6 = .ok (.invokevirtual 195, 3) := dGX12_92.2.2.2.2.1
theorem dX12_gear_9 : decode cX12_gear 9 = .ok (.ifCond .eq 22, 3) := dGX12_92.2.2.2.2.2
theorem dGX12_93 : decode cX12_gear 12 = .ok (.aload_n 0, 1) ∧ decode cX12_gear 13 = .ok (.getfield 36, 3) ∧ decode cX12_gear 16 = .ok (.iload_n 2, 1) ∧ decode cX12_gear 17 = .ok (.baload, 1) ∧ decode cX12_gear 18 = .ok (.iload_n 3, 1) ∧ decode cX12_gear 19 = .ok (.if_icmp .eq 12, 3) := by decide +kernel
theorem dX12_gear_12 : decode cX12_gear 12 = .ok (.aload_n 0, 1) := dGX12_93.1
theorem dX12_gear_13 : decode cX12_gear 13 = .ok (.getfield 36, 3) := dGX12_93.2.1
theorem dX12_gear_16 : decode cX12_gear 16 = .ok (.iload_n 2, 1) := dGX12_93.2.2.1
theorem dX12_gear_17 : decode cX12_gear 17 = .ok (.baload, 1) := dGX12_93.2.2.2.1
theorem dX12_gear_18 : decode cX12_gear 18 = .ok (.iload_n 3, 1) := dGX12_93.2.2.2.2.1
theorem dX12_gear_19 : decode cX12_gear 19 = .ok (.if_icmp .eq 12, 3) := dGX12_93.2.2.2.2.2
theorem dGX12_94 : decode cX12_gear 22 = .ok (.aload_n 0, 1) ∧ decode cX12_gear 23 = .ok (.getfield 36, 3) ∧ decode cX12_gear 26 = .ok (.iload_n 2, 1) ∧ decode cX12_gear 27 = .ok (.iload_n 3, 1) ∧ decode cX12_gear 28 = .ok (.bastore, 1) ∧ decode cX12_gear 29 = .ok (.iconst 1, 1) := by decide +kernel
theorem dX12_gear_22 : decode cX12_gear 22 = .ok (.aload_n 0, 1) := dGX12_94.1
theorem dX12_gear_23 : decode cX12_gear 23 = .ok (.getfield 36, 3) := dGX12_94.2.1
theorem dX12_gear_26 : decode cX12_gear 26 = .ok (.iload_n 2, 1) := dGX12_94.2.2.1
theorem dX12_gear_27 : decode cX12_gear 27 = .ok (.iload_n 3, 1) := dGX12_94.2.2.2.1
theorem dX12_gear_28 : decode cX12_gear 28 = .ok (.bastore, 1) := dGX12_94.2.2.2.2.1
theorem dX12_gear_29 : decode cX12_gear 29 = .ok (.iconst 1, 1) := dGX12_94.2.2.2.2.2
theorem dGX12_95 : decode cX12_gear 30 = .ok (.ireturn, 1) ∧ decode cX12_gear 31 = .ok (.iload_n 1, 1) ∧ decode cX12_gear 32 = .ok (.iconst 1, 1) ∧ decode cX12_gear 33 = .ok (.if_icmp .ne 21, 3) ∧ decode cX12_gear 36 = .ok (.aload_n 0, 1) ∧ decode cX12_gear 37 = .ok (.iload_n 2, 1) := by decide +kernel
theorem dX12_gear_30 : decode cX12_gear 30 = .ok (.ireturn, 1) := dGX12_95.1
theorem dX12_gear_31 : decode cX12_gear 31 = .ok (.iload_n 1, 1) := dGX12_95.2.1
theorem dX12_gear_32 : decode cX12_gear 32 = .ok (.iconst 1, 1) := dGX12_95.2.2.1
theorem dX12_gear_33 : decode cX12_gear 33 = .ok (.if_icmp .ne 21, 3) := dGX12_95.2.2.2.1
theorem dX12_gear_36 : decode cX12_gear 36 = .ok (.aload_n 0, 1) := dGX12_95.2.2.2.2.1
theorem dX12_gear_37 : decode cX12_gear 37 = .ok (.iload_n 2, 1) := dGX12_95.2.2.2.2.2
theorem dGX12_96 : decode cX12_gear 38 = .ok (.invokevirtual 201, 3) ∧ decode cX12_gear 41 = .ok (.ifCond .eq 13, 3) ∧ decode cX12_gear 44 = .ok (.aload_n 0, 1) ∧ decode cX12_gear 45 = .ok (.getfield 49, 3) ∧ decode cX12_gear 48 = .ok (.iload_n 2, 1) ∧ decode cX12_gear 49 = .ok (.baload, 1) := by decide +kernel
theorem dX12_gear_38 : decode cX12_gear 38 = .ok (.invokevirtual 201, 3) := dGX12_96.1
theorem dX12_gear_41 : decode cX12_gear 41 = .ok (.ifCond .eq 13, 3) := dGX12_96.2.1
theorem dX12_gear_44 : decode cX12_gear 44 = .ok (.aload_n 0, 1) := dGX12_96.2.2.1
theorem dX12_gear_45 : decode cX12_gear 45 = .ok (.getfield 49, 3) := dGX12_96.2.2.2.1
theorem dX12_gear_48 : decode cX12_gear 48 = .ok (.iload_n 2, 1) := dGX12_96.2.2.2.2.1
theorem dX12_gear_49 : decode cX12_gear 49 = .ok (.baload, 1) := dGX12_96.2.2.2.2.2
theorem dGX12_97 : decode cX12_gear 50 = .ok (.iload_n 3, 1) ∧ decode cX12_gear 51 = .ok (.if_icmp .ne 5, 3) ∧ decode cX12_gear 54 = .ok (.iconst 0, 1) ∧ decode cX12_gear 55 = .ok (.ireturn, 1) ∧ decode cX12_gear 56 = .ok (.aload_n 0, 1) ∧ decode cX12_gear 57 = .ok (.getfield 49, 3) := by decide +kernel
theorem dX12_gear_50 : decode cX12_gear 50 = .ok (.iload_n 3, 1) := dGX12_97.1
theorem dX12_gear_51 : decode cX12_gear 51 = .ok (.if_icmp .ne 5, 3) := dGX12_97.2.1
theorem dX12_gear_54 : decode cX12_gear 54 = .ok (.iconst 0, 1) := dGX12_97.2.2.1
theorem dX12_gear_55 : decode cX12_gear 55 = .ok (.ireturn, 1) := dGX12_97.2.2.2.1
theorem dX12_gear_56 : decode cX12_gear 56 = .ok (.aload_n 0, 1) := dGX12_97.2.2.2.2.1
theorem dX12_gear_57 : decode cX12_gear 57 = .ok (.getfield 49, 3) := dGX12_97.2.2.2.2.2
theorem dGX12_98 : decode cX12_gear 60 = .ok (.iload_n 2, 1) ∧ decode cX12_gear 61 = .ok (.iload_n 3, 1) ∧ decode cX12_gear 62 = .ok (.bastore, 1) ∧ decode cX12_gear 63 = .ok (.iconst 1, 1) ∧ decode cX12_gear 64 = .ok (.ireturn, 1) ∧ decode cX12_snow 0 = .ok (.iload_n 1, 1) := by decide +kernel
theorem dX12_gear_60 : decode cX12_gear 60 = .ok (.iload_n 2, 1) := dGX12_98.1
theorem dX12_gear_61 : decode cX12_gear 61 = .ok (.iload_n 3, 1) := dGX12_98.2.1
theorem dX12_gear_62 : decode cX12_gear 62 = .ok (.bastore, 1) := dGX12_98.2.2.1
theorem dX12_gear_63 : decode cX12_gear 63 = .ok (.iconst 1, 1) := dGX12_98.2.2.2.1
theorem dX12_gear_64 : decode cX12_gear 64 = .ok (.ireturn, 1) := dGX12_98.2.2.2.2.1
theorem dX12_snow_0 : decode cX12_snow 0 = .ok (.iload_n 1, 1) := dGX12_98.2.2.2.2.2
theorem dGX12_99 : decode cX12_snow 1 = .ok (.i2l, 1) ∧ decode cX12_snow 2 = .ok (.lconst 0, 1) ∧ decode cX12_snow 3 = .ok (.ldc2_w 187, 3) ∧ decode cX12_snow 6 = .ok (.invokestatic 175, 3) ∧ decode cX12_snow 9 = .ok (.ifCond .eq 13, 3) ∧ decode cX12_snow 12 = .ok (.aload_n 0, 1) := by decide +kernel
theorem dX12_snow_1 : decode cX12_snow 1 = .ok (.i2l, 1) := dGX12_99.1
theorem dX12_snow_2 : decode cX12_snow 2 = .ok (.lconst 0, 1) := dGX12_99.2.1
theorem dX12_snow_3 : decode cX12_snow 3 = .ok (.ldc2_w 187, 3) := dGX12_99.2.2.1
theorem dX12_snow_6 : decode cX12_snow 6 = .ok (.invokestatic 175, 3) := dGX12_99.2.2.2.1
theorem dX12_snow_9 : decode cX12_snow 9 = .ok (.ifCond .eq 13, 3) := dGX12_99.2.2.2.2.1
theorem dX12_snow_12 : decode cX12_snow 12 = .ok (.aload_n 0, 1) := dGX12_99.2.2.2.2.2
theorem dGX12_100 : decode cX12_snow 13 = .ok (.getfield 61, 3) ∧ decode cX12_snow 16 = .ok (.iload_n 1, 1) ∧ decode cX12_snow 17 = .ok (.baload, 1) ∧ decode cX12_snow 18 = .ok (.iload_n 2, 1) ∧ decode cX12_snow 19 = .ok (.if_icmp .ne 5, 3) ∧ decode cX12_snow 22 = .ok (.iconst 0, 1) := by decide +kernel
theorem dX12_snow_13 : decode cX12_snow 13 = .ok (.getfield 61, 3) := dGX12_100.1
theorem dX12_snow_16 : decode cX12_snow 16 = .ok (.iload_n 1, 1) := dGX12_100.2.1
theorem dX12_snow_17 : decode cX12_snow 17 = .ok (.baload, 1) := dGX12_100.2.2.1
theorem dX12_snow_18 : decode cX12_snow 18 = .ok (.iload_n 2, 1) := dGX12_100.2.2.2.1
theorem dX12_snow_19 : decode cX12_snow 19 = .ok (.if_icmp .ne 5, 3) := dGX12_100.2.2.2.2.1
theorem dX12_snow_22 : decode cX12_snow 22 = .ok (.iconst 0, 1) := dGX12_100.2.2.2.2.2
theorem dGX12_101 : decode cX12_snow 23 = .ok (.ireturn, 1) ∧ decode cX12_snow 24 = .ok (.aload_n 0, 1) ∧ decode cX12_snow 25 = .ok (.getfield 61, 3) ∧ decode cX12_snow 28 = .ok (.iload_n 1, 1) ∧ decode cX12_snow 29 = .ok (.iload_n 2, 1) ∧ decode cX12_snow 30 = .ok (.bastore, 1) := by decide +kernel
theorem dX12_snow_23 : decode cX12_snow 23 = .ok (.ireturn, 1) := dGX12_101.1
theorem dX12_snow_24 : decode cX12_snow 24 = .ok (.aload_n 0, 1) := dGX12_101.2.1
theorem dX12_snow_25 : decode cX12_snow 25 = .ok (.getfield 61, 3) := dGX12_101.2.2.1
theorem dX12_snow_28 : decode cX12_snow 28 = .ok (.iload_n 1, 1) := dGX12_101.2.2.2.1
theorem dX12_snow_29 : decode cX12_snow 29 = .ok (.iload_n 2, 1) := dGX12_101.2.2.2.2.1
theorem dX12_snow_30 : decode cX12_snow 30 = .ok (.bastore, 1) := dGX12_101.2.2.2.2.2
theorem dGX12_102 : decode cX12_snow 31 = .ok (.iconst 1, 1) ∧ decode cX12_snow 32 = .ok (.ireturn, 1) ∧ decode cX12_push 0 = .ok (.bipush 24, 2) ∧ decode cX12_push 2 = .ok (.istore_n 2, 1) ∧ decode cX12_push 3 = .ok (.iload_n 2, 1) ∧ decode cX12_push 4 = .ok (.ifCond .lt 32, 3) := by decide +kernel
theorem dX12_snow_31 : decode cX12_snow 31 = .ok (.iconst 1, 1) := dGX12_102.1
theorem dX12_snow_32 : decode cX12_snow 32 = .ok (.ireturn, 1) := dGX12_102.2.1
theorem dX12_push_0 : decode cX12_push 0 = .ok (.bipush 24, 2) := dGX12_102.2.2.1
theorem dX12_push_2 : decode cX12_push 2 = .ok (.istore_n 2, 1) := dGX12_102.2.2.2.1
theorem dX12_push_3 : decode cX12_push 3 = .ok (.iload_n 2, 1) := dGX12_102.2.2.2.2.1
theorem dX12_push_4 : decode cX12_push 4 = .ok (.ifCond .lt 32, 3) := dGX12_102.2.2.2.2.2
theorem dGX12_103 : decode cX12_push 7 = .ok (.aload_n 0, 1) ∧ decode cX12_push 8 = .ok (.getfield 7, 3) ∧ decode cX12_push 11 = .ok (.aload_n 0, 1) ∧ decode cX12_push 12 = .ok (.getfield 204, 3) ∧ decode cX12_push 15 = .ok (.iload_n 1, 1) ∧ decode cX12_push 16 = .ok (.iload_n 2, 1) := by decide +kernel
theorem dX12_push_7 : decode cX12_push 7 = .ok (.aload_n 0, 1) := dGX12_103.1
theorem dX12_push_8 : decode cX12_push 8 = .ok (.getfield 7, 3) := dGX12_103.2.1
theorem dX12_push_11 : decode cX12_push 11 = .ok (.aload_n 0, 1) := dGX12_103.2.2.1
theorem dX12_push_12 : decode cX12_push 12 = .ok (.getfield 204, 3) := dGX12_103.2.2.2.1
theorem dX12_push_15 : decode cX12_push 15 = .ok (.iload_n 1, 1) := dGX12_103.2.2.2.2.1
theorem dX12_push_16 : decode cX12_push 16 = .ok (.iload_n 2, 1) := dGX12_103.2.2.2.2.2
theorem dGX12_104 : decode cX12_push 17 = .ok (.ishr, 1) ∧ decode cX12_push 18 = .ok (.i2b, 1) ∧ decode cX12_push 19 = .ok (.bastore, 1) ∧ decode cX12_push 20 = .ok (.aload_n 0, 1) ∧ decode cX12_push 21 = .ok (.dup, 1) ∧ decode cX12_push 22 = .ok (.getfield 204, 3) := by decide +kernel
theorem dX12_push_17 : decode cX12_push 17 = .ok (.ishr, 1) := dGX12_104.1
theorem dX12_push_18 : decode cX12_push 18 = .ok (.i2b, 1) := dGX12_104.2.1
theorem dX12_push_19 : decode cX12_push 19 = .ok (.bastore, 1) := dGX12_104.2.2.1
theorem dX12_push_20 : decode cX12_push 20 = .ok (.aload_n 0, 1) := dGX12_104.2.2.2.1
theorem dX12_push_21 : decode cX12_push 21 = .ok (.dup, 1) := dGX12_104.2.2.2.2.1
theorem dX12_push_22 : decode cX12_push 22 = .ok (.getfield 204, 3) := dGX12_104.2.2.2.2.2
theorem dGX12_105 : decode cX12_push 25 = .ok (.iconst 1, 1) ∧ decode cX12_push 26 = .ok (.iadd, 1) ∧ decode cX12_push 27 = .ok (.putfield 204, 3) ∧ decode cX12_push 30 = .ok (.iinc 2 (-8), 3) ∧ decode cX12_push 33 = .ok (.goto (-30), 3) ∧ decode cX12_push 36 = .ok (.return_, 1) := by decide +kernel
theorem dX12_push_25 : decode cX12_push 25 = .ok (.iconst 1, 1) := dGX12_105.1
theorem dX12_push_26 : decode cX12_push 26 = .ok (.iadd, 1) := dGX12_105.2.1
theorem dX12_push_27 : decode cX12_push 27 = .ok (.putfield 204, 3) := dGX12_105.2.2.1
theorem dX12_push_30 : decode cX12_push 30 = .ok (.iinc 2 (-8), 3) := dGX12_105.2.2.2.1
theorem dX12_push_33 : decode cX12_push 33 = .ok (.goto (-30), 3) := dGX12_105.2.2.2.2.1
theorem dX12_push_36 : decode cX12_push 36 = .ok (.return_, 1) := dGX12_105.2.2.2.2.2
theorem dGX12_106 : decode cX12_feed 0 = .ok (.aload_n 0, 1) ∧ decode cX12_feed 1 = .ok (.getfield 204, 3) ∧ decode cX12_feed 4 = .ok (.bipush 20, 2) ∧ decode cX12_feed 6 = .ok (.iadd, 1) ∧ decode cX12_feed 7 = .ok (.sipush 220, 3) ∧ decode cX12_feed 10 = .ok (.if_icmp .le 5, 3) := by decide +kernel
theorem dX12_feed_0 : decode cX12_feed 0 = .ok (.aload_n 0, 1) := dGX12_106.1
theorem dX12_feed_1 : decode cX12_feed 1 = .ok (.getfield 204, 3) := dGX12_106.2.1
theorem dX12_feed_4 : decode cX12_feed 4 = .ok (.bipush 20, 2) := dGX12_106.2.2.1
theorem dX12_feed_6 : decode cX12_feed 6 = .ok (.iadd, 1) := dGX12_106.2.2.2.1
theorem dX12_feed_7 : decode cX12_feed 7 = .ok (.sipush 220, 3) := dGX12_106.2.2.2.2.1
theorem dX12_feed_10 : decode cX12_feed 10 = .ok (.if_icmp .le 5, 3) := dGX12_106.2.2.2.2.2
theorem dGX12_107 : decode cX12_feed 13 = .ok (.iconst (-1), 1) ∧ decode cX12_feed 14 = .ok (.ireturn, 1) ∧ decode cX12_feed 15 = .ok (.aload_n 0, 1) ∧ decode cX12_feed 16 = .ok (.iload_n 1, 1) ∧ decode cX12_feed 17 = .ok (.invokevirtual 207, 3) ∧ decode cX12_feed 20 = .ok (.aload_n 0, 1) := by decide +kernel
theorem dX12_feed_13 : decode cX12_feed 13 = .ok (.iconst (-1), 1) := dGX12_107.1
theorem dX12_feed_14 : decode cX12_feed 14 = .ok (.ireturn, 1) := dGX12_107.2.1
theorem dX12_feed_15 : decode cX12_feed 15 = .ok (.aload_n 0, 1) := dGX12_107.2.2.1
theorem dX12_feed_16 : decode cX12_feed 16 = .ok (.iload_n 1, 1) := dGX12_107.2.2.2.1
theorem dX12_feed_17 : decode cX12_feed 17 = .ok (.invokevirtual 207, 3) := dGX12_107.2.2.2.2.1
theorem dX12_feed_20 : decode cX12_feed 20 = .ok (.aload_n 0, 1) := dGX12_107.2.2.2.2.2
theorem dGX12_108 : decode cX12_feed 21 = .ok (.iload_n 2, 1) ∧ decode cX12_feed 22 = .ok (.invokevirtual 207, 3) ∧ decode cX12_feed 25 = .ok (.aload_n 0, 1) ∧ decode cX12_feed 26 = .ok (.iload_n 3, 1) ∧ decode cX12_feed 27 = .ok (.invokevirtual 207, 3) ∧ decode cX12_feed 30 = .ok (.aload_n 0, 1) := by decide +kernel
theorem dX12_feed_21 : decode cX12_feed 21 = .ok (.iload_n 2, 1) := dGX12_108.1
theorem dX12_feed_22 : decode cX12_feed 22 = .ok (.invokevirtual 207, 3) := dGX12_108.2.1
theorem dX12_feed_25 : decode cX12_feed 25 = .ok (.aload_n 0, 1) := dGX12_108.2.2.1
theorem dX12_feed_26 : decode cX12_feed 26 = .ok (.iload_n 3, 1) := dGX12_108.2.2.2.1
theorem dX12_feed_27 : decode cX12_feed 27 = .ok (.invokevirtual 207, 3) := dGX12_108.2.2.2.2.1
theorem dX12_feed_30 : decode cX12_feed 30 = .ok (.aload_n 0, 1) := dGX12_108.2.2.2.2.2
theorem dGX12_109 : decode cX12_feed 31 = .ok (.iload 4, 2) ∧ decode cX12_feed 33 = .ok (.invokevirtual 207, 3) ∧ decode cX12_feed 36 = .ok (.aload_n 0, 1) ∧ decode cX12_feed 37 = .ok (.iload 5, 2) ∧ decode cX12_feed 39 = .ok (.invokevirtual 207, 3) ∧ decode cX12_feed 42 = .ok (.aload_n 0, 1) := by decide +kernel
theorem dX12_feed_31 : decode cX12_feed 31 = .ok (.iload 4, 2) := dGX12_109.1
theorem dX12_feed_33 : decode cX12_feed 33 = .ok (.invokevirtual 207, 3) := dGX12_109.2.1
theorem dX12_feed_36 : decode cX12_feed 36 = .ok (.aload_n 0, 1) := dGX12_109.2.2.1
theorem dX12_feed_37 : decode cX12_feed 37 = .ok (.iload 5, 2) := dGX12_109.2.2.2.1
theorem dX12_feed_39 : decode cX12_feed 39 = .ok (.invokevirtual 207, 3) := dGX12_109.2.2.2.2.1
theorem dX12_feed_42 : decode cX12_feed 42 = .ok (.aload_n 0, 1) := dGX12_109.2.2.2.2.2
theorem dGX12_110 : decode cX12_feed 43 = .ok (.getfield 204, 3) ∧ decode cX12_feed 46 = .ok (.ireturn, 1) ∧ decode cX12_byteAt 0 = .ok (.aload_n 0, 1) ∧ decode cX12_byteAt 1 = .ok (.getfield 7, 3) ∧ decode cX12_byteAt 4 = .ok (.iload_n 1, 1) ∧ decode cX12_byteAt 5 = .ok (.baload, 1) := by decide +kernel
theorem dX12_feed_43 : decode cX12_feed 43 = .ok (.getfield 204, 3) := dGX12_110.1
theorem dX12_feed_46 : decode cX12_feed 46 = .ok (.ireturn, 1) := dGX12_110.2.1
theorem dX12_byteAt_0 : decode cX12_byteAt 0 = .ok (.aload_n 0, 1) := dGX12_110.2.2.1
theorem dX12_byteAt_1 : decode cX12_byteAt 1 = .ok (.getfield 7, 3) := dGX12_110.2.2.2.1
theorem dX12_byteAt_4 : decode cX12_byteAt 4 = .ok (.iload_n 1, 1) := dGX12_110.2.2.2.2.1
theorem dX12_byteAt_5 : decode cX12_byteAt 5 = .ok (.baload, 1) := dGX12_110.2.2.2.2.2
theorem dGX12_111 : decode cX12_byteAt 6 = .ok (.sipush 255, 3) ∧ decode cX12_byteAt 9 = .ok (.iand, 1) ∧ decode cX12_byteAt 10 = .ok (.ireturn, 1) ∧ decode cX12_here 0 = .ok (.aload_n 0, 1) ∧ decode cX12_here 1 = .ok (.getfield 211, 3) ∧ decode cX12_here 4 = .ok (.aload_n 0, 1) := by decide +kernel
theorem dX12_byteAt_6 : decode cX12_byteAt 6 = .ok (.sipush 255, 3) := dGX12_111.1
theorem dX12_byteAt_9 : decode cX12_byteAt 9 = .ok (.iand, 1) := dGX12_111.2.1
theorem dX12_byteAt_10 : decode cX12_byteAt 10 = .ok (.ireturn, 1) := dGX12_111.2.2.1
theorem dX12_here_0 : decode cX12_here 0 = .ok (.aload_n 0, 1) := dGX12_111.2.2.2.1
theorem dX12_here_1 : decode cX12_here 1 = .ok (.getfield 211, 3) := dGX12_111.2.2.2.2.1
theorem dX12_here_4 : decode cX12_here 4 = .ok (.aload_n 0, 1) := dGX12_111.2.2.2.2.2
theorem dGX12_112 : decode cX12_here 5 = .ok (.getfield 214, 3) ∧ decode cX12_here 8 = .ok (.if_icmp .ge 19, 3) ∧ decode cX12_here 11 = .ok (.aload_n 0, 1) ∧ decode cX12_here 12 = .ok (.getfield 7, 3) ∧ decode cX12_here 15 = .ok (.aload_n 0, 1) ∧ decode cX12_here 16 = .ok (.getfield 211, 3) := by decide +kernel
theorem dX12_here_5 : decode cX12_here 5 = .ok (.getfield 214, 3) := dGX12_112.1
theorem dX12_here_8 : decode cX12_here 8 = .ok (.if_icmp .ge 19, 3) := dGX12_112.2.1
theorem dX12_here_11 : decode cX12_here 11 = .ok (.aload_n 0, 1) := dGX12_112.2.2.1
theorem dX12_here_12 : decode cX12_here 12 = .ok (.getfield 7, 3) := dGX12_112.2.2.2.1
theorem dX12_here_15 : decode cX12_here 15 = .ok (.aload_n 0, 1) := dGX12_112.2.2.2.2.1
theorem dX12_here_16 : decode cX12_here 16 = .ok (.getfield 211, 3) := dGX12_112.2.2.2.2.2
theorem dGX12_113 : decode cX12_here 19 = .ok (.baload, 1) ∧ decode cX12_here 20 = .ok (.sipush 255, 3) ∧ decode cX12_here 23 = .ok (.iand, 1) ∧ decode cX12_here 24 = .ok (.goto 4, 3) ∧ decode cX12_here 27 = .ok (.iconst 0, 1) ∧ decode cX12_here 28 = .ok (.ireturn, 1) := by decide +kernel
theorem dX12_here_19 : decode cX12_here 19 = .ok (.baload, 1) := dGX12_113.1
theorem dX12_here_20 : decode cX12_here 20 = .ok (.sipush 255, 3) := dGX12_113.2.1
theorem dX12_here_23 : decode cX12_here 23 = .ok (.iand, 1) := dGX12_113.2.2.1
theorem dX12_here_24 : decode cX12_here 24 = .ok (.goto 4, 3) := dGX12_113.2.2.2.1
theorem dX12_here_27 : decode cX12_here 27 = .ok (.iconst 0, 1) := dGX12_113.2.2.2.2.1
theorem dX12_here_28 : decode cX12_here 28 = .ok (.ireturn, 1) := dGX12_113.2.2.2.2.2
theorem dGX12_114 : decode cX12_wrongs 0 = .ok (.aload_n 0, 1) ∧ decode cX12_wrongs 1 = .ok (.aload_n 0, 1) ∧ decode cX12_wrongs 2 = .ok (.getfield 217, 3) ∧ decode cX12_wrongs 5 = .ok (.ifCond .ge 10, 3) ∧ decode cX12_wrongs 8 = .ok (.aload_n 0, 1) ∧ decode cX12_wrongs 9 = .ok (.getfield 217, 3) := by decide +kernel
theorem dX12_wrongs_0 : decode cX12_wrongs 0 = .ok (.aload_n 0, 1) := dGX12_114.1
theorem dX12_wrongs_1 : decode cX12_wrongs 1 = .ok (.aload_n 0, 1) := dGX12_114.2.1
theorem dX12_wrongs_2 : decode cX12_wrongs 2 = .ok (.getfield 217, 3) := dGX12_114.2.2.1
theorem dX12_wrongs_5 : decode cX12_wrongs 5 = .ok (.ifCond .ge 10, 3) := dGX12_114.2.2.2.1
theorem dX12_wrongs_8 : decode cX12_wrongs 8 = .ok (.aload_n 0, 1) := dGX12_114.2.2.2.2.1
theorem dX12_wrongs_9 : decode cX12_wrongs 9 = .ok (.getfield 217, 3) := dGX12_114.2.2.2.2.2
theorem dGX12_115 : decode cX12_wrongs 12 = .ok (.goto 10, 3) ∧ decode cX12_wrongs 15 = .ok (.sipush (-1000), 3) ∧ decode cX12_wrongs 18 = .ok (.iload_n 1, 1) ∧ decode cX12_wrongs 19 = .ok (.imul, 1) ∧ decode cX12_wrongs 20 = .ok (.iload_n 2, 1) ∧ decode cX12_wrongs 21 = .ok (.isub, 1) := by decide +kernel
theorem dX12_wrongs_12 : decode cX12_wrongs 12 = .ok (.goto 10, 3) := dGX12_115.1
theorem dX12_wrongs_15 : decode cX12_wrongs 15 = .ok (.sipush (-1000), 3) := dGX12_115.2.1
theorem dX12_wrongs_18 : decode cX12_wrongs 18 = .ok (.iload_n 1, 1) := dGX12_115.2.2.1
theorem dX12_wrongs_19 : decode cX12_wrongs 19 = .ok (.imul, 1) := dGX12_115.2.2.2.1
theorem dX12_wrongs_20 : decode cX12_wrongs 20 = .ok (.iload_n 2, 1) := dGX12_115.2.2.2.2.1
theorem dX12_wrongs_21 : decode cX12_wrongs 21 = .ok (.isub, 1) := dGX12_115.2.2.2.2.2
theorem dGX12_116 : decode cX12_wrongs 22 = .ok (.putfield 217, 3) ∧ decode cX12_wrongs 25 = .ok (.return_, 1) ∧ decode cX12_isGood 0 = .ok (.aload_n 0, 1) ∧ decode cX12_isGood 1 = .ok (.getfield 217, 3) ∧ decode cX12_isGood 4 = .ok (.ifCond .ne 7, 3) ∧ decode cX12_isGood 7 = .ok (.iconst 1, 1) := by decide +kernel
theorem dX12_wrongs_22 : decode cX12_wrongs 22 = .ok (.putfield 217, 3) := dGX12_116.1
theorem dX12_wrongs_25 : decode cX12_wrongs 25 = .ok (.return_, 1) := dGX12_116.2.1
theorem dX12_isGood_0 : decode cX12_isGood 0 = .ok (.aload_n 0, 1) := dGX12_116.2.2.1
theorem dX12_isGood_1 : decode cX12_isGood 1 = .ok (.getfield 217, 3) := dGX12_116.2.2.2.1
theorem dX12_isGood_4 : decode cX12_isGood 4 = .ok (.ifCond .ne 7, 3) := dGX12_116.2.2.2.2.1
theorem dX12_isGood_7 : decode cX12_isGood 7 = .ok (.iconst 1, 1) := dGX12_116.2.2.2.2.2
theorem dGX12_117 : decode cX12_isGood 8 = .ok (.goto 4, 3) ∧ decode cX12_isGood 11 = .ok (.iconst 0, 1) ∧ decode cX12_isGood 12 = .ok (.ireturn, 1) ∧ decode cX12_emit 0 = .ok (.aload_n 0, 1) ∧ decode cX12_emit 1 = .ok (.invokevirtual 220, 3) ∧ decode cX12_emit 4 = .ok (.ifCond .ne 4, 3) := by decide +kernel
theorem dX12_isGood_8 : decode cX12_isGood 8 = .ok (.goto 4, 3) := dGX12_117.1
theorem dX12_isGood_11 : decode cX12_isGood 11 = .ok (.iconst 0, 1) := dGX12_117.2.1
theorem dX12_isGood_12 : decode cX12_isGood 12 = .ok (.ireturn, 1) := dGX12_117.2.2.1
theorem dX12_emit_0 : decode cX12_emit 0 = .ok (.aload_n 0, 1) := dGX12_117.2.2.2.1
theorem dX12_emit_1 : decode cX12_emit 1 = .ok (.invokevirtual 220, 3) := dGX12_117.2.2.2.2.1
theorem dX12_emit_4 : decode cX12_emit 4 = .ok (.ifCond .ne 4, 3) := dGX12_117.2.2.2.2.2
theorem dGX12_118 : decode cX12_emit 7 = .ok (.return_, 1) ∧ decode cX12_emit 8 = .ok (.aload_n 0, 1) ∧ decode cX12_emit 9 = .ok (.getfield 94, 3) ∧ decode cX12_emit 12 = .ok (.aload_n 0, 1) ∧ decode cX12_emit 13 = .ok (.getfield 224, 3) ∧ decode cX12_emit 16 = .ok (.iload_n 1, 1) := by decide +kernel
theorem dX12_emit_7 : decode cX12_emit 7 = .ok (.return_, 1) := dGX12_118.1
theorem dX12_emit_8 : decode cX12_emit 8 = .ok (.aload_n 0, 1) := dGX12_118.2.1
theorem dX12_emit_9 : decode cX12_emit 9 = .ok (.getfield 94, 3) := dGX12_118.2.2.1
theorem dX12_emit_12 : decode cX12_emit 12 = .ok (.aload_n 0, 1) := dGX12_118.2.2.2.1
theorem dX12_emit_13 : decode cX12_emit 13 = .ok (.getfield 224, 3) := dGX12_118.2.2.2.2.1
theorem dX12_emit_16 : decode cX12_emit 16 = .ok (.iload_n 1, 1) := dGX12_118.2.2.2.2.2
theorem dGX12_119 : decode cX12_emit 17 = .ok (.iastore, 1) ∧ decode cX12_emit 18 = .ok (.aload_n 0, 1) ∧ decode cX12_emit 19 = .ok (.getfield 97, 3) ∧ decode cX12_emit 22 = .ok (.aload_n 0, 1) ∧ decode cX12_emit 23 = .ok (.getfield 224, 3) ∧ decode cX12_emit 26 = .ok (.iload_n 2, 1) := by decide +kernel
theorem dX12_emit_17 : decode cX12_emit 17 = .ok (.iastore, 1) := dGX12_119.1
theorem dX12_emit_18 : decode cX12_emit 18 = .ok (.aload_n 0, 1) := dGX12_119.2.1
theorem dX12_emit_19 : decode cX12_emit 19 = .ok (.getfield 97, 3) := dGX12_119.2.2.1
theorem dX12_emit_22 : decode cX12_emit 22 = .ok (.aload_n 0, 1) := dGX12_119.2.2.2.1
theorem dX12_emit_23 : decode cX12_emit 23 = .ok (.getfield 224, 3) := dGX12_119.2.2.2.2.1
theorem dX12_emit_26 : decode cX12_emit 26 = .ok (.iload_n 2, 1) := dGX12_119.2.2.2.2.2
theorem dGX12_120 : decode cX12_emit 27 = .ok (.iastore, 1) ∧ decode cX12_emit 28 = .ok (.aload_n 0, 1) ∧ decode cX12_emit 29 = .ok (.dup, 1) ∧ decode cX12_emit 30 = .ok (.getfield 224, 3) ∧ decode cX12_emit 33 = .ok (.iconst 1, 1) ∧ decode cX12_emit 34 = .ok (.iadd, 1) := by decide +kernel
theorem dX12_emit_27 : decode cX12_emit 27 = .ok (.iastore, 1) := dGX12_120.1
theorem dX12_emit_28 : decode cX12_emit 28 = .ok (.aload_n 0, 1) := dGX12_120.2.1
theorem dX12_emit_29 : decode cX12_emit 29 = .ok (.dup, 1) := dGX12_120.2.2.1
theorem dX12_emit_30 : decode cX12_emit 30 = .ok (.getfield 224, 3) := dGX12_120.2.2.2.1
theorem dX12_emit_33 : decode cX12_emit 33 = .ok (.iconst 1, 1) := dGX12_120.2.2.2.2.1
theorem dX12_emit_34 : decode cX12_emit 34 = .ok (.iadd, 1) := dGX12_120.2.2.2.2.2
theorem dGX12_121 : decode cX12_emit 35 = .ok (.putfield 224, 3) ∧ decode cX12_emit 38 = .ok (.return_, 1) ∧ decode cX12_top 0 = .ok (.aload_n 0, 1) ∧ decode cX12_top 1 = .ok (.getfield 227, 3) ∧ decode cX12_top 4 = .ok (.ifCond .le 17, 3) ∧ decode cX12_top 7 = .ok (.aload_n 0, 1) := by decide +kernel
theorem dX12_emit_35 : decode cX12_emit 35 = .ok (.putfield 224, 3) := dGX12_121.1
theorem dX12_emit_38 : decode cX12_emit 38 = .ok (.return_, 1) := dGX12_121.2.1
theorem dX12_top_0 : decode cX12_top 0 = .ok (.aload_n 0, 1) := dGX12_121.2.2.1
theorem dX12_top_1 : decode cX12_top 1 = .ok (.getfield 227, 3) := dGX12_121.2.2.2.1
theorem dX12_top_4 : decode cX12_top 4 = .ok (.ifCond .le 17, 3) := dGX12_121.2.2.2.2.1
theorem dX12_top_7 : decode cX12_top 7 = .ok (.aload_n 0, 1) := dGX12_121.2.2.2.2.2
theorem dGX12_122 : decode cX12_top 8 = .ok (.getfield 100, 3) ∧ decode cX12_top 11 = .ok (.aload_n 0, 1) ∧ decode cX12_top 12 = .ok (.getfield 227, 3) ∧ decode cX12_top 15 = .ok (.iconst 1, 1) ∧ decode cX12_top 16 = .ok (.isub, 1) ∧ decode cX12_top 17 = .ok (.iaload, 1) := by decide +kernel
theorem dX12_top_8 : decode cX12_top 8 = .ok (.getfield 100, 3) := dGX12_122.1
theorem dX12_top_11 : decode cX12_top 11 = .ok (.aload_n 0, 1) := dGX12_122.2.1
theorem dX12_top_12 : decode cX12_top 12 = .ok (.getfield 227, 3) := dGX12_122.2.2.1
theorem dX12_top_15 : decode cX12_top 15 = .ok (.iconst 1, 1) := dGX12_122.2.2.2.1
theorem dX12_top_16 : decode cX12_top 16 = .ok (.isub, 1) := dGX12_122.2.2.2.2.1
theorem dX12_top_17 : decode cX12_top 17 = .ok (.iaload, 1) := dGX12_122.2.2.2.2.2
theorem dGX12_123 : decode cX12_top 18 = .ok (.goto 4, 3) ∧ decode cX12_top 21 = .ok (.iconst 0, 1) ∧ decode cX12_top 22 = .ok (.ireturn, 1) ∧ decode cX12_puts 0 = .ok (.aload_n 0, 1) ∧ decode cX12_puts 1 = .ok (.getfield 100, 3) ∧ decode cX12_puts 4 = .ok (.aload_n 0, 1) := by decide +kernel
theorem dX12_top_18 : decode cX12_top 18 = .ok (.goto 4, 3) := dGX12_123.1
theorem dX12_top_21 : decode cX12_top 21 = .ok (.iconst 0, 1) := dGX12_123.2.1
theorem dX12_top_22 : decode cX12_top 22 = .ok (.ireturn, 1) := dGX12_123.2.2.1
theorem dX12_puts_0 : decode cX12_puts 0 = .ok (.aload_n 0, 1) := dGX12_123.2.2.2.1
theorem dX12_puts_1 : decode cX12_puts 1 = .ok (.getfield 100, 3) := dGX12_123.2.2.2.2.1
theorem dX12_puts_4 : decode cX12_puts 4 = .ok (.aload_n 0, 1) := dGX12_123.2.2.2.2.2
theorem dGX12_124 : decode cX12_puts 5 = .ok (.getfield 227, 3) ∧ decode cX12_puts 8 = .ok (.iload_n 1, 1) ∧ decode cX12_puts 9 = .ok (.iastore, 1) ∧ decode cX12_puts 10 = .ok (.aload_n 0, 1) ∧ decode cX12_puts 11 = .ok (.dup, 1) ∧ decode cX12_puts 12 = .ok (.getfield 227, 3) := by decide +kernel
theorem dX12_puts_5 : decode cX12_puts 5 = .ok (.getfield 227, 3) := dGX12_124.1
theorem dX12_puts_8 : decode cX12_puts 8 = .ok (.iload_n 1, 1) := dGX12_124.2.1
theorem dX12_puts_9 : decode cX12_puts 9 = .ok (.iastore, 1) := dGX12_124.2.2.1
theorem dX12_puts_10 : decode cX12_puts 10 = .ok (.aload_n 0, 1) := dGX12_124.2.2.2.1
theorem dX12_puts_11 : decode cX12_puts 11 = .ok (.dup, 1) := dGX12_124.2.2.2.2.1
theorem dX12_puts_12 : decode cX12_puts 12 = .ok (.getfield 227, 3) := dGX12_124.2.2.2.2.2
theorem dGX12_125 : decode cX12_puts 15 = .ok (.iconst 1, 1) ∧ decode cX12_puts 16 = .ok (.iadd, 1) ∧ decode cX12_puts 17 = .ok (.putfield 227, 3) ∧ decode cX12_puts 20 = .ok (.aload_n 0, 1) ∧ decode cX12_puts 21 = .ok (.dup, 1) ∧ decode cX12_puts 22 = .ok (.getfield 211, 3) := by decide +kernel
theorem dX12_puts_15 : decode cX12_puts 15 = .ok (.iconst 1, 1) := dGX12_125.1
theorem dX12_puts_16 : decode cX12_puts 16 = .ok (.iadd, 1) := dGX12_125.2.1
theorem dX12_puts_17 : decode cX12_puts 17 = .ok (.putfield 227, 3) := dGX12_125.2.2.1
theorem dX12_puts_20 : decode cX12_puts 20 = .ok (.aload_n 0, 1) := dGX12_125.2.2.2.1
theorem dX12_puts_21 : decode cX12_puts 21 = .ok (.dup, 1) := dGX12_125.2.2.2.2.1
theorem dX12_puts_22 : decode cX12_puts 22 = .ok (.getfield 211, 3) := dGX12_125.2.2.2.2.2
theorem dGX12_126 : decode cX12_puts 25 = .ok (.iconst 1, 1) ∧ decode cX12_puts 26 = .ok (.iadd, 1) ∧ decode cX12_puts 27 = .ok (.putfield 211, 3) ∧ decode cX12_puts 30 = .ok (.return_, 1) ∧ decode cX12_opens 0 = .ok (.aload_n 0, 1) ∧ decode cX12_opens 1 = .ok (.getfield 230, 3) := by decide +kernel
theorem dX12_puts_25 : decode cX12_puts 25 = .ok (.iconst 1, 1) := dGX12_126.1
theorem dX12_puts_26 : decode cX12_puts 26 = .ok (.iadd, 1) := dGX12_126.2.1
theorem dX12_puts_27 : decode cX12_puts 27 = .ok (.putfield 211, 3) := dGX12_126.2.2.1
theorem dX12_puts_30 : decode cX12_puts 30 = .ok (.return_, 1) := dGX12_126.2.2.2.1
theorem dX12_opens_0 : decode cX12_opens 0 = .ok (.aload_n 0, 1) := dGX12_126.2.2.2.2.1
theorem dX12_opens_1 : decode cX12_opens 1 = .ok (.getfield 230, 3) := dGX12_126.2.2.2.2.2
theorem dGX12_127 : decode cX12_opens 4 = .ok (.bipush 6, 2) ∧ decode cX12_opens 6 = .ok (.if_icmp .ne 12, 3) ∧ decode cX12_opens 9 = .ok (.aload_n 0, 1) ∧ decode cX12_opens 10 = .ok (.iconst 5, 1) ∧ decode cX12_opens 11 = .ok (.aload_n 0, 1) ∧ decode cX12_opens 12 = .ok (.getfield 211, 3) := by decide +kernel
theorem dX12_opens_4 : decode cX12_opens 4 = .ok (.bipush 6, 2) := dGX12_127.1
theorem dX12_opens_6 : decode cX12_opens 6 = .ok (.if_icmp .ne 12, 3) := dGX12_127.2.1
theorem dX12_opens_9 : decode cX12_opens 9 = .ok (.aload_n 0, 1) := dGX12_127.2.2.1
theorem dX12_opens_10 : decode cX12_opens 10 = .ok (.iconst 5, 1) := dGX12_127.2.2.2.1
theorem dX12_opens_11 : decode cX12_opens 11 = .ok (.aload_n 0, 1) := dGX12_127.2.2.2.2.1
theorem dX12_opens_12 : decode cX12_opens 12 = .ok (.getfield 211, 3) := dGX12_127.2.2.2.2.2
theorem dGX12_128 : decode cX12_opens 15 = .ok (.invokevirtual 233, 3) ∧ decode cX12_opens 18 = .ok (.aload_n 0, 1) ∧ decode cX12_opens 19 = .ok (.dup, 1) ∧ decode cX12_opens 20 = .ok (.getfield 230, 3) ∧ decode cX12_opens 23 = .ok (.iconst 1, 1) ∧ decode cX12_opens 24 = .ok (.iadd, 1) := by decide +kernel
theorem dX12_opens_15 : decode cX12_opens 15 = .ok (.invokevirtual 233, 3) := dGX12_128.1
theorem dX12_opens_18 : decode cX12_opens 18 = .ok (.aload_n 0, 1) := dGX12_128.2.1
theorem dX12_opens_19 : decode cX12_opens 19 = .ok (.dup, 1) := dGX12_128.2.2.1
theorem dX12_opens_20 : decode cX12_opens 20 = .ok (.getfield 230, 3) := dGX12_128.2.2.2.1
theorem dX12_opens_23 : decode cX12_opens 23 = .ok (.iconst 1, 1) := dGX12_128.2.2.2.2.1
theorem dX12_opens_24 : decode cX12_opens 24 = .ok (.iadd, 1) := dGX12_128.2.2.2.2.2
theorem dGX12_129 : decode cX12_opens 25 = .ok (.putfield 230, 3) ∧ decode cX12_opens 28 = .ok (.aload_n 0, 1) ∧ decode cX12_opens 29 = .ok (.aload_n 0, 1) ∧ decode cX12_opens 30 = .ok (.invokevirtual 237, 3) ∧ decode cX12_opens 33 = .ok (.invokevirtual 241, 3) ∧ decode cX12_opens 36 = .ok (.return_, 1) := by decide +kernel
theorem dX12_opens_25 : decode cX12_opens 25 = .ok (.putfield 230, 3) := dGX12_129.1
theorem dX12_opens_28 : decode cX12_opens 28 = .ok (.aload_n 0, 1) := dGX12_129.2.1
theorem dX12_opens_29 : decode cX12_opens 29 = .ok (.aload_n 0, 1) := dGX12_129.2.2.1
theorem dX12_opens_30 : decode cX12_opens 30 = .ok (.invokevirtual 237, 3) := dGX12_129.2.2.2.1
theorem dX12_opens_33 : decode cX12_opens 33 = .ok (.invokevirtual 241, 3) := dGX12_129.2.2.2.2.1
theorem dX12_opens_36 : decode cX12_opens 36 = .ok (.return_, 1) := dGX12_129.2.2.2.2.2
theorem dGX12_130 : decode cX12_seesDigit 0 = .ok (.aload_n 0, 1) ∧ decode cX12_seesDigit 1 = .ok (.invokevirtual 237, 3) ∧ decode cX12_seesDigit 4 = .ok (.i2l, 1) ∧ decode cX12_seesDigit 5 = .ok (.ldc2_w 244, 3) ∧ decode cX12_seesDigit 8 = .ok (.ldc2_w 246, 3) ∧ decode cX12_seesDigit 11 = .ok (.invokestatic 175, 3) := by decide +kernel
theorem dX12_seesDigit_0 : decode cX12_seesDigit 0 = .ok (.aload_n 0, 1) := dGX12_130.1
theorem dX12_seesDigit_1 : decode cX12_seesDigit 1 = .ok (.invokevirtual 237, 3) := dGX12_130.2.1
theorem dX12_seesDigit_4 : decode cX12_seesDigit 4 = .ok (.i2l, 1) := dGX12_130.2.2.1
theorem dX12_seesDigit_5 : decode cX12_seesDigit 5 = .ok (.ldc2_w 244, 3) := dGX12_130.2.2.2.1
theorem dX12_seesDigit_8 : decode cX12_seesDigit 8 = .ok (.ldc2_w 246, 3) := dGX12_130.2.2.2.2.1
theorem dX12_seesDigit_11 : decode cX12_seesDigit 11 = .ok (.invokestatic 175, 3) := dGX12_130.2.2.2.2.2
theorem dGX12_131 : decode cX12_seesDigit 14 = .ok (.ireturn, 1) ∧ decode cX12_reads 0 = .ok (.aload_n 0, 1) ∧ decode cX12_reads 1 = .ok (.getfield 211, 3) ∧ decode cX12_reads 4 = .ok (.istore_n 1, 1) ∧ decode cX12_reads 5 = .ok (.iconst 0, 1) ∧ decode cX12_reads 6 = .ok (.istore_n 2, 1) := by decide +kernel
theorem dX12_seesDigit_14 : decode cX12_seesDigit 14 = .ok (.ireturn, 1) := dGX12_131.1
theorem dX12_reads_0 : decode cX12_reads 0 = .ok (.aload_n 0, 1) := dGX12_131.2.1
theorem dX12_reads_1 : decode cX12_reads 1 = .ok (.getfield 211, 3) := dGX12_131.2.2.1
theorem dX12_reads_4 : decode cX12_reads 4 = .ok (.istore_n 1, 1) := dGX12_131.2.2.2.1
theorem dX12_reads_5 : decode cX12_reads 5 = .ok (.iconst 0, 1) := dGX12_131.2.2.2.2.1
theorem dX12_reads_6 : decode cX12_reads 6 = .ok (.istore_n 2, 1) := dGX12_131.2.2.2.2.2
theorem dGX12_132 : decode cX12_reads 7 = .ok (.aload_n 0, 1) ∧ decode cX12_reads 8 = .ok (.invokevirtual 220, 3) ∧ decode cX12_reads 11 = .ok (.ifCond .eq 55, 3) ∧ decode cX12_reads 14 = .ok (.aload_n 0, 1) ∧ decode cX12_reads 15 = .ok (.invokevirtual 248, 3) ∧ decode cX12_reads 18 = .ok (.ifCond .eq 48, 3) := by decide +kernel
theorem dX12_reads_7 : decode cX12_reads 7 = .ok (.aload_n 0, 1) := dGX12_132.1
theorem dX12_reads_8 : decode cX12_reads 8 = .ok (.invokevirtual 220, 3) := dGX12_132.2.1
theorem dX12_reads_11 : decode cX12_reads 11 = .ok (.ifCond .eq 55, 3) := dGX12_132.2.2.1
theorem dX12_reads_14 : decode cX12_reads 14 = .ok (.aload_n 0, 1) := dGX12_132.2.2.2.1
theorem dX12_reads_15 : decode cX12_reads 15 = .ok (.invokevirtual 248, 3) := dGX12_132.2.2.2.2.1
theorem dX12_reads_18 : decode cX12_reads 18 = .ok (.ifCond .eq 48, 3) := dGX12_132.2.2.2.2.2
theorem dGX12_133 : decode cX12_reads 21 = .ok (.aload_n 0, 1) ∧ decode cX12_reads 22 = .ok (.getfield 211, 3) ∧ decode cX12_reads 25 = .ok (.iload_n 1, 1) ∧ decode cX12_reads 26 = .ok (.iconst 5, 1) ∧ decode cX12_reads 27 = .ok (.iadd, 1) ∧ decode cX12_reads 28 = .ok (.if_icmp .ne 12, 3) := by decide +kernel
theorem dX12_reads_21 : decode cX12_reads 21 = .ok (.aload_n 0, 1) := dGX12_133.1
theorem dX12_reads_22 : decode cX12_reads 22 = .ok (.getfield 211, 3) := dGX12_133.2.1
theorem dX12_reads_25 : decode cX12_reads 25 = .ok (.iload_n 1, 1) := dGX12_133.2.2.1
theorem dX12_reads_26 : decode cX12_reads 26 = .ok (.iconst 5, 1) := dGX12_133.2.2.2.1
theorem dX12_reads_27 : decode cX12_reads 27 = .ok (.iadd, 1) := dGX12_133.2.2.2.2.1
theorem dX12_reads_28 : decode cX12_reads 28 = .ok (.if_icmp .ne 12, 3) := dGX12_133.2.2.2.2.2
theorem dGX12_134 : decode cX12_reads 31 = .ok (.aload_n 0, 1) ∧ decode cX12_reads 32 = .ok (.iconst 2, 1) ∧ decode cX12_reads 33 = .ok (.aload_n 0, 1) ∧ decode cX12_reads 34 = .ok (.getfield 211, 3) ∧ decode cX12_reads 37 = .ok (.invokevirtual 233, 3) ∧ decode cX12_reads 40 = .ok (.bipush 10, 2) := by decide +kernel
theorem dX12_reads_31 : decode cX12_reads 31 = .ok (.aload_n 0, 1) := dGX12_134.1
theorem dX12_reads_32 : decode cX12_reads 32 = .ok (.iconst 2, 1) := dGX12_134.2.1
theorem dX12_reads_33 : decode cX12_reads 33 = .ok (.aload_n 0, 1) := dGX12_134.2.2.1
theorem dX12_reads_34 : decode cX12_reads 34 = .ok (.getfield 211, 3) := dGX12_134.2.2.2.1
theorem dX12_reads_37 : decode cX12_reads 37 = .ok (.invokevirtual 233, 3) := dGX12_134.2.2.2.2.1
theorem dX12_reads_40 : decode cX12_reads 40 = .ok (.bipush 10, 2) := dGX12_134.2.2.2.2.2
theorem dGX12_135 : decode cX12_reads 42 = .ok (.iload_n 2, 1) ∧ decode cX12_reads 43 = .ok (.imul, 1) ∧ decode cX12_reads 44 = .ok (.aload_n 0, 1) ∧ decode cX12_reads 45 = .ok (.invokevirtual 237, 3) ∧ decode cX12_reads 48 = .ok (.iadd, 1) ∧ decode cX12_reads 49 = .ok (.bipush 48, 2) := by decide +kernel
theorem dX12_reads_42 : decode cX12_reads 42 = .ok (.iload_n 2, 1) := dGX12_135.1
theorem dX12_reads_43 : decode cX12_reads 43 = .ok (.imul, 1) := dGX12_135.2.1
theorem dX12_reads_44 : decode cX12_reads 44 = .ok (.aload_n 0, 1) := dGX12_135.2.2.1
theorem dX12_reads_45 : decode cX12_reads 45 = .ok (.invokevirtual 237, 3) := dGX12_135.2.2.2.1
theorem dX12_reads_48 : decode cX12_reads 48 = .ok (.iadd, 1) := dGX12_135.2.2.2.2.1
theorem dX12_reads_49 : decode cX12_reads 49 = .ok (.bipush 48, 2) := dGX12_135.2.2.2.2.2
theorem dGX12_136 : decode cX12_reads 51 = .ok (.isub, 1) ∧ decode cX12_reads 52 = .ok (.istore_n 2, 1) ∧ decode cX12_reads 53 = .ok (.aload_n 0, 1) ∧ decode cX12_reads 54 = .ok (.dup, 1) ∧ decode cX12_reads 55 = .ok (.getfield 211, 3) ∧ decode cX12_reads 58 = .ok (.iconst 1, 1) := by decide +kernel
theorem dX12_reads_51 : decode cX12_reads 51 = .ok (.isub, 1) := dGX12_136.1
theorem dX12_reads_52 : decode cX12_reads 52 = .ok (.istore_n 2, 1) := dGX12_136.2.1
theorem dX12_reads_53 : decode cX12_reads 53 = .ok (.aload_n 0, 1) := dGX12_136.2.2.1
theorem dX12_reads_54 : decode cX12_reads 54 = .ok (.dup, 1) := dGX12_136.2.2.2.1
theorem dX12_reads_55 : decode cX12_reads 55 = .ok (.getfield 211, 3) := dGX12_136.2.2.2.2.1
theorem dX12_reads_58 : decode cX12_reads 58 = .ok (.iconst 1, 1) := dGX12_136.2.2.2.2.2
theorem dGX12_137 : decode cX12_reads 59 = .ok (.iadd, 1) ∧ decode cX12_reads 60 = .ok (.putfield 211, 3) ∧ decode cX12_reads 63 = .ok (.goto (-56), 3) ∧ decode cX12_reads 66 = .ok (.iload_n 2, 1) ∧ decode cX12_reads 67 = .ok (.ireturn, 1) ∧ decode cX12_isTimes 0 = .ok (.iload_n 0, 1) := by decide +kernel
theorem dX12_reads_59 : decode cX12_reads 59 = .ok (.iadd, 1) := dGX12_137.1
theorem dX12_reads_60 : decode cX12_reads 60 = .ok (.putfield 211, 3) := dGX12_137.2.1
theorem dX12_reads_63 : decode cX12_reads 63 = .ok (.goto (-56), 3) := dGX12_137.2.2.1
theorem dX12_reads_66 : decode cX12_reads 66 = .ok (.iload_n 2, 1) := dGX12_137.2.2.2.1
theorem dX12_reads_67 : decode cX12_reads 67 = .ok (.ireturn, 1) := dGX12_137.2.2.2.2.1
theorem dX12_isTimes_0 : decode cX12_isTimes 0 = .ok (.iload_n 0, 1) := dGX12_137.2.2.2.2.2
theorem dGX12_138 : decode cX12_isTimes 1 = .ok (.bipush 42, 2) ∧ decode cX12_isTimes 3 = .ok (.if_icmp .eq 15, 3) ∧ decode cX12_isTimes 6 = .ok (.iload_n 0, 1) ∧ decode cX12_isTimes 7 = .ok (.bipush 47, 2) ∧ decode cX12_isTimes 9 = .ok (.if_icmp .eq 9, 3) ∧ decode cX12_isTimes 12 = .ok (.iload_n 0, 1) := by decide +kernel
theorem dX12_isTimes_1 : decode cX12_isTimes 1 = .ok (.bipush 42, 2) := dGX12_138.1
theorem dX12_isTimes_3 : decode cX12_isTimes 3 = .ok (.if_icmp .eq 15, 3) := dGX12_138.2.1
theorem dX12_isTimes_6 : decode cX12_isTimes 6 = .ok (.iload_n 0, 1) := dGX12_138.2.2.1
theorem dX12_isTimes_7 : decode cX12_isTimes 7 = .ok (.bipush 47, 2) := dGX12_138.2.2.2.1
theorem dX12_isTimes_9 : decode cX12_isTimes 9 = .ok (.if_icmp .eq 9, 3) := dGX12_138.2.2.2.2.1
theorem dX12_isTimes_12 : decode cX12_isTimes 12 = .ok (.iload_n 0, 1) := dGX12_138.2.2.2.2.2
theorem dGX12_139 : decode cX12_isTimes 13 = .ok (.bipush 37, 2) ∧ decode cX12_isTimes 15 = .ok (.if_icmp .ne 7, 3) ∧ decode cX12_isTimes 18 = .ok (.iconst 1, 1) ∧ decode cX12_isTimes 19 = .ok (.goto 4, 3) ∧ decode cX12_isTimes 22 = .ok (.iconst 0, 1) ∧ decode cX12_isTimes 23 = .ok (.ireturn, 1) := by decide +kernel
theorem dX12_isTimes_13 : decode cX12_isTimes 13 = .ok (.bipush 37, 2) := dGX12_139.1
theorem dX12_isTimes_15 : decode cX12_isTimes 15 = .ok (.if_icmp .ne 7, 3) := dGX12_139.2.1
theorem dX12_isTimes_18 : decode cX12_isTimes 18 = .ok (.iconst 1, 1) := dGX12_139.2.2.1
theorem dX12_isTimes_19 : decode cX12_isTimes 19 = .ok (.goto 4, 3) := dGX12_139.2.2.2.1
theorem dX12_isTimes_22 : decode cX12_isTimes 22 = .ok (.iconst 0, 1) := dGX12_139.2.2.2.2.1
theorem dX12_isTimes_23 : decode cX12_isTimes 23 = .ok (.ireturn, 1) := dGX12_139.2.2.2.2.2
theorem dGX12_140 : decode cX12_isPlus 0 = .ok (.iload_n 0, 1) ∧ decode cX12_isPlus 1 = .ok (.bipush 43, 2) ∧ decode cX12_isPlus 3 = .ok (.if_icmp .eq 9, 3) ∧ decode cX12_isPlus 6 = .ok (.iload_n 0, 1) ∧ decode cX12_isPlus 7 = .ok (.bipush 45, 2) ∧ decode cX12_isPlus 9 = .ok (.if_icmp .ne 7, 3) := by decide +kernel
theorem dX12_isPlus_0 : decode cX12_isPlus 0 = .ok (.iload_n 0, 1) := dGX12_140.1
theorem dX12_isPlus_1 : decode cX12_isPlus 1 = .ok (.bipush 43, 2) := dGX12_140.2.1
theorem dX12_isPlus_3 : decode cX12_isPlus 3 = .ok (.if_icmp .eq 9, 3) := dGX12_140.2.2.1
theorem dX12_isPlus_6 : decode cX12_isPlus 6 = .ok (.iload_n 0, 1) := dGX12_140.2.2.2.1
theorem dX12_isPlus_7 : decode cX12_isPlus 7 = .ok (.bipush 45, 2) := dGX12_140.2.2.2.2.1
theorem dX12_isPlus_9 : decode cX12_isPlus 9 = .ok (.if_icmp .ne 7, 3) := dGX12_140.2.2.2.2.2
theorem dGX12_141 : decode cX12_isPlus 12 = .ok (.iconst 1, 1) ∧ decode cX12_isPlus 13 = .ok (.goto 4, 3) ∧ decode cX12_isPlus 16 = .ok (.iconst 0, 1) ∧ decode cX12_isPlus 17 = .ok (.ireturn, 1) ∧ decode cX12_isSign 0 = .ok (.iload_n 0, 1) ∧ decode cX12_isSign 1 = .ok (.bipush 60, 2) := by decide +kernel
theorem dX12_isPlus_12 : decode cX12_isPlus 12 = .ok (.iconst 1, 1) := dGX12_141.1
theorem dX12_isPlus_13 : decode cX12_isPlus 13 = .ok (.goto 4, 3) := dGX12_141.2.1
theorem dX12_isPlus_16 : decode cX12_isPlus 16 = .ok (.iconst 0, 1) := dGX12_141.2.2.1
theorem dX12_isPlus_17 : decode cX12_isPlus 17 = .ok (.ireturn, 1) := dGX12_141.2.2.2.1
theorem dX12_isSign_0 : decode cX12_isSign 0 = .ok (.iload_n 0, 1) := dGX12_141.2.2.2.2.1
theorem dX12_isSign_1 : decode cX12_isSign 1 = .ok (.bipush 60, 2) := dGX12_141.2.2.2.2.2
theorem dGX12_142 : decode cX12_isSign 3 = .ok (.if_icmp .eq 15, 3) ∧ decode cX12_isSign 6 = .ok (.iload_n 0, 1) ∧ decode cX12_isSign 7 = .ok (.bipush 62, 2) ∧ decode cX12_isSign 9 = .ok (.if_icmp .eq 9, 3) ∧ decode cX12_isSign 12 = .ok (.iload_n 0, 1) ∧ decode cX12_isSign 13 = .ok (.bipush 61, 2) := by decide +kernel
theorem dX12_isSign_3 : decode cX12_isSign 3 = .ok (.if_icmp .eq 15, 3) := dGX12_142.1
theorem dX12_isSign_6 : decode cX12_isSign 6 = .ok (.iload_n 0, 1) := dGX12_142.2.1
theorem dX12_isSign_7 : decode cX12_isSign 7 = .ok (.bipush 62, 2) := dGX12_142.2.2.1
theorem dX12_isSign_9 : decode cX12_isSign 9 = .ok (.if_icmp .eq 9, 3) := dGX12_142.2.2.2.1
theorem dX12_isSign_12 : decode cX12_isSign 12 = .ok (.iload_n 0, 1) := dGX12_142.2.2.2.2.1
theorem dX12_isSign_13 : decode cX12_isSign 13 = .ok (.bipush 61, 2) := dGX12_142.2.2.2.2.2
theorem dGX12_143 : decode cX12_isSign 15 = .ok (.if_icmp .ne 7, 3) ∧ decode cX12_isSign 18 = .ok (.iconst 1, 1) ∧ decode cX12_isSign 19 = .ok (.goto 4, 3) ∧ decode cX12_isSign 22 = .ok (.iconst 0, 1) ∧ decode cX12_isSign 23 = .ok (.ireturn, 1) ∧ decode cX12_isOfMaster 0 = .ok (.iload_n 0, 1) := by decide +kernel
theorem dX12_isSign_15 : decode cX12_isSign 15 = .ok (.if_icmp .ne 7, 3) := dGX12_143.1
theorem dX12_isSign_18 : decode cX12_isSign 18 = .ok (.iconst 1, 1) := dGX12_143.2.1
theorem dX12_isSign_19 : decode cX12_isSign 19 = .ok (.goto 4, 3) := dGX12_143.2.2.1
theorem dX12_isSign_22 : decode cX12_isSign 22 = .ok (.iconst 0, 1) := dGX12_143.2.2.2.1
theorem dX12_isSign_23 : decode cX12_isSign 23 = .ok (.ireturn, 1) := dGX12_143.2.2.2.2.1
theorem dX12_isOfMaster_0 : decode cX12_isOfMaster 0 = .ok (.iload_n 0, 1) := dGX12_143.2.2.2.2.2
theorem dGX12_144 : decode cX12_isOfMaster 1 = .ok (.bipush 98, 2) ∧ decode cX12_isOfMaster 3 = .ok (.if_icmp .eq 15, 3) ∧ decode cX12_isOfMaster 6 = .ok (.iload_n 0, 1) ∧ decode cX12_isOfMaster 7 = .ok (.bipush 107, 2) ∧ decode cX12_isOfMaster 9 = .ok (.if_icmp .eq 9, 3) ∧ decode cX12_isOfMaster 12 = .ok (.iload_n 0, 1) := by decide +kernel
theorem dX12_isOfMaster_1 : decode cX12_isOfMaster 1 = .ok (.bipush 98, 2) := dGX12_144.1
theorem dX12_isOfMaster_3 : decode cX12_isOfMaster 3 = .ok (.if_icmp .eq 15, 3) := dGX12_144.2.1
theorem dX12_isOfMaster_6 : decode cX12_isOfMaster 6 = .ok (.iload_n 0, 1) := dGX12_144.2.2.1
theorem dX12_isOfMaster_7 : decode cX12_isOfMaster 7 = .ok (.bipush 107, 2) := dGX12_144.2.2.2.1
theorem dX12_isOfMaster_9 : decode cX12_isOfMaster 9 = .ok (.if_icmp .eq 9, 3) := dGX12_144.2.2.2.2.1
theorem dX12_isOfMaster_12 : decode cX12_isOfMaster 12 = .ok (.iload_n 0, 1) := dGX12_144.2.2.2.2.2
theorem dGX12_145 : decode cX12_isOfMaster 13 = .ok (.bipush 104, 2) ∧ decode cX12_isOfMaster 15 = .ok (.if_icmp .ne 7, 3) ∧ decode cX12_isOfMaster 18 = .ok (.iconst 1, 1) ∧ decode cX12_isOfMaster 19 = .ok (.goto 4, 3) ∧ decode cX12_isOfMaster 22 = .ok (.iconst 0, 1) ∧ decode cX12_isOfMaster 23 = .ok (.ireturn, 1) := by decide +kernel
theorem dX12_isOfMaster_13 : decode cX12_isOfMaster 13 = .ok (.bipush 104, 2) := dGX12_145.1
theorem dX12_isOfMaster_15 : decode cX12_isOfMaster 15 = .ok (.if_icmp .ne 7, 3) := dGX12_145.2.1
theorem dX12_isOfMaster_18 : decode cX12_isOfMaster 18 = .ok (.iconst 1, 1) := dGX12_145.2.2.1
theorem dX12_isOfMaster_19 : decode cX12_isOfMaster 19 = .ok (.goto 4, 3) := dGX12_145.2.2.2.1
theorem dX12_isOfMaster_22 : decode cX12_isOfMaster 22 = .ok (.iconst 0, 1) := dGX12_145.2.2.2.2.1
theorem dX12_isOfMaster_23 : decode cX12_isOfMaster 23 = .ok (.ireturn, 1) := dGX12_145.2.2.2.2.2
theorem dGX12_146 : decode cX12_isValue 0 = .ok (.iload_n 0, 1) ∧ decode cX12_isValue 1 = .ok (.invokestatic 251, 3) ∧ decode cX12_isValue 4 = .ok (.ifCond .ne 57, 3) ∧ decode cX12_isValue 7 = .ok (.iload_n 0, 1) ∧ decode cX12_isValue 8 = .ok (.bipush 97, 2) ∧ decode cX12_isValue 10 = .ok (.if_icmp .eq 51, 3) := by decide +kernel
theorem dX12_isValue_0 : decode cX12_isValue 0 = .ok (.iload_n 0, 1) := dGX12_146.1
theorem dX12_isValue_1 : decode cX12_isValue 1 = .ok (.invokestatic 251, 3) := dGX12_146.2.1
theorem dX12_isValue_4 : decode cX12_isValue 4 = .ok (.ifCond .ne 57, 3) := dGX12_146.2.2.1
theorem dX12_isValue_7 : decode cX12_isValue 7 = .ok (.iload_n 0, 1) := dGX12_146.2.2.2.1
theorem dX12_isValue_8 : decode cX12_isValue 8 = .ok (.bipush 97, 2) := dGX12_146.2.2.2.2.1
theorem dX12_isValue_10 : decode cX12_isValue 10 = .ok (.if_icmp .eq 51, 3) := dGX12_146.2.2.2.2.2
theorem dGX12_147 : decode cX12_isValue 13 = .ok (.iload_n 0, 1) ∧ decode cX12_isValue 14 = .ok (.bipush 103, 2) ∧ decode cX12_isValue 16 = .ok (.if_icmp .eq 45, 3) ∧ decode cX12_isValue 19 = .ok (.iload_n 0, 1) ∧ decode cX12_isValue 20 = .ok (.bipush 115, 2) ∧ decode cX12_isValue 22 = .ok (.if_icmp .eq 39, 3) := by decide +kernel
theorem dX12_isValue_13 : decode cX12_isValue 13 = .ok (.iload_n 0, 1) := dGX12_147.1
theorem dX12_isValue_14 : decode cX12_isValue 14 = .ok (.bipush 103, 2) := dGX12_147.2.1
theorem dX12_isValue_16 : decode cX12_isValue 16 = .ok (.if_icmp .eq 45, 3) := dGX12_147.2.2.1
theorem dX12_isValue_19 : decode cX12_isValue 19 = .ok (.iload_n 0, 1) := dGX12_147.2.2.2.1
theorem dX12_isValue_20 : decode cX12_isValue 20 = .ok (.bipush 115, 2) := dGX12_147.2.2.2.2.1
theorem dX12_isValue_22 : decode cX12_isValue 22 = .ok (.if_icmp .eq 39, 3) := dGX12_147.2.2.2.2.2
theorem dGX12_148 : decode cX12_isValue 25 = .ok (.iload_n 0, 1) ∧ decode cX12_isValue 26 = .ok (.bipush 111, 2) ∧ decode cX12_isValue 28 = .ok (.if_icmp .eq 33, 3) ∧ decode cX12_isValue 31 = .ok (.iload_n 0, 1) ∧ decode cX12_isValue 32 = .ok (.bipush 113, 2) ∧ decode cX12_isValue 34 = .ok (.if_icmp .eq 27, 3) := by decide +kernel
theorem dX12_isValue_25 : decode cX12_isValue 25 = .ok (.iload_n 0, 1) := dGX12_148.1
theorem dX12_isValue_26 : decode cX12_isValue 26 = .ok (.bipush 111, 2) := dGX12_148.2.1
theorem dX12_isValue_28 : decode cX12_isValue 28 = .ok (.if_icmp .eq 33, 3) := dGX12_148.2.2.1
theorem dX12_isValue_31 : decode cX12_isValue 31 = .ok (.iload_n 0, 1) := dGX12_148.2.2.2.1
theorem dX12_isValue_32 : decode cX12_isValue 32 = .ok (.bipush 113, 2) := dGX12_148.2.2.2.2.1
theorem dX12_isValue_34 : decode cX12_isValue 34 = .ok (.if_icmp .eq 27, 3) := dGX12_148.2.2.2.2.2
theorem dGX12_149 : decode cX12_isValue 37 = .ok (.iload_n 0, 1) ∧ decode cX12_isValue 38 = .ok (.bipush 110, 2) ∧ decode cX12_isValue 40 = .ok (.if_icmp .eq 21, 3) ∧ decode cX12_isValue 43 = .ok (.iload_n 0, 1) ∧ decode cX12_isValue 44 = .ok (.bipush 101, 2) ∧ decode cX12_isValue 46 = .ok (.if_icmp .eq 15, 3) := by decide +kernel
theorem dX12_isValue_37 : decode cX12_isValue 37 = .ok (.iload_n 0, 1) := dGX12_149.1
theorem dX12_isValue_38 : decode cX12_isValue 38 = .ok (.bipush 110, 2) := dGX12_149.2.1
theorem dX12_isValue_40 : decode cX12_isValue 40 = .ok (.if_icmp .eq 21, 3) := dGX12_149.2.2.1
theorem dX12_isValue_43 : decode cX12_isValue 43 = .ok (.iload_n 0, 1) := dGX12_149.2.2.2.1
theorem dX12_isValue_44 : decode cX12_isValue 44 = .ok (.bipush 101, 2) := dGX12_149.2.2.2.2.1
theorem dX12_isValue_46 : decode cX12_isValue 46 = .ok (.if_icmp .eq 15, 3) := dGX12_149.2.2.2.2.2
theorem dGX12_150 : decode cX12_isValue 49 = .ok (.iload_n 0, 1) ∧ decode cX12_isValue 50 = .ok (.bipush 116, 2) ∧ decode cX12_isValue 52 = .ok (.if_icmp .eq 9, 3) ∧ decode cX12_isValue 55 = .ok (.iload_n 0, 1) ∧ decode cX12_isValue 56 = .ok (.bipush 119, 2) ∧ decode cX12_isValue 58 = .ok (.if_icmp .ne 7, 3) := by decide +kernel
theorem dX12_isValue_49 : decode cX12_isValue 49 = .ok (.iload_n 0, 1) := dGX12_150.1
theorem dX12_isValue_50 : decode cX12_isValue 50 = .ok (.bipush 116, 2) := dGX12_150.2.1
theorem dX12_isValue_52 : decode cX12_isValue 52 = .ok (.if_icmp .eq 9, 3) := dGX12_150.2.2.1
theorem dX12_isValue_55 : decode cX12_isValue 55 = .ok (.iload_n 0, 1) := dGX12_150.2.2.2.1
theorem dX12_isValue_56 : decode cX12_isValue 56 = .ok (.bipush 119, 2) := dGX12_150.2.2.2.2.1
theorem dX12_isValue_58 : decode cX12_isValue 58 = .ok (.if_icmp .ne 7, 3) := dGX12_150.2.2.2.2.2
theorem dGX12_151 : decode cX12_isValue 61 = .ok (.iconst 1, 1) ∧ decode cX12_isValue 62 = .ok (.goto 4, 3) ∧ decode cX12_isValue 65 = .ok (.iconst 0, 1) ∧ decode cX12_isValue 66 = .ok (.ireturn, 1) ∧ decode cX12_sums 0 = .ok (.aload_n 0, 1) ∧ decode cX12_sums 1 = .ok (.invokevirtual 254, 3) := by decide +kernel
theorem dX12_isValue_61 : decode cX12_isValue 61 = .ok (.iconst 1, 1) := dGX12_151.1
theorem dX12_isValue_62 : decode cX12_isValue 62 = .ok (.goto 4, 3) := dGX12_151.2.1
theorem dX12_isValue_65 : decode cX12_isValue 65 = .ok (.iconst 0, 1) := dGX12_151.2.2.1
theorem dX12_isValue_66 : decode cX12_isValue 66 = .ok (.ireturn, 1) := dGX12_151.2.2.2.1
theorem dX12_sums_0 : decode cX12_sums 0 = .ok (.aload_n 0, 1) := dGX12_151.2.2.2.2.1
theorem dX12_sums_1 : decode cX12_sums 1 = .ok (.invokevirtual 254, 3) := dGX12_151.2.2.2.2.2
theorem dGX12_152 : decode cX12_sums 4 = .ok (.invokestatic 257, 3) ∧ decode cX12_sums 7 = .ok (.ifCond .ne 17, 3) ∧ decode cX12_sums 10 = .ok (.iload_n 1, 1) ∧ decode cX12_sums 11 = .ok (.ifCond .eq 35, 3) ∧ decode cX12_sums 14 = .ok (.aload_n 0, 1) ∧ decode cX12_sums 15 = .ok (.invokevirtual 254, 3) := by decide +kernel
theorem dX12_sums_4 : decode cX12_sums 4 = .ok (.invokestatic 257, 3) := dGX12_152.1
theorem dX12_sums_7 : decode cX12_sums 7 = .ok (.ifCond .ne 17, 3) := dGX12_152.2.1
theorem dX12_sums_10 : decode cX12_sums 10 = .ok (.iload_n 1, 1) := dGX12_152.2.2.1
theorem dX12_sums_11 : decode cX12_sums 11 = .ok (.ifCond .eq 35, 3) := dGX12_152.2.2.2.1
theorem dX12_sums_14 : decode cX12_sums 14 = .ok (.aload_n 0, 1) := dGX12_152.2.2.2.2.1
theorem dX12_sums_15 : decode cX12_sums 15 = .ok (.invokevirtual 254, 3) := dGX12_152.2.2.2.2.2
theorem dGX12_153 : decode cX12_sums 18 = .ok (.invokestatic 260, 3) ∧ decode cX12_sums 21 = .ok (.ifCond .eq 25, 3) ∧ decode cX12_sums 24 = .ok (.aload_n 0, 1) ∧ decode cX12_sums 25 = .ok (.aload_n 0, 1) ∧ decode cX12_sums 26 = .ok (.invokevirtual 254, 3) ∧ decode cX12_sums 29 = .ok (.iconst 0, 1) := by decide +kernel
theorem dX12_sums_18 : decode cX12_sums 18 = .ok (.invokestatic 260, 3) := dGX12_153.1
theorem dX12_sums_21 : decode cX12_sums 21 = .ok (.ifCond .eq 25, 3) := dGX12_153.2.1
theorem dX12_sums_24 : decode cX12_sums 24 = .ok (.aload_n 0, 1) := dGX12_153.2.2.1
theorem dX12_sums_25 : decode cX12_sums 25 = .ok (.aload_n 0, 1) := dGX12_153.2.2.2.1
theorem dX12_sums_26 : decode cX12_sums 26 = .ok (.invokevirtual 254, 3) := dGX12_153.2.2.2.2.1
theorem dX12_sums_29 : decode cX12_sums 29 = .ok (.iconst 0, 1) := dGX12_153.2.2.2.2.2
theorem dGX12_154 : decode cX12_sums 30 = .ok (.invokevirtual 263, 3) ∧ decode cX12_sums 33 = .ok (.aload_n 0, 1) ∧ decode cX12_sums 34 = .ok (.dup, 1) ∧ decode cX12_sums 35 = .ok (.getfield 227, 3) ∧ decode cX12_sums 38 = .ok (.iconst 1, 1) ∧ decode cX12_sums 39 = .ok (.isub, 1) := by decide +kernel
theorem dX12_sums_30 : decode cX12_sums 30 = .ok (.invokevirtual 263, 3) := dGX12_154.1
theorem dX12_sums_33 : decode cX12_sums 33 = .ok (.aload_n 0, 1) := dGX12_154.2.1
theorem dX12_sums_34 : decode cX12_sums 34 = .ok (.dup, 1) := dGX12_154.2.2.1
theorem dX12_sums_35 : decode cX12_sums 35 = .ok (.getfield 227, 3) := dGX12_154.2.2.2.1
theorem dX12_sums_38 : decode cX12_sums 38 = .ok (.iconst 1, 1) := dGX12_154.2.2.2.2.1
theorem dX12_sums_39 : decode cX12_sums 39 = .ok (.isub, 1) := dGX12_154.2.2.2.2.2
theorem dGX12_155 : decode cX12_sums 40 = .ok (.putfield 227, 3) ∧ decode cX12_sums 43 = .ok (.goto (-43), 3) ∧ decode cX12_sums 46 = .ok (.return_, 1) ∧ decode cX12_joins 0 = .ok (.aload_n 0, 1) ∧ decode cX12_joins 1 = .ok (.invokevirtual 254, 3) ∧ decode cX12_joins 4 = .ok (.bipush 38, 2) := by decide +kernel
theorem dX12_sums_40 : decode cX12_sums 40 = .ok (.putfield 227, 3) := dGX12_155.1
theorem dX12_sums_43 : decode cX12_sums 43 = .ok (.goto (-43), 3) := dGX12_155.2.1
theorem dX12_sums_46 : decode cX12_sums 46 = .ok (.return_, 1) := dGX12_155.2.2.1
theorem dX12_joins_0 : decode cX12_joins 0 = .ok (.aload_n 0, 1) := dGX12_155.2.2.2.1
theorem dX12_joins_1 : decode cX12_joins 1 = .ok (.invokevirtual 254, 3) := dGX12_155.2.2.2.2.1
theorem dX12_joins_4 : decode cX12_joins 4 = .ok (.bipush 38, 2) := dGX12_155.2.2.2.2.2
theorem dGX12_156 : decode cX12_joins 6 = .ok (.if_icmp .eq 16, 3) ∧ decode cX12_joins 9 = .ok (.iload_n 1, 1) ∧ decode cX12_joins 10 = .ok (.ifCond .eq 34, 3) ∧ decode cX12_joins 13 = .ok (.aload_n 0, 1) ∧ decode cX12_joins 14 = .ok (.invokevirtual 254, 3) ∧ decode cX12_joins 17 = .ok (.bipush 124, 2) := by decide +kernel
theorem dX12_joins_6 : decode cX12_joins 6 = .ok (.if_icmp .eq 16, 3) := dGX12_156.1
theorem dX12_joins_9 : decode cX12_joins 9 = .ok (.iload_n 1, 1) := dGX12_156.2.1
theorem dX12_joins_10 : decode cX12_joins 10 = .ok (.ifCond .eq 34, 3) := dGX12_156.2.2.1
theorem dX12_joins_13 : decode cX12_joins 13 = .ok (.aload_n 0, 1) := dGX12_156.2.2.2.1
theorem dX12_joins_14 : decode cX12_joins 14 = .ok (.invokevirtual 254, 3) := dGX12_156.2.2.2.2.1
theorem dX12_joins_17 : decode cX12_joins 17 = .ok (.bipush 124, 2) := dGX12_156.2.2.2.2.2
theorem dGX12_157 : decode cX12_joins 19 = .ok (.if_icmp .ne 25, 3) ∧ decode cX12_joins 22 = .ok (.aload_n 0, 1) ∧ decode cX12_joins 23 = .ok (.aload_n 0, 1) ∧ decode cX12_joins 24 = .ok (.invokevirtual 254, 3) ∧ decode cX12_joins 27 = .ok (.iconst 0, 1) ∧ decode cX12_joins 28 = .ok (.invokevirtual 263, 3) := by decide +kernel
theorem dX12_joins_19 : decode cX12_joins 19 = .ok (.if_icmp .ne 25, 3) := dGX12_157.1
theorem dX12_joins_22 : decode cX12_joins 22 = .ok (.aload_n 0, 1) := dGX12_157.2.1
theorem dX12_joins_23 : decode cX12_joins 23 = .ok (.aload_n 0, 1) := dGX12_157.2.2.1
theorem dX12_joins_24 : decode cX12_joins 24 = .ok (.invokevirtual 254, 3) := dGX12_157.2.2.2.1
theorem dX12_joins_27 : decode cX12_joins 27 = .ok (.iconst 0, 1) := dGX12_157.2.2.2.2.1
theorem dX12_joins_28 : decode cX12_joins 28 = .ok (.invokevirtual 263, 3) := dGX12_157.2.2.2.2.2
theorem dGX12_158 : decode cX12_joins 31 = .ok (.aload_n 0, 1) ∧ decode cX12_joins 32 = .ok (.dup, 1) ∧ decode cX12_joins 33 = .ok (.getfield 227, 3) ∧ decode cX12_joins 36 = .ok (.iconst 1, 1) ∧ decode cX12_joins 37 = .ok (.isub, 1) ∧ decode cX12_joins 38 = .ok (.putfield 227, 3) := by decide +kernel
theorem dX12_joins_31 : decode cX12_joins 31 = .ok (.aload_n 0, 1) := dGX12_158.1
theorem dX12_joins_32 : decode cX12_joins 32 = .ok (.dup, 1) := dGX12_158.2.1
theorem dX12_joins_33 : decode cX12_joins 33 = .ok (.getfield 227, 3) := dGX12_158.2.2.1
theorem dX12_joins_36 : decode cX12_joins 36 = .ok (.iconst 1, 1) := dGX12_158.2.2.2.1
theorem dX12_joins_37 : decode cX12_joins 37 = .ok (.isub, 1) := dGX12_158.2.2.2.2.1
theorem dX12_joins_38 : decode cX12_joins 38 = .ok (.putfield 227, 3) := dGX12_158.2.2.2.2.2
theorem dGX12_159 : decode cX12_joins 41 = .ok (.goto (-41), 3) ∧ decode cX12_joins 44 = .ok (.return_, 1) ∧ decode cX12_ends 0 = .ok (.aload_n 0, 1) ∧ decode cX12_ends 1 = .ok (.invokevirtual 254, 3) ∧ decode cX12_ends 4 = .ok (.bipush 33, 2) ∧ decode cX12_ends 6 = .ok (.if_icmp .ne 32, 3) := by decide +kernel
theorem dX12_joins_41 : decode cX12_joins 41 = .ok (.goto (-41), 3) := dGX12_159.1
theorem dX12_joins_44 : decode cX12_joins 44 = .ok (.return_, 1) := dGX12_159.2.1
theorem dX12_ends_0 : decode cX12_ends 0 = .ok (.aload_n 0, 1) := dGX12_159.2.2.1
theorem dX12_ends_1 : decode cX12_ends 1 = .ok (.invokevirtual 254, 3) := dGX12_159.2.2.2.1
theorem dX12_ends_4 : decode cX12_ends 4 = .ok (.bipush 33, 2) := dGX12_159.2.2.2.2.1
theorem dX12_ends_6 : decode cX12_ends 6 = .ok (.if_icmp .ne 32, 3) := dGX12_159.2.2.2.2.2
theorem dGX12_160 : decode cX12_ends 9 = .ok (.aload_n 0, 1) ∧ decode cX12_ends 10 = .ok (.iconst 2, 1) ∧ decode cX12_ends 11 = .ok (.iconst 0, 1) ∧ decode cX12_ends 12 = .ok (.invokevirtual 263, 3) ∧ decode cX12_ends 15 = .ok (.aload_n 0, 1) ∧ decode cX12_ends 16 = .ok (.dup, 1) := by decide +kernel
theorem dX12_ends_9 : decode cX12_ends 9 = .ok (.aload_n 0, 1) := dGX12_160.1
theorem dX12_ends_10 : decode cX12_ends 10 = .ok (.iconst 2, 1) := dGX12_160.2.1
theorem dX12_ends_11 : decode cX12_ends 11 = .ok (.iconst 0, 1) := dGX12_160.2.2.1
theorem dX12_ends_12 : decode cX12_ends 12 = .ok (.invokevirtual 263, 3) := dGX12_160.2.2.2.1
theorem dX12_ends_15 : decode cX12_ends 15 = .ok (.aload_n 0, 1) := dGX12_160.2.2.2.2.1
theorem dX12_ends_16 : decode cX12_ends 16 = .ok (.dup, 1) := dGX12_160.2.2.2.2.2
theorem dGX12_161 : decode cX12_ends 17 = .ok (.getfield 227, 3) ∧ decode cX12_ends 20 = .ok (.iconst 1, 1) ∧ decode cX12_ends 21 = .ok (.isub, 1) ∧ decode cX12_ends 22 = .ok (.putfield 227, 3) ∧ decode cX12_ends 25 = .ok (.aload_n 0, 1) ∧ decode cX12_ends 26 = .ok (.dup, 1) := by decide +kernel
theorem dX12_ends_17 : decode cX12_ends 17 = .ok (.getfield 227, 3) := dGX12_161.1
theorem dX12_ends_20 : decode cX12_ends 20 = .ok (.iconst 1, 1) := dGX12_161.2.1
theorem dX12_ends_21 : decode cX12_ends 21 = .ok (.isub, 1) := dGX12_161.2.2.1
theorem dX12_ends_22 : decode cX12_ends 22 = .ok (.putfield 227, 3) := dGX12_161.2.2.2.1
theorem dX12_ends_25 : decode cX12_ends 25 = .ok (.aload_n 0, 1) := dGX12_161.2.2.2.2.1
theorem dX12_ends_26 : decode cX12_ends 26 = .ok (.dup, 1) := dGX12_161.2.2.2.2.2
theorem dGX12_162 : decode cX12_ends 27 = .ok (.getfield 230, 3) ∧ decode cX12_ends 30 = .ok (.iconst 1, 1) ∧ decode cX12_ends 31 = .ok (.isub, 1) ∧ decode cX12_ends 32 = .ok (.putfield 230, 3) ∧ decode cX12_ends 35 = .ok (.goto (-35), 3) ∧ decode cX12_ends 38 = .ok (.return_, 1) := by decide +kernel
theorem dX12_ends_27 : decode cX12_ends 27 = .ok (.getfield 230, 3) := dGX12_162.1
theorem dX12_ends_30 : decode cX12_ends 30 = .ok (.iconst 1, 1) := dGX12_162.2.1
theorem dX12_ends_31 : decode cX12_ends 31 = .ok (.isub, 1) := dGX12_162.2.2.1
theorem dX12_ends_32 : decode cX12_ends 32 = .ok (.putfield 230, 3) := dGX12_162.2.2.2.1
theorem dX12_ends_35 : decode cX12_ends 35 = .ok (.goto (-35), 3) := dGX12_162.2.2.2.2.1
theorem dX12_ends_38 : decode cX12_ends 38 = .ok (.return_, 1) := dGX12_162.2.2.2.2.2
theorem dGX12_163 : decode cX12_factor 0 = .ok (.aload_n 0, 1) ∧ decode cX12_factor 1 = .ok (.invokevirtual 220, 3) ∧ decode cX12_factor 4 = .ok (.ifCond .eq 19, 3) ∧ decode cX12_factor 7 = .ok (.aload_n 0, 1) ∧ decode cX12_factor 8 = .ok (.invokevirtual 237, 3) ∧ decode cX12_factor 11 = .ok (.bipush 91, 2) := by decide +kernel
theorem dX12_factor_0 : decode cX12_factor 0 = .ok (.aload_n 0, 1) := dGX12_163.1
theorem dX12_factor_1 : decode cX12_factor 1 = .ok (.invokevirtual 220, 3) := dGX12_163.2.1
theorem dX12_factor_4 : decode cX12_factor 4 = .ok (.ifCond .eq 19, 3) := dGX12_163.2.2.1
theorem dX12_factor_7 : decode cX12_factor 7 = .ok (.aload_n 0, 1) := dGX12_163.2.2.2.1
theorem dX12_factor_8 : decode cX12_factor 8 = .ok (.invokevirtual 237, 3) := dGX12_163.2.2.2.2.1
theorem dX12_factor_11 : decode cX12_factor 11 = .ok (.bipush 91, 2) := dGX12_163.2.2.2.2.2
theorem dGX12_164 : decode cX12_factor 13 = .ok (.if_icmp .ne 10, 3) ∧ decode cX12_factor 16 = .ok (.aload_n 0, 1) ∧ decode cX12_factor 17 = .ok (.invokevirtual 266, 3) ∧ decode cX12_factor 20 = .ok (.goto (-20), 3) ∧ decode cX12_factor 23 = .ok (.aload_n 0, 1) ∧ decode cX12_factor 24 = .ok (.invokevirtual 220, 3) := by decide +kernel
theorem dX12_factor_13 : decode cX12_factor 13 = .ok (.if_icmp .ne 10, 3) := dGX12_164.1
theorem dX12_factor_16 : decode cX12_factor 16 = .ok (.aload_n 0, 1) := dGX12_164.2.1
theorem dX12_factor_17 : decode cX12_factor 17 = .ok (.invokevirtual 266, 3) := dGX12_164.2.2.1
theorem dX12_factor_20 : decode cX12_factor 20 = .ok (.goto (-20), 3) := dGX12_164.2.2.2.1
theorem dX12_factor_23 : decode cX12_factor 23 = .ok (.aload_n 0, 1) := dGX12_164.2.2.2.2.1
theorem dX12_factor_24 : decode cX12_factor 24 = .ok (.invokevirtual 220, 3) := dGX12_164.2.2.2.2.2
theorem dGX12_165 : decode cX12_factor 27 = .ok (.ifCond .ne 4, 3) ∧ decode cX12_factor 30 = .ok (.return_, 1) ∧ decode cX12_factor 31 = .ok (.aload_n 0, 1) ∧ decode cX12_factor 32 = .ok (.invokevirtual 248, 3) ∧ decode cX12_factor 35 = .ok (.ifCond .eq 15, 3) ∧ decode cX12_factor 38 = .ok (.aload_n 0, 1) := by decide +kernel
theorem dX12_factor_27 : decode cX12_factor 27 = .ok (.ifCond .ne 4, 3) := dGX12_165.1
theorem dX12_factor_30 : decode cX12_factor 30 = .ok (.return_, 1) := dGX12_165.2.1
theorem dX12_factor_31 : decode cX12_factor 31 = .ok (.aload_n 0, 1) := dGX12_165.2.2.1
theorem dX12_factor_32 : decode cX12_factor 32 = .ok (.invokevirtual 248, 3) := dGX12_165.2.2.2.1
theorem dX12_factor_35 : decode cX12_factor 35 = .ok (.ifCond .eq 15, 3) := dGX12_165.2.2.2.2.1
theorem dX12_factor_38 : decode cX12_factor 38 = .ok (.aload_n 0, 1) := dGX12_165.2.2.2.2.2
theorem dGX12_166 : decode cX12_factor 39 = .ok (.iconst 0, 1) ∧ decode cX12_factor 40 = .ok (.aload_n 0, 1) ∧ decode cX12_factor 41 = .ok (.invokevirtual 269, 3) ∧ decode cX12_factor 44 = .ok (.invokevirtual 263, 3) ∧ decode cX12_factor 47 = .ok (.goto 44, 3) ∧ decode cX12_factor 50 = .ok (.aload_n 0, 1) := by decide +kernel
theorem dX12_factor_39 : decode cX12_factor 39 = .ok (.iconst 0, 1) := dGX12_166.1
theorem dX12_factor_40 : decode cX12_factor 40 = .ok (.aload_n 0, 1) := dGX12_166.2.1
theorem dX12_factor_41 : decode cX12_factor 41 = .ok (.invokevirtual 269, 3) := dGX12_166.2.2.1
theorem dX12_factor_44 : decode cX12_factor 44 = .ok (.invokevirtual 263, 3) := dGX12_166.2.2.2.1
theorem dX12_factor_47 : decode cX12_factor 47 = .ok (.goto 44, 3) := dGX12_166.2.2.2.2.1
theorem dX12_factor_50 : decode cX12_factor 50 = .ok (.aload_n 0, 1) := dGX12_166.2.2.2.2.2
theorem dGX12_167 : decode cX12_factor 51 = .ok (.invokevirtual 237, 3) ∧ decode cX12_factor 54 = .ok (.invokestatic 272, 3) ∧ decode cX12_factor 57 = .ok (.ifCond .eq 25, 3) ∧ decode cX12_factor 60 = .ok (.aload_n 0, 1) ∧ decode cX12_factor 61 = .ok (.iconst 1, 1) ∧ decode cX12_factor 62 = .ok (.aload_n 0, 1) := by decide +kernel
theorem dX12_factor_51 : decode cX12_factor 51 = .ok (.invokevirtual 237, 3) := dGX12_167.1
theorem dX12_factor_54 : decode cX12_factor 54 = .ok (.invokestatic 272, 3) := dGX12_167.2.1
theorem dX12_factor_57 : decode cX12_factor 57 = .ok (.ifCond .eq 25, 3) := dGX12_167.2.2.1
theorem dX12_factor_60 : decode cX12_factor 60 = .ok (.aload_n 0, 1) := dGX12_167.2.2.2.1
theorem dX12_factor_61 : decode cX12_factor 61 = .ok (.iconst 1, 1) := dGX12_167.2.2.2.2.1
theorem dX12_factor_62 : decode cX12_factor 62 = .ok (.aload_n 0, 1) := dGX12_167.2.2.2.2.2
theorem dGX12_168 : decode cX12_factor 63 = .ok (.invokevirtual 237, 3) ∧ decode cX12_factor 66 = .ok (.invokevirtual 263, 3) ∧ decode cX12_factor 69 = .ok (.aload_n 0, 1) ∧ decode cX12_factor 70 = .ok (.dup, 1) ∧ decode cX12_factor 71 = .ok (.getfield 211, 3) ∧ decode cX12_factor 74 = .ok (.iconst 1, 1) := by decide +kernel
theorem dX12_factor_63 : decode cX12_factor 63 = .ok (.invokevirtual 237, 3) := dGX12_168.1
theorem dX12_factor_66 : decode cX12_factor 66 = .ok (.invokevirtual 263, 3) := dGX12_168.2.1
theorem dX12_factor_69 : decode cX12_factor 69 = .ok (.aload_n 0, 1) := dGX12_168.2.2.1
theorem dX12_factor_70 : decode cX12_factor 70 = .ok (.dup, 1) := dGX12_168.2.2.2.1
theorem dX12_factor_71 : decode cX12_factor 71 = .ok (.getfield 211, 3) := dGX12_168.2.2.2.2.1
theorem dX12_factor_74 : decode cX12_factor 74 = .ok (.iconst 1, 1) := dGX12_168.2.2.2.2.2
theorem dGX12_169 : decode cX12_factor 75 = .ok (.iadd, 1) ∧ decode cX12_factor 76 = .ok (.putfield 211, 3) ∧ decode cX12_factor 79 = .ok (.goto 12, 3) ∧ decode cX12_factor 82 = .ok (.aload_n 0, 1) ∧ decode cX12_factor 83 = .ok (.iconst 1, 1) ∧ decode cX12_factor 84 = .ok (.aload_n 0, 1) := by decide +kernel
theorem dX12_factor_75 : decode cX12_factor 75 = .ok (.iadd, 1) := dGX12_169.1
theorem dX12_factor_76 : decode cX12_factor 76 = .ok (.putfield 211, 3) := dGX12_169.2.1
theorem dX12_factor_79 : decode cX12_factor 79 = .ok (.goto 12, 3) := dGX12_169.2.2.1
theorem dX12_factor_82 : decode cX12_factor 82 = .ok (.aload_n 0, 1) := dGX12_169.2.2.2.1
theorem dX12_factor_83 : decode cX12_factor 83 = .ok (.iconst 1, 1) := dGX12_169.2.2.2.2.1
theorem dX12_factor_84 : decode cX12_factor 84 = .ok (.aload_n 0, 1) := dGX12_169.2.2.2.2.2
theorem dGX12_170 : decode cX12_factor 85 = .ok (.getfield 211, 3) ∧ decode cX12_factor 88 = .ok (.invokevirtual 233, 3) ∧ decode cX12_factor 91 = .ok (.return_, 1) ∧ decode cX12_stays 0 = .ok (.aload_n 0, 1) ∧ decode cX12_stays 1 = .ok (.invokevirtual 237, 3) ∧ decode cX12_stays 4 = .ok (.istore_n 1, 1) := by decide +kernel
theorem dX12_factor_85 : decode cX12_factor 85 = .ok (.getfield 211, 3) := dGX12_170.1
theorem dX12_factor_88 : decode cX12_factor 88 = .ok (.invokevirtual 233, 3) := dGX12_170.2.1
theorem dX12_factor_91 : decode cX12_factor 91 = .ok (.return_, 1) := dGX12_170.2.2.1
theorem dX12_stays_0 : decode cX12_stays 0 = .ok (.aload_n 0, 1) := dGX12_170.2.2.2.1
theorem dX12_stays_1 : decode cX12_stays 1 = .ok (.invokevirtual 237, 3) := dGX12_170.2.2.2.2.1
theorem dX12_stays_4 : decode cX12_stays 4 = .ok (.istore_n 1, 1) := dGX12_170.2.2.2.2.2
theorem dGX12_171 : decode cX12_stays 5 = .ok (.iload_n 1, 1) ∧ decode cX12_stays 6 = .ok (.invokestatic 257, 3) ∧ decode cX12_stays 9 = .ok (.ifCond .ne 10, 3) ∧ decode cX12_stays 12 = .ok (.iload_n 1, 1) ∧ decode cX12_stays 13 = .ok (.invokestatic 260, 3) ∧ decode cX12_stays 16 = .ok (.ifCond .eq 18, 3) := by decide +kernel
theorem dX12_stays_5 : decode cX12_stays 5 = .ok (.iload_n 1, 1) := dGX12_171.1
theorem dX12_stays_6 : decode cX12_stays 6 = .ok (.invokestatic 257, 3) := dGX12_171.2.1
theorem dX12_stays_9 : decode cX12_stays 9 = .ok (.ifCond .ne 10, 3) := dGX12_171.2.2.1
theorem dX12_stays_12 : decode cX12_stays 12 = .ok (.iload_n 1, 1) := dGX12_171.2.2.2.1
theorem dX12_stays_13 : decode cX12_stays 13 = .ok (.invokestatic 260, 3) := dGX12_171.2.2.2.2.1
theorem dX12_stays_16 : decode cX12_stays 16 = .ok (.ifCond .eq 18, 3) := dGX12_171.2.2.2.2.2
theorem dGX12_172 : decode cX12_stays 19 = .ok (.aload_n 0, 1) ∧ decode cX12_stays 20 = .ok (.iload_n 1, 1) ∧ decode cX12_stays 21 = .ok (.invokestatic 260, 3) ∧ decode cX12_stays 24 = .ok (.invokevirtual 275, 3) ∧ decode cX12_stays 27 = .ok (.aload_n 0, 1) ∧ decode cX12_stays 28 = .ok (.iload_n 1, 1) := by decide +kernel
theorem dX12_stays_19 : decode cX12_stays 19 = .ok (.aload_n 0, 1) := dGX12_172.1
theorem dX12_stays_20 : decode cX12_stays 20 = .ok (.iload_n 1, 1) := dGX12_172.2.1
theorem dX12_stays_21 : decode cX12_stays 21 = .ok (.invokestatic 260, 3) := dGX12_172.2.2.1
theorem dX12_stays_24 : decode cX12_stays 24 = .ok (.invokevirtual 275, 3) := dGX12_172.2.2.2.1
theorem dX12_stays_27 : decode cX12_stays 27 = .ok (.aload_n 0, 1) := dGX12_172.2.2.2.2.1
theorem dX12_stays_28 : decode cX12_stays 28 = .ok (.iload_n 1, 1) := dGX12_172.2.2.2.2.2
theorem dGX12_173 : decode cX12_stays 29 = .ok (.invokevirtual 241, 3) ∧ decode cX12_stays 32 = .ok (.iconst 1, 1) ∧ decode cX12_stays 33 = .ok (.ireturn, 1) ∧ decode cX12_stays 34 = .ok (.aload_n 0, 1) ∧ decode cX12_stays 35 = .ok (.iconst 1, 1) ∧ decode cX12_stays 36 = .ok (.invokevirtual 275, 3) := by decide +kernel
theorem dX12_stays_29 : decode cX12_stays 29 = .ok (.invokevirtual 241, 3) := dGX12_173.1
theorem dX12_stays_32 : decode cX12_stays 32 = .ok (.iconst 1, 1) := dGX12_173.2.1
theorem dX12_stays_33 : decode cX12_stays 33 = .ok (.ireturn, 1) := dGX12_173.2.2.1
theorem dX12_stays_34 : decode cX12_stays 34 = .ok (.aload_n 0, 1) := dGX12_173.2.2.2.1
theorem dX12_stays_35 : decode cX12_stays 35 = .ok (.iconst 1, 1) := dGX12_173.2.2.2.2.1
theorem dX12_stays_36 : decode cX12_stays 36 = .ok (.invokevirtual 275, 3) := dGX12_173.2.2.2.2.2
theorem dGX12_174 : decode cX12_stays 39 = .ok (.iload_n 1, 1) ∧ decode cX12_stays 40 = .ok (.bipush 93, 2) ∧ decode cX12_stays 42 = .ok (.if_icmp .eq 5, 3) ∧ decode cX12_stays 45 = .ok (.iconst 0, 1) ∧ decode cX12_stays 46 = .ok (.ireturn, 1) ∧ decode cX12_stays 47 = .ok (.aload_n 0, 1) := by decide +kernel
theorem dX12_stays_39 : decode cX12_stays 39 = .ok (.iload_n 1, 1) := dGX12_174.1
theorem dX12_stays_40 : decode cX12_stays 40 = .ok (.bipush 93, 2) := dGX12_174.2.1
theorem dX12_stays_42 : decode cX12_stays 42 = .ok (.if_icmp .eq 5, 3) := dGX12_174.2.2.1
theorem dX12_stays_45 : decode cX12_stays 45 = .ok (.iconst 0, 1) := dGX12_174.2.2.2.1
theorem dX12_stays_46 : decode cX12_stays 46 = .ok (.ireturn, 1) := dGX12_174.2.2.2.2.1
theorem dX12_stays_47 : decode cX12_stays 47 = .ok (.aload_n 0, 1) := dGX12_174.2.2.2.2.2
theorem dGX12_175 : decode cX12_stays 48 = .ok (.invokevirtual 254, 3) ∧ decode cX12_stays 51 = .ok (.bipush 91, 2) ∧ decode cX12_stays 53 = .ok (.if_icmp .eq 14, 3) ∧ decode cX12_stays 56 = .ok (.aload_n 0, 1) ∧ decode cX12_stays 57 = .ok (.iconst 1, 1) ∧ decode cX12_stays 58 = .ok (.aload_n 0, 1) := by decide +kernel
theorem dX12_stays_48 : decode cX12_stays 48 = .ok (.invokevirtual 254, 3) := dGX12_175.1
theorem dX12_stays_51 : decode cX12_stays 51 = .ok (.bipush 91, 2) := dGX12_175.2.1
theorem dX12_stays_53 : decode cX12_stays 53 = .ok (.if_icmp .eq 14, 3) := dGX12_175.2.2.1
theorem dX12_stays_56 : decode cX12_stays 56 = .ok (.aload_n 0, 1) := dGX12_175.2.2.2.1
theorem dX12_stays_57 : decode cX12_stays 57 = .ok (.iconst 1, 1) := dGX12_175.2.2.2.2.1
theorem dX12_stays_58 : decode cX12_stays 58 = .ok (.aload_n 0, 1) := dGX12_175.2.2.2.2.2
theorem dGX12_176 : decode cX12_stays 59 = .ok (.getfield 211, 3) ∧ decode cX12_stays 62 = .ok (.invokevirtual 233, 3) ∧ decode cX12_stays 65 = .ok (.iconst 0, 1) ∧ decode cX12_stays 66 = .ok (.ireturn, 1) ∧ decode cX12_stays 67 = .ok (.aload_n 0, 1) ∧ decode cX12_stays 68 = .ok (.dup, 1) := by decide +kernel
theorem dX12_stays_59 : decode cX12_stays 59 = .ok (.getfield 211, 3) := dGX12_176.1
theorem dX12_stays_62 : decode cX12_stays 62 = .ok (.invokevirtual 233, 3) := dGX12_176.2.1
theorem dX12_stays_65 : decode cX12_stays 65 = .ok (.iconst 0, 1) := dGX12_176.2.2.1
theorem dX12_stays_66 : decode cX12_stays 66 = .ok (.ireturn, 1) := dGX12_176.2.2.2.1
theorem dX12_stays_67 : decode cX12_stays 67 = .ok (.aload_n 0, 1) := dGX12_176.2.2.2.2.1
theorem dX12_stays_68 : decode cX12_stays 68 = .ok (.dup, 1) := dGX12_176.2.2.2.2.2
theorem dGX12_177 : decode cX12_stays 69 = .ok (.getfield 227, 3) ∧ decode cX12_stays 72 = .ok (.iconst 1, 1) ∧ decode cX12_stays 73 = .ok (.isub, 1) ∧ decode cX12_stays 74 = .ok (.putfield 227, 3) ∧ decode cX12_stays 77 = .ok (.aload_n 0, 1) ∧ decode cX12_stays 78 = .ok (.dup, 1) := by decide +kernel
theorem dX12_stays_69 : decode cX12_stays 69 = .ok (.getfield 227, 3) := dGX12_177.1
theorem dX12_stays_72 : decode cX12_stays 72 = .ok (.iconst 1, 1) := dGX12_177.2.1
theorem dX12_stays_73 : decode cX12_stays 73 = .ok (.isub, 1) := dGX12_177.2.2.1
theorem dX12_stays_74 : decode cX12_stays 74 = .ok (.putfield 227, 3) := dGX12_177.2.2.2.1
theorem dX12_stays_77 : decode cX12_stays 77 = .ok (.aload_n 0, 1) := dGX12_177.2.2.2.2.1
theorem dX12_stays_78 : decode cX12_stays 78 = .ok (.dup, 1) := dGX12_177.2.2.2.2.2
theorem dGX12_178 : decode cX12_stays 79 = .ok (.getfield 230, 3) ∧ decode cX12_stays 82 = .ok (.iconst 1, 1) ∧ decode cX12_stays 83 = .ok (.isub, 1) ∧ decode cX12_stays 84 = .ok (.putfield 230, 3) ∧ decode cX12_stays 87 = .ok (.aload_n 0, 1) ∧ decode cX12_stays 88 = .ok (.dup, 1) := by decide +kernel
theorem dX12_stays_79 : decode cX12_stays 79 = .ok (.getfield 230, 3) := dGX12_178.1
theorem dX12_stays_82 : decode cX12_stays 82 = .ok (.iconst 1, 1) := dGX12_178.2.1
theorem dX12_stays_83 : decode cX12_stays 83 = .ok (.isub, 1) := dGX12_178.2.2.1
theorem dX12_stays_84 : decode cX12_stays 84 = .ok (.putfield 230, 3) := dGX12_178.2.2.2.1
theorem dX12_stays_87 : decode cX12_stays 87 = .ok (.aload_n 0, 1) := dGX12_178.2.2.2.2.1
theorem dX12_stays_88 : decode cX12_stays 88 = .ok (.dup, 1) := dGX12_178.2.2.2.2.2
theorem dGX12_179 : decode cX12_stays 89 = .ok (.getfield 211, 3) ∧ decode cX12_stays 92 = .ok (.iconst 1, 1) ∧ decode cX12_stays 93 = .ok (.iadd, 1) ∧ decode cX12_stays 94 = .ok (.putfield 211, 3) ∧ decode cX12_stays 97 = .ok (.aload_n 0, 1) ∧ decode cX12_stays 98 = .ok (.iconst 1, 1) := by decide +kernel
theorem dX12_stays_89 : decode cX12_stays 89 = .ok (.getfield 211, 3) := dGX12_179.1
theorem dX12_stays_92 : decode cX12_stays 92 = .ok (.iconst 1, 1) := dGX12_179.2.1
theorem dX12_stays_93 : decode cX12_stays 93 = .ok (.iadd, 1) := dGX12_179.2.2.1
theorem dX12_stays_94 : decode cX12_stays 94 = .ok (.putfield 211, 3) := dGX12_179.2.2.2.1
theorem dX12_stays_97 : decode cX12_stays 97 = .ok (.aload_n 0, 1) := dGX12_179.2.2.2.2.1
theorem dX12_stays_98 : decode cX12_stays 98 = .ok (.iconst 1, 1) := dGX12_179.2.2.2.2.2
theorem dGX12_180 : decode cX12_stays 99 = .ok (.putfield 279, 3) ∧ decode cX12_stays 102 = .ok (.iconst 1, 1) ∧ decode cX12_stays 103 = .ok (.ireturn, 1) ∧ decode cX12_value 0 = .ok (.iconst 1, 1) ∧ decode cX12_value 1 = .ok (.istore_n 1, 1) ∧ decode cX12_value 2 = .ok (.aload_n 0, 1) := by decide +kernel
theorem dX12_stays_99 : decode cX12_stays 99 = .ok (.putfield 279, 3) := dGX12_180.1
theorem dX12_stays_102 : decode cX12_stays 102 = .ok (.iconst 1, 1) := dGX12_180.2.1
theorem dX12_stays_103 : decode cX12_stays 103 = .ok (.ireturn, 1) := dGX12_180.2.2.1
theorem dX12_value_0 : decode cX12_value 0 = .ok (.iconst 1, 1) := dGX12_180.2.2.2.1
theorem dX12_value_1 : decode cX12_value 1 = .ok (.istore_n 1, 1) := dGX12_180.2.2.2.2.1
theorem dX12_value_2 : decode cX12_value 2 = .ok (.aload_n 0, 1) := dGX12_180.2.2.2.2.2
theorem dGX12_181 : decode cX12_value 3 = .ok (.iconst 0, 1) ∧ decode cX12_value 4 = .ok (.putfield 279, 3) ∧ decode cX12_value 7 = .ok (.iload_n 1, 1) ∧ decode cX12_value 8 = .ok (.ifCond .eq 49, 3) ∧ decode cX12_value 11 = .ok (.aload_n 0, 1) ∧ decode cX12_value 12 = .ok (.invokevirtual 220, 3) := by decide +kernel
theorem dX12_value_3 : decode cX12_value 3 = .ok (.iconst 0, 1) := dGX12_181.1
theorem dX12_value_4 : decode cX12_value 4 = .ok (.putfield 279, 3) := dGX12_181.2.1
theorem dX12_value_7 : decode cX12_value 7 = .ok (.iload_n 1, 1) := dGX12_181.2.2.1
theorem dX12_value_8 : decode cX12_value 8 = .ok (.ifCond .eq 49, 3) := dGX12_181.2.2.2.1
theorem dX12_value_11 : decode cX12_value 11 = .ok (.aload_n 0, 1) := dGX12_181.2.2.2.2.1
theorem dX12_value_12 : decode cX12_value 12 = .ok (.invokevirtual 220, 3) := dGX12_181.2.2.2.2.2
theorem dGX12_182 : decode cX12_value 15 = .ok (.ifCond .eq 42, 3) ∧ decode cX12_value 18 = .ok (.aload_n 0, 1) ∧ decode cX12_value 19 = .ok (.getfield 279, 3) ∧ decode cX12_value 22 = .ok (.ifCond .ne 7, 3) ∧ decode cX12_value 25 = .ok (.aload_n 0, 1) ∧ decode cX12_value 26 = .ok (.invokevirtual 283, 3) := by decide +kernel
theorem dX12_value_15 : decode cX12_value 15 = .ok (.ifCond .eq 42, 3) := dGX12_182.1
theorem dX12_value_18 : decode cX12_value 18 = .ok (.aload_n 0, 1) := dGX12_182.2.1
theorem dX12_value_19 : decode cX12_value 19 = .ok (.getfield 279, 3) := dGX12_182.2.2.1
theorem dX12_value_22 : decode cX12_value 22 = .ok (.ifCond .ne 7, 3) := dGX12_182.2.2.2.1
theorem dX12_value_25 : decode cX12_value 25 = .ok (.aload_n 0, 1) := dGX12_182.2.2.2.2.1
theorem dX12_value_26 : decode cX12_value 26 = .ok (.invokevirtual 283, 3) := dGX12_182.2.2.2.2.2
theorem dGX12_183 : decode cX12_value 29 = .ok (.aload_n 0, 1) ∧ decode cX12_value 30 = .ok (.iconst 0, 1) ∧ decode cX12_value 31 = .ok (.putfield 279, 3) ∧ decode cX12_value 34 = .ok (.aload_n 0, 1) ∧ decode cX12_value 35 = .ok (.invokevirtual 220, 3) ∧ decode cX12_value 38 = .ok (.ifCond .eq 14, 3) := by decide +kernel
theorem dX12_value_29 : decode cX12_value 29 = .ok (.aload_n 0, 1) := dGX12_183.1
theorem dX12_value_30 : decode cX12_value 30 = .ok (.iconst 0, 1) := dGX12_183.2.1
theorem dX12_value_31 : decode cX12_value 31 = .ok (.putfield 279, 3) := dGX12_183.2.2.1
theorem dX12_value_34 : decode cX12_value 34 = .ok (.aload_n 0, 1) := dGX12_183.2.2.2.1
theorem dX12_value_35 : decode cX12_value 35 = .ok (.invokevirtual 220, 3) := dGX12_183.2.2.2.2.1
theorem dX12_value_38 : decode cX12_value 38 = .ok (.ifCond .eq 14, 3) := dGX12_183.2.2.2.2.2
theorem dGX12_184 : decode cX12_value 41 = .ok (.aload_n 0, 1) ∧ decode cX12_value 42 = .ok (.invokevirtual 286, 3) ∧ decode cX12_value 45 = .ok (.ifCond .eq 7, 3) ∧ decode cX12_value 48 = .ok (.iconst 1, 1) ∧ decode cX12_value 49 = .ok (.goto 4, 3) ∧ decode cX12_value 52 = .ok (.iconst 0, 1) := by decide +kernel
theorem dX12_value_41 : decode cX12_value 41 = .ok (.aload_n 0, 1) := dGX12_184.1
theorem dX12_value_42 : decode cX12_value 42 = .ok (.invokevirtual 286, 3) := dGX12_184.2.1
theorem dX12_value_45 : decode cX12_value 45 = .ok (.ifCond .eq 7, 3) := dGX12_184.2.2.1
theorem dX12_value_48 : decode cX12_value 48 = .ok (.iconst 1, 1) := dGX12_184.2.2.2.1
theorem dX12_value_49 : decode cX12_value 49 = .ok (.goto 4, 3) := dGX12_184.2.2.2.2.1
theorem dX12_value_52 : decode cX12_value 52 = .ok (.iconst 0, 1) := dGX12_184.2.2.2.2.2
theorem dGX12_185 : decode cX12_value 53 = .ok (.istore_n 1, 1) ∧ decode cX12_value 54 = .ok (.goto (-47), 3) ∧ decode cX12_value 57 = .ok (.aload_n 0, 1) ∧ decode cX12_value 58 = .ok (.invokevirtual 220, 3) ∧ decode cX12_value 61 = .ok (.ifCond .eq 21, 3) ∧ decode cX12_value 64 = .ok (.aload_n 0, 1) := by decide +kernel
theorem dX12_value_53 : decode cX12_value 53 = .ok (.istore_n 1, 1) := dGX12_185.1
theorem dX12_value_54 : decode cX12_value 54 = .ok (.goto (-47), 3) := dGX12_185.2.1
theorem dX12_value_57 : decode cX12_value 57 = .ok (.aload_n 0, 1) := dGX12_185.2.2.1
theorem dX12_value_58 : decode cX12_value 58 = .ok (.invokevirtual 220, 3) := dGX12_185.2.2.2.1
theorem dX12_value_61 : decode cX12_value 61 = .ok (.ifCond .eq 21, 3) := dGX12_185.2.2.2.2.1
theorem dX12_value_64 : decode cX12_value 64 = .ok (.aload_n 0, 1) := dGX12_185.2.2.2.2.2
theorem dGX12_186 : decode cX12_value 65 = .ok (.invokevirtual 254, 3) ∧ decode cX12_value 68 = .ok (.bipush 91, 2) ∧ decode cX12_value 70 = .ok (.if_icmp .ne 12, 3) ∧ decode cX12_value 73 = .ok (.aload_n 0, 1) ∧ decode cX12_value 74 = .ok (.iconst 1, 1) ∧ decode cX12_value 75 = .ok (.aload_n 0, 1) := by decide +kernel
theorem dX12_value_65 : decode cX12_value 65 = .ok (.invokevirtual 254, 3) := dGX12_186.1
theorem dX12_value_68 : decode cX12_value 68 = .ok (.bipush 91, 2) := dGX12_186.2.1
theorem dX12_value_70 : decode cX12_value 70 = .ok (.if_icmp .ne 12, 3) := dGX12_186.2.2.1
theorem dX12_value_73 : decode cX12_value 73 = .ok (.aload_n 0, 1) := dGX12_186.2.2.2.1
theorem dX12_value_74 : decode cX12_value 74 = .ok (.iconst 1, 1) := dGX12_186.2.2.2.2.1
theorem dX12_value_75 : decode cX12_value 75 = .ok (.aload_n 0, 1) := dGX12_186.2.2.2.2.2
theorem dGX12_187 : decode cX12_value 76 = .ok (.getfield 211, 3) ∧ decode cX12_value 79 = .ok (.invokevirtual 233, 3) ∧ decode cX12_value 82 = .ok (.return_, 1) ∧ decode cX12_pieceOfC 0 = .ok (.aload_n 0, 1) ∧ decode cX12_pieceOfC 1 = .ok (.invokevirtual 220, 3) ∧ decode cX12_pieceOfC 4 = .ok (.ifCond .eq 28, 3) := by decide +kernel
theorem dX12_value_76 : decode cX12_value 76 = .ok (.getfield 211, 3) := dGX12_187.1
theorem dX12_value_79 : decode cX12_value 79 = .ok (.invokevirtual 233, 3) := dGX12_187.2.1
theorem dX12_value_82 : decode cX12_value 82 = .ok (.return_, 1) := dGX12_187.2.2.1
theorem dX12_pieceOfC_0 : decode cX12_pieceOfC 0 = .ok (.aload_n 0, 1) := dGX12_187.2.2.2.1
theorem dX12_pieceOfC_1 : decode cX12_pieceOfC 1 = .ok (.invokevirtual 220, 3) := dGX12_187.2.2.2.2.1
theorem dX12_pieceOfC_4 : decode cX12_pieceOfC 4 = .ok (.ifCond .eq 28, 3) := dGX12_187.2.2.2.2.2
theorem dGX12_188 : decode cX12_pieceOfC 7 = .ok (.aload_n 0, 1) ∧ decode cX12_pieceOfC 8 = .ok (.invokevirtual 237, 3) ∧ decode cX12_pieceOfC 11 = .ok (.bipush 33, 2) ∧ decode cX12_pieceOfC 13 = .ok (.if_icmp .eq 12, 3) ∧ decode cX12_pieceOfC 16 = .ok (.aload_n 0, 1) ∧ decode cX12_pieceOfC 17 = .ok (.invokevirtual 237, 3) := by decide +kernel
theorem dX12_pieceOfC_7 : decode cX12_pieceOfC 7 = .ok (.aload_n 0, 1) := dGX12_188.1
theorem dX12_pieceOfC_8 : decode cX12_pieceOfC 8 = .ok (.invokevirtual 237, 3) := dGX12_188.2.1
theorem dX12_pieceOfC_11 : decode cX12_pieceOfC 11 = .ok (.bipush 33, 2) := dGX12_188.2.2.1
theorem dX12_pieceOfC_13 : decode cX12_pieceOfC 13 = .ok (.if_icmp .eq 12, 3) := dGX12_188.2.2.2.1
theorem dX12_pieceOfC_16 : decode cX12_pieceOfC 16 = .ok (.aload_n 0, 1) := dGX12_188.2.2.2.2.1
theorem dX12_pieceOfC_17 : decode cX12_pieceOfC 17 = .ok (.invokevirtual 237, 3) := dGX12_188.2.2.2.2.2
theorem dGX12_189 : decode cX12_pieceOfC 20 = .ok (.bipush 40, 2) ∧ decode cX12_pieceOfC 22 = .ok (.if_icmp .ne 10, 3) ∧ decode cX12_pieceOfC 25 = .ok (.aload_n 0, 1) ∧ decode cX12_pieceOfC 26 = .ok (.invokevirtual 266, 3) ∧ decode cX12_pieceOfC 29 = .ok (.goto (-29), 3) ∧ decode cX12_pieceOfC 32 = .ok (.aload_n 0, 1) := by decide +kernel
theorem dX12_pieceOfC_20 : decode cX12_pieceOfC 20 = .ok (.bipush 40, 2) := dGX12_189.1
theorem dX12_pieceOfC_22 : decode cX12_pieceOfC 22 = .ok (.if_icmp .ne 10, 3) := dGX12_189.2.1
theorem dX12_pieceOfC_25 : decode cX12_pieceOfC 25 = .ok (.aload_n 0, 1) := dGX12_189.2.2.1
theorem dX12_pieceOfC_26 : decode cX12_pieceOfC 26 = .ok (.invokevirtual 266, 3) := dGX12_189.2.2.2.1
theorem dX12_pieceOfC_29 : decode cX12_pieceOfC 29 = .ok (.goto (-29), 3) := dGX12_189.2.2.2.2.1
theorem dX12_pieceOfC_32 : decode cX12_pieceOfC 32 = .ok (.aload_n 0, 1) := dGX12_189.2.2.2.2.2
theorem dGX12_190 : decode cX12_pieceOfC 33 = .ok (.invokevirtual 220, 3) ∧ decode cX12_pieceOfC 36 = .ok (.ifCond .eq 7, 3) ∧ decode cX12_pieceOfC 39 = .ok (.aload_n 0, 1) ∧ decode cX12_pieceOfC 40 = .ok (.invokevirtual 289, 3) ∧ decode cX12_pieceOfC 43 = .ok (.aload_n 0, 1) ∧ decode cX12_pieceOfC 44 = .ok (.invokevirtual 220, 3) := by decide +kernel
theorem dX12_pieceOfC_33 : decode cX12_pieceOfC 33 = .ok (.invokevirtual 220, 3) := dGX12_190.1
theorem dX12_pieceOfC_36 : decode cX12_pieceOfC 36 = .ok (.ifCond .eq 7, 3) := dGX12_190.2.1
theorem dX12_pieceOfC_39 : decode cX12_pieceOfC 39 = .ok (.aload_n 0, 1) := dGX12_190.2.2.1
theorem dX12_pieceOfC_40 : decode cX12_pieceOfC 40 = .ok (.invokevirtual 289, 3) := dGX12_190.2.2.2.1
theorem dX12_pieceOfC_43 : decode cX12_pieceOfC 43 = .ok (.aload_n 0, 1) := dGX12_190.2.2.2.2.1
theorem dX12_pieceOfC_44 : decode cX12_pieceOfC 44 = .ok (.invokevirtual 220, 3) := dGX12_190.2.2.2.2.2
theorem dGX12_191 : decode cX12_pieceOfC 47 = .ok (.ifCond .ne 4, 3) ∧ decode cX12_pieceOfC 50 = .ok (.return_, 1) ∧ decode cX12_pieceOfC 51 = .ok (.aload_n 0, 1) ∧ decode cX12_pieceOfC 52 = .ok (.invokevirtual 237, 3) ∧ decode cX12_pieceOfC 55 = .ok (.istore_n 1, 1) ∧ decode cX12_pieceOfC 56 = .ok (.iload_n 1, 1) := by decide +kernel
theorem dX12_pieceOfC_47 : decode cX12_pieceOfC 47 = .ok (.ifCond .ne 4, 3) := dGX12_191.1
theorem dX12_pieceOfC_50 : decode cX12_pieceOfC 50 = .ok (.return_, 1) := dGX12_191.2.1
theorem dX12_pieceOfC_51 : decode cX12_pieceOfC 51 = .ok (.aload_n 0, 1) := dGX12_191.2.2.1
theorem dX12_pieceOfC_52 : decode cX12_pieceOfC 52 = .ok (.invokevirtual 237, 3) := dGX12_191.2.2.2.1
theorem dX12_pieceOfC_55 : decode cX12_pieceOfC 55 = .ok (.istore_n 1, 1) := dGX12_191.2.2.2.2.1
theorem dX12_pieceOfC_56 : decode cX12_pieceOfC 56 = .ok (.iload_n 1, 1) := dGX12_191.2.2.2.2.2
theorem dGX12_192 : decode cX12_pieceOfC 57 = .ok (.invokestatic 292, 3) ∧ decode cX12_pieceOfC 60 = .ok (.ifCond .ne 13, 3) ∧ decode cX12_pieceOfC 63 = .ok (.aload_n 0, 1) ∧ decode cX12_pieceOfC 64 = .ok (.iconst 1, 1) ∧ decode cX12_pieceOfC 65 = .ok (.aload_n 0, 1) ∧ decode cX12_pieceOfC 66 = .ok (.getfield 211, 3) := by decide +kernel
theorem dX12_pieceOfC_57 : decode cX12_pieceOfC 57 = .ok (.invokestatic 292, 3) := dGX12_192.1
theorem dX12_pieceOfC_60 : decode cX12_pieceOfC 60 = .ok (.ifCond .ne 13, 3) := dGX12_192.2.1
theorem dX12_pieceOfC_63 : decode cX12_pieceOfC 63 = .ok (.aload_n 0, 1) := dGX12_192.2.2.1
theorem dX12_pieceOfC_64 : decode cX12_pieceOfC 64 = .ok (.iconst 1, 1) := dGX12_192.2.2.2.1
theorem dX12_pieceOfC_65 : decode cX12_pieceOfC 65 = .ok (.aload_n 0, 1) := dGX12_192.2.2.2.2.1
theorem dX12_pieceOfC_66 : decode cX12_pieceOfC 66 = .ok (.getfield 211, 3) := dGX12_192.2.2.2.2.2
theorem dGX12_193 : decode cX12_pieceOfC 69 = .ok (.invokevirtual 233, 3) ∧ decode cX12_pieceOfC 72 = .ok (.return_, 1) ∧ decode cX12_pieceOfC 73 = .ok (.aload_n 0, 1) ∧ decode cX12_pieceOfC 74 = .ok (.iload_n 1, 1) ∧ decode cX12_pieceOfC 75 = .ok (.invokevirtual 241, 3) ∧ decode cX12_pieceOfC 78 = .ok (.aload_n 0, 1) := by decide +kernel
theorem dX12_pieceOfC_69 : decode cX12_pieceOfC 69 = .ok (.invokevirtual 233, 3) := dGX12_193.1
theorem dX12_pieceOfC_72 : decode cX12_pieceOfC 72 = .ok (.return_, 1) := dGX12_193.2.1
theorem dX12_pieceOfC_73 : decode cX12_pieceOfC 73 = .ok (.aload_n 0, 1) := dGX12_193.2.2.1
theorem dX12_pieceOfC_74 : decode cX12_pieceOfC 74 = .ok (.iload_n 1, 1) := dGX12_193.2.2.2.1
theorem dX12_pieceOfC_75 : decode cX12_pieceOfC 75 = .ok (.invokevirtual 241, 3) := dGX12_193.2.2.2.2.1
theorem dX12_pieceOfC_78 : decode cX12_pieceOfC 78 = .ok (.aload_n 0, 1) := dGX12_193.2.2.2.2.2
theorem dGX12_194 : decode cX12_pieceOfC 79 = .ok (.invokevirtual 289, 3) ∧ decode cX12_pieceOfC 82 = .ok (.aload_n 0, 1) ∧ decode cX12_pieceOfC 83 = .ok (.invokevirtual 220, 3) ∧ decode cX12_pieceOfC 86 = .ok (.ifCond .ne 4, 3) ∧ decode cX12_pieceOfC 89 = .ok (.return_, 1) ∧ decode cX12_pieceOfC 90 = .ok (.aload_n 0, 1) := by decide +kernel
theorem dX12_pieceOfC_79 : decode cX12_pieceOfC 79 = .ok (.invokevirtual 289, 3) := dGX12_194.1
theorem dX12_pieceOfC_82 : decode cX12_pieceOfC 82 = .ok (.aload_n 0, 1) := dGX12_194.2.1
theorem dX12_pieceOfC_83 : decode cX12_pieceOfC 83 = .ok (.invokevirtual 220, 3) := dGX12_194.2.2.1
theorem dX12_pieceOfC_86 : decode cX12_pieceOfC 86 = .ok (.ifCond .ne 4, 3) := dGX12_194.2.2.2.1
theorem dX12_pieceOfC_89 : decode cX12_pieceOfC 89 = .ok (.return_, 1) := dGX12_194.2.2.2.2.1
theorem dX12_pieceOfC_90 : decode cX12_pieceOfC 90 = .ok (.aload_n 0, 1) := dGX12_194.2.2.2.2.2
theorem dGX12_195 : decode cX12_pieceOfC 91 = .ok (.aload_n 0, 1) ∧ decode cX12_pieceOfC 92 = .ok (.invokevirtual 254, 3) ∧ decode cX12_pieceOfC 95 = .ok (.iconst 0, 1) ∧ decode cX12_pieceOfC 96 = .ok (.invokevirtual 263, 3) ∧ decode cX12_pieceOfC 99 = .ok (.aload_n 0, 1) ∧ decode cX12_pieceOfC 100 = .ok (.dup, 1) := by decide +kernel
theorem dX12_pieceOfC_91 : decode cX12_pieceOfC 91 = .ok (.aload_n 0, 1) := dGX12_195.1
theorem dX12_pieceOfC_92 : decode cX12_pieceOfC 92 = .ok (.invokevirtual 254, 3) := dGX12_195.2.1
theorem dX12_pieceOfC_95 : decode cX12_pieceOfC 95 = .ok (.iconst 0, 1) := dGX12_195.2.2.1
theorem dX12_pieceOfC_96 : decode cX12_pieceOfC 96 = .ok (.invokevirtual 263, 3) := dGX12_195.2.2.2.1
theorem dX12_pieceOfC_99 : decode cX12_pieceOfC 99 = .ok (.aload_n 0, 1) := dGX12_195.2.2.2.2.1
theorem dX12_pieceOfC_100 : decode cX12_pieceOfC 100 = .ok (.dup, 1) := dGX12_195.2.2.2.2.2
theorem dGX12_196 : decode cX12_pieceOfC 101 = .ok (.getfield 227, 3) ∧ decode cX12_pieceOfC 104 = .ok (.iconst 1, 1) ∧ decode cX12_pieceOfC 105 = .ok (.isub, 1) ∧ decode cX12_pieceOfC 106 = .ok (.putfield 227, 3) ∧ decode cX12_pieceOfC 109 = .ok (.aload_n 0, 1) ∧ decode cX12_pieceOfC 110 = .ok (.invokevirtual 295, 3) := by decide +kernel
theorem dX12_pieceOfC_101 : decode cX12_pieceOfC 101 = .ok (.getfield 227, 3) := dGX12_196.1
theorem dX12_pieceOfC_104 : decode cX12_pieceOfC 104 = .ok (.iconst 1, 1) := dGX12_196.2.1
theorem dX12_pieceOfC_105 : decode cX12_pieceOfC 105 = .ok (.isub, 1) := dGX12_196.2.2.1
theorem dX12_pieceOfC_106 : decode cX12_pieceOfC 106 = .ok (.putfield 227, 3) := dGX12_196.2.2.2.1
theorem dX12_pieceOfC_109 : decode cX12_pieceOfC 109 = .ok (.aload_n 0, 1) := dGX12_196.2.2.2.2.1
theorem dX12_pieceOfC_110 : decode cX12_pieceOfC 110 = .ok (.invokevirtual 295, 3) := dGX12_196.2.2.2.2.2
theorem dGX12_197 : decode cX12_pieceOfC 113 = .ok (.return_, 1) ∧ decode cX12_goesBehind 0 = .ok (.aload_n 0, 1) ∧ decode cX12_goesBehind 1 = .ok (.invokevirtual 237, 3) ∧ decode cX12_goesBehind 4 = .ok (.istore_n 1, 1) ∧ decode cX12_goesBehind 5 = .ok (.iload_n 1, 1) ∧ decode cX12_goesBehind 6 = .ok (.bipush 38, 2) := by decide +kernel
theorem dX12_pieceOfC_113 : decode cX12_pieceOfC 113 = .ok (.return_, 1) := dGX12_197.1
theorem dX12_goesBehind_0 : decode cX12_goesBehind 0 = .ok (.aload_n 0, 1) := dGX12_197.2.1
theorem dX12_goesBehind_1 : decode cX12_goesBehind 1 = .ok (.invokevirtual 237, 3) := dGX12_197.2.2.1
theorem dX12_goesBehind_4 : decode cX12_goesBehind 4 = .ok (.istore_n 1, 1) := dGX12_197.2.2.2.1
theorem dX12_goesBehind_5 : decode cX12_goesBehind 5 = .ok (.iload_n 1, 1) := dGX12_197.2.2.2.2.1
theorem dX12_goesBehind_6 : decode cX12_goesBehind 6 = .ok (.bipush 38, 2) := dGX12_197.2.2.2.2.2
theorem dGX12_198 : decode cX12_goesBehind 8 = .ok (.if_icmp .eq 9, 3) ∧ decode cX12_goesBehind 11 = .ok (.iload_n 1, 1) ∧ decode cX12_goesBehind 12 = .ok (.bipush 124, 2) ∧ decode cX12_goesBehind 14 = .ok (.if_icmp .ne 25, 3) ∧ decode cX12_goesBehind 17 = .ok (.aload_n 0, 1) ∧ decode cX12_goesBehind 18 = .ok (.iload_n 1, 1) := by decide +kernel
theorem dX12_goesBehind_8 : decode cX12_goesBehind 8 = .ok (.if_icmp .eq 9, 3) := dGX12_198.1
theorem dX12_goesBehind_11 : decode cX12_goesBehind 11 = .ok (.iload_n 1, 1) := dGX12_198.2.1
theorem dX12_goesBehind_12 : decode cX12_goesBehind 12 = .ok (.bipush 124, 2) := dGX12_198.2.2.1
theorem dX12_goesBehind_14 : decode cX12_goesBehind 14 = .ok (.if_icmp .ne 25, 3) := dGX12_198.2.2.2.1
theorem dX12_goesBehind_17 : decode cX12_goesBehind 17 = .ok (.aload_n 0, 1) := dGX12_198.2.2.2.2.1
theorem dX12_goesBehind_18 : decode cX12_goesBehind 18 = .ok (.iload_n 1, 1) := dGX12_198.2.2.2.2.2
theorem dGX12_199 : decode cX12_goesBehind 19 = .ok (.bipush 124, 2) ∧ decode cX12_goesBehind 21 = .ok (.if_icmp .ne 7, 3) ∧ decode cX12_goesBehind 24 = .ok (.iconst 1, 1) ∧ decode cX12_goesBehind 25 = .ok (.goto 4, 3) ∧ decode cX12_goesBehind 28 = .ok (.iconst 0, 1) ∧ decode cX12_goesBehind 29 = .ok (.invokevirtual 298, 3) := by decide +kernel
theorem dX12_goesBehind_19 : decode cX12_goesBehind 19 = .ok (.bipush 124, 2) := dGX12_199.1
theorem dX12_goesBehind_21 : decode cX12_goesBehind 21 = .ok (.if_icmp .ne 7, 3) := dGX12_199.2.1
theorem dX12_goesBehind_24 : decode cX12_goesBehind 24 = .ok (.iconst 1, 1) := dGX12_199.2.2.1
theorem dX12_goesBehind_25 : decode cX12_goesBehind 25 = .ok (.goto 4, 3) := dGX12_199.2.2.2.1
theorem dX12_goesBehind_28 : decode cX12_goesBehind 28 = .ok (.iconst 0, 1) := dGX12_199.2.2.2.2.1
theorem dX12_goesBehind_29 : decode cX12_goesBehind 29 = .ok (.invokevirtual 298, 3) := dGX12_199.2.2.2.2.2
theorem dGX12_200 : decode cX12_goesBehind 32 = .ok (.aload_n 0, 1) ∧ decode cX12_goesBehind 33 = .ok (.iload_n 1, 1) ∧ decode cX12_goesBehind 34 = .ok (.invokevirtual 241, 3) ∧ decode cX12_goesBehind 37 = .ok (.iconst 1, 1) ∧ decode cX12_goesBehind 38 = .ok (.ireturn, 1) ∧ decode cX12_goesBehind 39 = .ok (.iload_n 1, 1) := by decide +kernel
theorem dX12_goesBehind_32 : decode cX12_goesBehind 32 = .ok (.aload_n 0, 1) := dGX12_200.1
theorem dX12_goesBehind_33 : decode cX12_goesBehind 33 = .ok (.iload_n 1, 1) := dGX12_200.2.1
theorem dX12_goesBehind_34 : decode cX12_goesBehind 34 = .ok (.invokevirtual 241, 3) := dGX12_200.2.2.1
theorem dX12_goesBehind_37 : decode cX12_goesBehind 37 = .ok (.iconst 1, 1) := dGX12_200.2.2.2.1
theorem dX12_goesBehind_38 : decode cX12_goesBehind 38 = .ok (.ireturn, 1) := dGX12_200.2.2.2.2.1
theorem dX12_goesBehind_39 : decode cX12_goesBehind 39 = .ok (.iload_n 1, 1) := dGX12_200.2.2.2.2.2
theorem dGX12_201 : decode cX12_goesBehind 40 = .ok (.bipush 41, 2) ∧ decode cX12_goesBehind 42 = .ok (.if_icmp .eq 14, 3) ∧ decode cX12_goesBehind 45 = .ok (.aload_n 0, 1) ∧ decode cX12_goesBehind 46 = .ok (.iconst 1, 1) ∧ decode cX12_goesBehind 47 = .ok (.aload_n 0, 1) ∧ decode cX12_goesBehind 48 = .ok (.getfield 211, 3) := by decide +kernel
theorem dX12_goesBehind_40 : decode cX12_goesBehind 40 = .ok (.bipush 41, 2) := dGX12_201.1
theorem dX12_goesBehind_42 : decode cX12_goesBehind 42 = .ok (.if_icmp .eq 14, 3) := dGX12_201.2.1
theorem dX12_goesBehind_45 : decode cX12_goesBehind 45 = .ok (.aload_n 0, 1) := dGX12_201.2.2.1
theorem dX12_goesBehind_46 : decode cX12_goesBehind 46 = .ok (.iconst 1, 1) := dGX12_201.2.2.2.1
theorem dX12_goesBehind_47 : decode cX12_goesBehind 47 = .ok (.aload_n 0, 1) := dGX12_201.2.2.2.2.1
theorem dX12_goesBehind_48 : decode cX12_goesBehind 48 = .ok (.getfield 211, 3) := dGX12_201.2.2.2.2.2
theorem dGX12_202 : decode cX12_goesBehind 51 = .ok (.invokevirtual 233, 3) ∧ decode cX12_goesBehind 54 = .ok (.iconst 0, 1) ∧ decode cX12_goesBehind 55 = .ok (.ireturn, 1) ∧ decode cX12_goesBehind 56 = .ok (.aload_n 0, 1) ∧ decode cX12_goesBehind 57 = .ok (.iconst 1, 1) ∧ decode cX12_goesBehind 58 = .ok (.invokevirtual 298, 3) := by decide +kernel
theorem dX12_goesBehind_51 : decode cX12_goesBehind 51 = .ok (.invokevirtual 233, 3) := dGX12_202.1
theorem dX12_goesBehind_54 : decode cX12_goesBehind 54 = .ok (.iconst 0, 1) := dGX12_202.2.1
theorem dX12_goesBehind_55 : decode cX12_goesBehind 55 = .ok (.ireturn, 1) := dGX12_202.2.2.1
theorem dX12_goesBehind_56 : decode cX12_goesBehind 56 = .ok (.aload_n 0, 1) := dGX12_202.2.2.2.1
theorem dX12_goesBehind_57 : decode cX12_goesBehind 57 = .ok (.iconst 1, 1) := dGX12_202.2.2.2.2.1
theorem dX12_goesBehind_58 : decode cX12_goesBehind 58 = .ok (.invokevirtual 298, 3) := dGX12_202.2.2.2.2.2
theorem dGX12_203 : decode cX12_goesBehind 61 = .ok (.aload_n 0, 1) ∧ decode cX12_goesBehind 62 = .ok (.dup, 1) ∧ decode cX12_goesBehind 63 = .ok (.getfield 227, 3) ∧ decode cX12_goesBehind 66 = .ok (.iconst 1, 1) ∧ decode cX12_goesBehind 67 = .ok (.isub, 1) ∧ decode cX12_goesBehind 68 = .ok (.putfield 227, 3) := by decide +kernel
theorem dX12_goesBehind_61 : decode cX12_goesBehind 61 = .ok (.aload_n 0, 1) := dGX12_203.1
theorem dX12_goesBehind_62 : decode cX12_goesBehind 62 = .ok (.dup, 1) := dGX12_203.2.1
theorem dX12_goesBehind_63 : decode cX12_goesBehind 63 = .ok (.getfield 227, 3) := dGX12_203.2.2.1
theorem dX12_goesBehind_66 : decode cX12_goesBehind 66 = .ok (.iconst 1, 1) := dGX12_203.2.2.2.1
theorem dX12_goesBehind_67 : decode cX12_goesBehind 67 = .ok (.isub, 1) := dGX12_203.2.2.2.2.1
theorem dX12_goesBehind_68 : decode cX12_goesBehind 68 = .ok (.putfield 227, 3) := dGX12_203.2.2.2.2.2
theorem dGX12_204 : decode cX12_goesBehind 71 = .ok (.aload_n 0, 1) ∧ decode cX12_goesBehind 72 = .ok (.dup, 1) ∧ decode cX12_goesBehind 73 = .ok (.getfield 230, 3) ∧ decode cX12_goesBehind 76 = .ok (.iconst 1, 1) ∧ decode cX12_goesBehind 77 = .ok (.isub, 1) ∧ decode cX12_goesBehind 78 = .ok (.putfield 230, 3) := by decide +kernel
theorem dX12_goesBehind_71 : decode cX12_goesBehind 71 = .ok (.aload_n 0, 1) := dGX12_204.1
theorem dX12_goesBehind_72 : decode cX12_goesBehind 72 = .ok (.dup, 1) := dGX12_204.2.1
theorem dX12_goesBehind_73 : decode cX12_goesBehind 73 = .ok (.getfield 230, 3) := dGX12_204.2.2.1
theorem dX12_goesBehind_76 : decode cX12_goesBehind 76 = .ok (.iconst 1, 1) := dGX12_204.2.2.2.1
theorem dX12_goesBehind_77 : decode cX12_goesBehind 77 = .ok (.isub, 1) := dGX12_204.2.2.2.2.1
theorem dX12_goesBehind_78 : decode cX12_goesBehind 78 = .ok (.putfield 230, 3) := dGX12_204.2.2.2.2.2
theorem dGX12_205 : decode cX12_goesBehind 81 = .ok (.aload_n 0, 1) ∧ decode cX12_goesBehind 82 = .ok (.dup, 1) ∧ decode cX12_goesBehind 83 = .ok (.getfield 211, 3) ∧ decode cX12_goesBehind 86 = .ok (.iconst 1, 1) ∧ decode cX12_goesBehind 87 = .ok (.iadd, 1) ∧ decode cX12_goesBehind 88 = .ok (.putfield 211, 3) := by decide +kernel
theorem dX12_goesBehind_81 : decode cX12_goesBehind 81 = .ok (.aload_n 0, 1) := dGX12_205.1
theorem dX12_goesBehind_82 : decode cX12_goesBehind 82 = .ok (.dup, 1) := dGX12_205.2.1
theorem dX12_goesBehind_83 : decode cX12_goesBehind 83 = .ok (.getfield 211, 3) := dGX12_205.2.2.1
theorem dX12_goesBehind_86 : decode cX12_goesBehind 86 = .ok (.iconst 1, 1) := dGX12_205.2.2.2.1
theorem dX12_goesBehind_87 : decode cX12_goesBehind 87 = .ok (.iadd, 1) := dGX12_205.2.2.2.2.1
theorem dX12_goesBehind_88 : decode cX12_goesBehind 88 = .ok (.putfield 211, 3) := dGX12_205.2.2.2.2.2
theorem dGX12_206 : decode cX12_goesBehind 91 = .ok (.aload_n 0, 1) ∧ decode cX12_goesBehind 92 = .ok (.aload_n 0, 1) ∧ decode cX12_goesBehind 93 = .ok (.getfield 227, 3) ∧ decode cX12_goesBehind 96 = .ok (.ifCond .ne 7, 3) ∧ decode cX12_goesBehind 99 = .ok (.iconst 1, 1) ∧ decode cX12_goesBehind 100 = .ok (.goto 4, 3) := by decide +kernel
theorem dX12_goesBehind_91 : decode cX12_goesBehind 91 = .ok (.aload_n 0, 1) := dGX12_206.1
theorem dX12_goesBehind_92 : decode cX12_goesBehind 92 = .ok (.aload_n 0, 1) := dGX12_206.2.1
theorem dX12_goesBehind_93 : decode cX12_goesBehind 93 = .ok (.getfield 227, 3) := dGX12_206.2.2.1
theorem dX12_goesBehind_96 : decode cX12_goesBehind 96 = .ok (.ifCond .ne 7, 3) := dGX12_206.2.2.2.1
theorem dX12_goesBehind_99 : decode cX12_goesBehind 99 = .ok (.iconst 1, 1) := dGX12_206.2.2.2.2.1
theorem dX12_goesBehind_100 : decode cX12_goesBehind 100 = .ok (.goto 4, 3) := dGX12_206.2.2.2.2.2
theorem dGX12_207 : decode cX12_goesBehind 103 = .ok (.iconst 0, 1) ∧ decode cX12_goesBehind 104 = .ok (.putfield 301, 3) ∧ decode cX12_goesBehind 107 = .ok (.aload_n 0, 1) ∧ decode cX12_goesBehind 108 = .ok (.getfield 301, 3) ∧ decode cX12_goesBehind 111 = .ok (.ifCond .ne 7, 3) ∧ decode cX12_goesBehind 114 = .ok (.aload_n 0, 1) := by decide +kernel
theorem dX12_goesBehind_103 : decode cX12_goesBehind 103 = .ok (.iconst 0, 1) := dGX12_207.1
theorem dX12_goesBehind_104 : decode cX12_goesBehind 104 = .ok (.putfield 301, 3) := dGX12_207.2.1
theorem dX12_goesBehind_107 : decode cX12_goesBehind 107 = .ok (.aload_n 0, 1) := dGX12_207.2.2.1
theorem dX12_goesBehind_108 : decode cX12_goesBehind 108 = .ok (.getfield 301, 3) := dGX12_207.2.2.2.1
theorem dX12_goesBehind_111 : decode cX12_goesBehind 111 = .ok (.ifCond .ne 7, 3) := dGX12_207.2.2.2.2.1
theorem dX12_goesBehind_114 : decode cX12_goesBehind 114 = .ok (.aload_n 0, 1) := dGX12_207.2.2.2.2.2
theorem dGX12_208 : decode cX12_goesBehind 115 = .ok (.invokevirtual 295, 3) ∧ decode cX12_goesBehind 118 = .ok (.iconst 0, 1) ∧ decode cX12_goesBehind 119 = .ok (.ireturn, 1) ∧ decode cX12_condition 0 = .ok (.aload_n 0, 1) ∧ decode cX12_condition 1 = .ok (.iconst 0, 1) ∧ decode cX12_condition 2 = .ok (.putfield 301, 3) := by decide +kernel
theorem dX12_goesBehind_115 : decode cX12_goesBehind 115 = .ok (.invokevirtual 295, 3) := dGX12_208.1
theorem dX12_goesBehind_118 : decode cX12_goesBehind 118 = .ok (.iconst 0, 1) := dGX12_208.2.1
theorem dX12_goesBehind_119 : decode cX12_goesBehind 119 = .ok (.ireturn, 1) := dGX12_208.2.2.1
theorem dX12_condition_0 : decode cX12_condition 0 = .ok (.aload_n 0, 1) := dGX12_208.2.2.2.1
theorem dX12_condition_1 : decode cX12_condition 1 = .ok (.iconst 0, 1) := dGX12_208.2.2.2.2.1
theorem dX12_condition_2 : decode cX12_condition 2 = .ok (.putfield 301, 3) := dGX12_208.2.2.2.2.2
theorem dGX12_209 : decode cX12_condition 5 = .ok (.aload_n 0, 1) ∧ decode cX12_condition 6 = .ok (.invokevirtual 237, 3) ∧ decode cX12_condition 9 = .ok (.bipush 40, 2) ∧ decode cX12_condition 11 = .ok (.if_icmp .eq 12, 3) ∧ decode cX12_condition 14 = .ok (.aload_n 0, 1) ∧ decode cX12_condition 15 = .ok (.iconst 1, 1) := by decide +kernel
theorem dX12_condition_5 : decode cX12_condition 5 = .ok (.aload_n 0, 1) := dGX12_209.1
theorem dX12_condition_6 : decode cX12_condition 6 = .ok (.invokevirtual 237, 3) := dGX12_209.2.1
theorem dX12_condition_9 : decode cX12_condition 9 = .ok (.bipush 40, 2) := dGX12_209.2.2.1
theorem dX12_condition_11 : decode cX12_condition 11 = .ok (.if_icmp .eq 12, 3) := dGX12_209.2.2.2.1
theorem dX12_condition_14 : decode cX12_condition 14 = .ok (.aload_n 0, 1) := dGX12_209.2.2.2.2.1
theorem dX12_condition_15 : decode cX12_condition 15 = .ok (.iconst 1, 1) := dGX12_209.2.2.2.2.2
theorem dGX12_210 : decode cX12_condition 16 = .ok (.aload_n 0, 1) ∧ decode cX12_condition 17 = .ok (.getfield 211, 3) ∧ decode cX12_condition 20 = .ok (.invokevirtual 233, 3) ∧ decode cX12_condition 23 = .ok (.aload_n 0, 1) ∧ decode cX12_condition 24 = .ok (.invokevirtual 220, 3) ∧ decode cX12_condition 27 = .ok (.ifCond .ne 4, 3) := by decide +kernel
theorem dX12_condition_16 : decode cX12_condition 16 = .ok (.aload_n 0, 1) := dGX12_210.1
theorem dX12_condition_17 : decode cX12_condition 17 = .ok (.getfield 211, 3) := dGX12_210.2.1
theorem dX12_condition_20 : decode cX12_condition 20 = .ok (.invokevirtual 233, 3) := dGX12_210.2.2.1
theorem dX12_condition_23 : decode cX12_condition 23 = .ok (.aload_n 0, 1) := dGX12_210.2.2.2.1
theorem dX12_condition_24 : decode cX12_condition 24 = .ok (.invokevirtual 220, 3) := dGX12_210.2.2.2.2.1
theorem dX12_condition_27 : decode cX12_condition 27 = .ok (.ifCond .ne 4, 3) := dGX12_210.2.2.2.2.2
theorem dGX12_211 : decode cX12_condition 30 = .ok (.return_, 1) ∧ decode cX12_condition 31 = .ok (.aload_n 0, 1) ∧ decode cX12_condition 32 = .ok (.invokevirtual 266, 3) ∧ decode cX12_condition 35 = .ok (.iconst 1, 1) ∧ decode cX12_condition 36 = .ok (.istore_n 1, 1) ∧ decode cX12_condition 37 = .ok (.aload_n 0, 1) := by decide +kernel
theorem dX12_condition_30 : decode cX12_condition 30 = .ok (.return_, 1) := dGX12_211.1
theorem dX12_condition_31 : decode cX12_condition 31 = .ok (.aload_n 0, 1) := dGX12_211.2.1
theorem dX12_condition_32 : decode cX12_condition 32 = .ok (.invokevirtual 266, 3) := dGX12_211.2.2.1
theorem dX12_condition_35 : decode cX12_condition 35 = .ok (.iconst 1, 1) := dGX12_211.2.2.2.1
theorem dX12_condition_36 : decode cX12_condition 36 = .ok (.istore_n 1, 1) := dGX12_211.2.2.2.2.1
theorem dX12_condition_37 : decode cX12_condition 37 = .ok (.aload_n 0, 1) := dGX12_211.2.2.2.2.2
theorem dGX12_212 : decode cX12_condition 38 = .ok (.invokevirtual 220, 3) ∧ decode cX12_condition 41 = .ok (.ifCond .eq 33, 3) ∧ decode cX12_condition 44 = .ok (.aload_n 0, 1) ∧ decode cX12_condition 45 = .ok (.getfield 301, 3) ∧ decode cX12_condition 48 = .ok (.ifCond .ne 26, 3) ∧ decode cX12_condition 51 = .ok (.iload_n 1, 1) := by decide +kernel
theorem dX12_condition_38 : decode cX12_condition 38 = .ok (.invokevirtual 220, 3) := dGX12_212.1
theorem dX12_condition_41 : decode cX12_condition 41 = .ok (.ifCond .eq 33, 3) := dGX12_212.2.1
theorem dX12_condition_44 : decode cX12_condition 44 = .ok (.aload_n 0, 1) := dGX12_212.2.2.1
theorem dX12_condition_45 : decode cX12_condition 45 = .ok (.getfield 301, 3) := dGX12_212.2.2.2.1
theorem dX12_condition_48 : decode cX12_condition 48 = .ok (.ifCond .ne 26, 3) := dGX12_212.2.2.2.2.1
theorem dX12_condition_51 : decode cX12_condition 51 = .ok (.iload_n 1, 1) := dGX12_212.2.2.2.2.2
theorem dGX12_213 : decode cX12_condition 52 = .ok (.ifCond .eq 7, 3) ∧ decode cX12_condition 55 = .ok (.aload_n 0, 1) ∧ decode cX12_condition 56 = .ok (.invokevirtual 304, 3) ∧ decode cX12_condition 59 = .ok (.aload_n 0, 1) ∧ decode cX12_condition 60 = .ok (.invokevirtual 220, 3) ∧ decode cX12_condition 63 = .ok (.ifCond .eq (-26), 3) := by decide +kernel
theorem dX12_condition_52 : decode cX12_condition 52 = .ok (.ifCond .eq 7, 3) := dGX12_213.1
theorem dX12_condition_55 : decode cX12_condition 55 = .ok (.aload_n 0, 1) := dGX12_213.2.1
theorem dX12_condition_56 : decode cX12_condition 56 = .ok (.invokevirtual 304, 3) := dGX12_213.2.2.1
theorem dX12_condition_59 : decode cX12_condition 59 = .ok (.aload_n 0, 1) := dGX12_213.2.2.2.1
theorem dX12_condition_60 : decode cX12_condition 60 = .ok (.invokevirtual 220, 3) := dGX12_213.2.2.2.2.1
theorem dX12_condition_63 : decode cX12_condition 63 = .ok (.ifCond .eq (-26), 3) := dGX12_213.2.2.2.2.2
theorem dGX12_214 : decode cX12_condition 66 = .ok (.aload_n 0, 1) ∧ decode cX12_condition 67 = .ok (.invokevirtual 307, 3) ∧ decode cX12_condition 70 = .ok (.istore_n 1, 1) ∧ decode cX12_condition 71 = .ok (.goto (-34), 3) ∧ decode cX12_condition 74 = .ok (.return_, 1) ∧ decode cX12_clause 0 = .ok (.aload_n 0, 1) := by decide +kernel
theorem dX12_condition_66 : decode cX12_condition 66 = .ok (.aload_n 0, 1) := dGX12_214.1
theorem dX12_condition_67 : decode cX12_condition 67 = .ok (.invokevirtual 307, 3) := dGX12_214.2.1
theorem dX12_condition_70 : decode cX12_condition 70 = .ok (.istore_n 1, 1) := dGX12_214.2.2.1
theorem dX12_condition_71 : decode cX12_condition 71 = .ok (.goto (-34), 3) := dGX12_214.2.2.2.1
theorem dX12_condition_74 : decode cX12_condition 74 = .ok (.return_, 1) := dGX12_214.2.2.2.2.1
theorem dX12_clause_0 : decode cX12_clause 0 = .ok (.aload_n 0, 1) := dGX12_214.2.2.2.2.2
theorem dGX12_215 : decode cX12_clause 1 = .ok (.invokevirtual 237, 3) ∧ decode cX12_clause 4 = .ok (.istore_n 1, 1) ∧ decode cX12_clause 5 = .ok (.iload_n 1, 1) ∧ decode cX12_clause 6 = .ok (.bipush 109, 2) ∧ decode cX12_clause 8 = .ok (.if_icmp .eq 33, 3) ∧ decode cX12_clause 11 = .ok (.iload_n 1, 1) := by decide +kernel
theorem dX12_clause_1 : decode cX12_clause 1 = .ok (.invokevirtual 237, 3) := dGX12_215.1
theorem dX12_clause_4 : decode cX12_clause 4 = .ok (.istore_n 1, 1) := dGX12_215.2.1
theorem dX12_clause_5 : decode cX12_clause 5 = .ok (.iload_n 1, 1) := dGX12_215.2.2.1
theorem dX12_clause_6 : decode cX12_clause 6 = .ok (.bipush 109, 2) := dGX12_215.2.2.2.1
theorem dX12_clause_8 : decode cX12_clause 8 = .ok (.if_icmp .eq 33, 3) := dGX12_215.2.2.2.2.1
theorem dX12_clause_11 : decode cX12_clause 11 = .ok (.iload_n 1, 1) := dGX12_215.2.2.2.2.2
theorem dGX12_216 : decode cX12_clause 12 = .ok (.bipush 102, 2) ∧ decode cX12_clause 14 = .ok (.if_icmp .eq 27, 3) ∧ decode cX12_clause 17 = .ok (.iload_n 1, 1) ∧ decode cX12_clause 18 = .ok (.bipush 108, 2) ∧ decode cX12_clause 20 = .ok (.if_icmp .eq 21, 3) ∧ decode cX12_clause 23 = .ok (.iload_n 1, 1) := by decide +kernel
theorem dX12_clause_12 : decode cX12_clause 12 = .ok (.bipush 102, 2) := dGX12_216.1
theorem dX12_clause_14 : decode cX12_clause 14 = .ok (.if_icmp .eq 27, 3) := dGX12_216.2.1
theorem dX12_clause_17 : decode cX12_clause 17 = .ok (.iload_n 1, 1) := dGX12_216.2.2.1
theorem dX12_clause_18 : decode cX12_clause 18 = .ok (.bipush 108, 2) := dGX12_216.2.2.2.1
theorem dX12_clause_20 : decode cX12_clause 20 = .ok (.if_icmp .eq 21, 3) := dGX12_216.2.2.2.2.1
theorem dX12_clause_23 : decode cX12_clause 23 = .ok (.iload_n 1, 1) := dGX12_216.2.2.2.2.2
theorem dGX12_217 : decode cX12_clause 24 = .ok (.bipush 100, 2) ∧ decode cX12_clause 26 = .ok (.if_icmp .eq 15, 3) ∧ decode cX12_clause 29 = .ok (.aload_n 0, 1) ∧ decode cX12_clause 30 = .ok (.iconst 1, 1) ∧ decode cX12_clause 31 = .ok (.aload_n 0, 1) ∧ decode cX12_clause 32 = .ok (.getfield 211, 3) := by decide +kernel
theorem dX12_clause_24 : decode cX12_clause 24 = .ok (.bipush 100, 2) := dGX12_217.1
theorem dX12_clause_26 : decode cX12_clause 26 = .ok (.if_icmp .eq 15, 3) := dGX12_217.2.1
theorem dX12_clause_29 : decode cX12_clause 29 = .ok (.aload_n 0, 1) := dGX12_217.2.2.1
theorem dX12_clause_30 : decode cX12_clause 30 = .ok (.iconst 1, 1) := dGX12_217.2.2.2.1
theorem dX12_clause_31 : decode cX12_clause 31 = .ok (.aload_n 0, 1) := dGX12_217.2.2.2.2.1
theorem dX12_clause_32 : decode cX12_clause 32 = .ok (.getfield 211, 3) := dGX12_217.2.2.2.2.2
theorem dGX12_218 : decode cX12_clause 35 = .ok (.invokevirtual 233, 3) ∧ decode cX12_clause 38 = .ok (.goto 21, 3) ∧ decode cX12_clause 41 = .ok (.aload_n 0, 1) ∧ decode cX12_clause 42 = .ok (.getfield 310, 3) ∧ decode cX12_clause 45 = .ok (.bipush 14, 2) ∧ decode cX12_clause 47 = .ok (.if_icmp .ne 12, 3) := by decide +kernel
theorem dX12_clause_35 : decode cX12_clause 35 = .ok (.invokevirtual 233, 3) := dGX12_218.1
theorem dX12_clause_38 : decode cX12_clause 38 = .ok (.goto 21, 3) := dGX12_218.2.1
theorem dX12_clause_41 : decode cX12_clause 41 = .ok (.aload_n 0, 1) := dGX12_218.2.2.1
theorem dX12_clause_42 : decode cX12_clause 42 = .ok (.getfield 310, 3) := dGX12_218.2.2.2.1
theorem dX12_clause_45 : decode cX12_clause 45 = .ok (.bipush 14, 2) := dGX12_218.2.2.2.2.1
theorem dX12_clause_47 : decode cX12_clause 47 = .ok (.if_icmp .ne 12, 3) := dGX12_218.2.2.2.2.2
theorem dGX12_219 : decode cX12_clause 50 = .ok (.aload_n 0, 1) ∧ decode cX12_clause 51 = .ok (.iconst 4, 1) ∧ decode cX12_clause 52 = .ok (.aload_n 0, 1) ∧ decode cX12_clause 53 = .ok (.getfield 211, 3) ∧ decode cX12_clause 56 = .ok (.invokevirtual 233, 3) ∧ decode cX12_clause 59 = .ok (.aload_n 0, 1) := by decide +kernel
theorem dX12_clause_50 : decode cX12_clause 50 = .ok (.aload_n 0, 1) := dGX12_219.1
theorem dX12_clause_51 : decode cX12_clause 51 = .ok (.iconst 4, 1) := dGX12_219.2.1
theorem dX12_clause_52 : decode cX12_clause 52 = .ok (.aload_n 0, 1) := dGX12_219.2.2.1
theorem dX12_clause_53 : decode cX12_clause 53 = .ok (.getfield 211, 3) := dGX12_219.2.2.2.1
theorem dX12_clause_56 : decode cX12_clause 56 = .ok (.invokevirtual 233, 3) := dGX12_219.2.2.2.2.1
theorem dX12_clause_59 : decode cX12_clause 59 = .ok (.aload_n 0, 1) := dGX12_219.2.2.2.2.2
theorem dGX12_220 : decode cX12_clause 60 = .ok (.invokevirtual 220, 3) ∧ decode cX12_clause 63 = .ok (.ifCond .ne 4, 3) ∧ decode cX12_clause 66 = .ok (.return_, 1) ∧ decode cX12_clause 67 = .ok (.aload_n 0, 1) ∧ decode cX12_clause 68 = .ok (.getfield 82, 3) ∧ decode cX12_clause 71 = .ok (.aload_n 0, 1) := by decide +kernel
theorem dX12_clause_60 : decode cX12_clause 60 = .ok (.invokevirtual 220, 3) := dGX12_220.1
theorem dX12_clause_63 : decode cX12_clause 63 = .ok (.ifCond .ne 4, 3) := dGX12_220.2.1
theorem dX12_clause_66 : decode cX12_clause 66 = .ok (.return_, 1) := dGX12_220.2.2.1
theorem dX12_clause_67 : decode cX12_clause 67 = .ok (.aload_n 0, 1) := dGX12_220.2.2.2.1
theorem dX12_clause_68 : decode cX12_clause 68 = .ok (.getfield 82, 3) := dGX12_220.2.2.2.2.1
theorem dX12_clause_71 : decode cX12_clause 71 = .ok (.aload_n 0, 1) := dGX12_220.2.2.2.2.2
theorem dGX12_221 : decode cX12_clause 72 = .ok (.getfield 310, 3) ∧ decode cX12_clause 75 = .ok (.iload_n 1, 1) ∧ decode cX12_clause 76 = .ok (.iastore, 1) ∧ decode cX12_clause 77 = .ok (.aload_n 0, 1) ∧ decode cX12_clause 78 = .ok (.getfield 85, 3) ∧ decode cX12_clause 81 = .ok (.aload_n 0, 1) := by decide +kernel
theorem dX12_clause_72 : decode cX12_clause 72 = .ok (.getfield 310, 3) := dGX12_221.1
theorem dX12_clause_75 : decode cX12_clause 75 = .ok (.iload_n 1, 1) := dGX12_221.2.1
theorem dX12_clause_76 : decode cX12_clause 76 = .ok (.iastore, 1) := dGX12_221.2.2.1
theorem dX12_clause_77 : decode cX12_clause 77 = .ok (.aload_n 0, 1) := dGX12_221.2.2.2.1
theorem dX12_clause_78 : decode cX12_clause 78 = .ok (.getfield 85, 3) := dGX12_221.2.2.2.2.1
theorem dX12_clause_81 : decode cX12_clause 81 = .ok (.aload_n 0, 1) := dGX12_221.2.2.2.2.2
theorem dGX12_222 : decode cX12_clause 82 = .ok (.getfield 310, 3) ∧ decode cX12_clause 85 = .ok (.aload_n 0, 1) ∧ decode cX12_clause 86 = .ok (.getfield 224, 3) ∧ decode cX12_clause 89 = .ok (.iastore, 1) ∧ decode cX12_clause 90 = .ok (.aload_n 0, 1) ∧ decode cX12_clause 91 = .ok (.dup, 1) := by decide +kernel
theorem dX12_clause_82 : decode cX12_clause 82 = .ok (.getfield 310, 3) := dGX12_222.1
theorem dX12_clause_85 : decode cX12_clause 85 = .ok (.aload_n 0, 1) := dGX12_222.2.1
theorem dX12_clause_86 : decode cX12_clause 86 = .ok (.getfield 224, 3) := dGX12_222.2.2.1
theorem dX12_clause_89 : decode cX12_clause 89 = .ok (.iastore, 1) := dGX12_222.2.2.2.1
theorem dX12_clause_90 : decode cX12_clause 90 = .ok (.aload_n 0, 1) := dGX12_222.2.2.2.2.1
theorem dX12_clause_91 : decode cX12_clause 91 = .ok (.dup, 1) := dGX12_222.2.2.2.2.2
theorem dGX12_223 : decode cX12_clause 92 = .ok (.getfield 211, 3) ∧ decode cX12_clause 95 = .ok (.iconst 1, 1) ∧ decode cX12_clause 96 = .ok (.iadd, 1) ∧ decode cX12_clause 97 = .ok (.putfield 211, 3) ∧ decode cX12_clause 100 = .ok (.aload_n 0, 1) ∧ decode cX12_clause 101 = .ok (.iconst 0, 1) := by decide +kernel
theorem dX12_clause_92 : decode cX12_clause 92 = .ok (.getfield 211, 3) := dGX12_223.1
theorem dX12_clause_95 : decode cX12_clause 95 = .ok (.iconst 1, 1) := dGX12_223.2.1
theorem dX12_clause_96 : decode cX12_clause 96 = .ok (.iadd, 1) := dGX12_223.2.2.1
theorem dX12_clause_97 : decode cX12_clause 97 = .ok (.putfield 211, 3) := dGX12_223.2.2.2.1
theorem dX12_clause_100 : decode cX12_clause 100 = .ok (.aload_n 0, 1) := dGX12_223.2.2.2.2.1
theorem dX12_clause_101 : decode cX12_clause 101 = .ok (.iconst 0, 1) := dGX12_223.2.2.2.2.2
theorem dGX12_224 : decode cX12_clause 102 = .ok (.putfield 227, 3) ∧ decode cX12_clause 105 = .ok (.aload_n 0, 1) ∧ decode cX12_clause 106 = .ok (.iconst 0, 1) ∧ decode cX12_clause 107 = .ok (.putfield 230, 3) ∧ decode cX12_clause 110 = .ok (.aload_n 0, 1) ∧ decode cX12_clause 111 = .ok (.invokevirtual 289, 3) := by decide +kernel
theorem dX12_clause_102 : decode cX12_clause 102 = .ok (.putfield 227, 3) := dGX12_224.1
theorem dX12_clause_105 : decode cX12_clause 105 = .ok (.aload_n 0, 1) := dGX12_224.2.1
theorem dX12_clause_106 : decode cX12_clause 106 = .ok (.iconst 0, 1) := dGX12_224.2.2.1
theorem dX12_clause_107 : decode cX12_clause 107 = .ok (.putfield 230, 3) := dGX12_224.2.2.2.1
theorem dX12_clause_110 : decode cX12_clause 110 = .ok (.aload_n 0, 1) := dGX12_224.2.2.2.2.1
theorem dX12_clause_111 : decode cX12_clause 111 = .ok (.invokevirtual 289, 3) := dGX12_224.2.2.2.2.2
theorem dGX12_225 : decode cX12_clause 114 = .ok (.aload_n 0, 1) ∧ decode cX12_clause 115 = .ok (.getfield 88, 3) ∧ decode cX12_clause 118 = .ok (.aload_n 0, 1) ∧ decode cX12_clause 119 = .ok (.getfield 310, 3) ∧ decode cX12_clause 122 = .ok (.aload_n 0, 1) ∧ decode cX12_clause 123 = .ok (.getfield 224, 3) := by decide +kernel
theorem dX12_clause_114 : decode cX12_clause 114 = .ok (.aload_n 0, 1) := dGX12_225.1
theorem dX12_clause_115 : decode cX12_clause 115 = .ok (.getfield 88, 3) := dGX12_225.2.1
theorem dX12_clause_118 : decode cX12_clause 118 = .ok (.aload_n 0, 1) := dGX12_225.2.2.1
theorem dX12_clause_119 : decode cX12_clause 119 = .ok (.getfield 310, 3) := dGX12_225.2.2.2.1
theorem dX12_clause_122 : decode cX12_clause 122 = .ok (.aload_n 0, 1) := dGX12_225.2.2.2.2.1
theorem dX12_clause_123 : decode cX12_clause 123 = .ok (.getfield 224, 3) := dGX12_225.2.2.2.2.2
theorem dGX12_226 : decode cX12_clause 126 = .ok (.iastore, 1) ∧ decode cX12_clause 127 = .ok (.aload_n 0, 1) ∧ decode cX12_clause 128 = .ok (.invokevirtual 220, 3) ∧ decode cX12_clause 131 = .ok (.ifCond .eq 7, 3) ∧ decode cX12_clause 134 = .ok (.aload_n 0, 1) ∧ decode cX12_clause 135 = .ok (.invokevirtual 313, 3) := by decide +kernel
theorem dX12_clause_126 : decode cX12_clause 126 = .ok (.iastore, 1) := dGX12_226.1
theorem dX12_clause_127 : decode cX12_clause 127 = .ok (.aload_n 0, 1) := dGX12_226.2.1
theorem dX12_clause_128 : decode cX12_clause 128 = .ok (.invokevirtual 220, 3) := dGX12_226.2.2.1
theorem dX12_clause_131 : decode cX12_clause 131 = .ok (.ifCond .eq 7, 3) := dGX12_226.2.2.2.1
theorem dX12_clause_134 : decode cX12_clause 134 = .ok (.aload_n 0, 1) := dGX12_226.2.2.2.2.1
theorem dX12_clause_135 : decode cX12_clause 135 = .ok (.invokevirtual 313, 3) := dGX12_226.2.2.2.2.2
theorem dGX12_227 : decode cX12_clause 138 = .ok (.aload_n 0, 1) ∧ decode cX12_clause 139 = .ok (.getfield 91, 3) ∧ decode cX12_clause 142 = .ok (.aload_n 0, 1) ∧ decode cX12_clause 143 = .ok (.getfield 310, 3) ∧ decode cX12_clause 146 = .ok (.aload_n 0, 1) ∧ decode cX12_clause 147 = .ok (.getfield 224, 3) := by decide +kernel
theorem dX12_clause_138 : decode cX12_clause 138 = .ok (.aload_n 0, 1) := dGX12_227.1
theorem dX12_clause_139 : decode cX12_clause 139 = .ok (.getfield 91, 3) := dGX12_227.2.1
theorem dX12_clause_142 : decode cX12_clause 142 = .ok (.aload_n 0, 1) := dGX12_227.2.2.1
theorem dX12_clause_143 : decode cX12_clause 143 = .ok (.getfield 310, 3) := dGX12_227.2.2.2.1
theorem dX12_clause_146 : decode cX12_clause 146 = .ok (.aload_n 0, 1) := dGX12_227.2.2.2.2.1
theorem dX12_clause_147 : decode cX12_clause 147 = .ok (.getfield 224, 3) := dGX12_227.2.2.2.2.2
theorem dGX12_228 : decode cX12_clause 150 = .ok (.iastore, 1) ∧ decode cX12_clause 151 = .ok (.aload_n 0, 1) ∧ decode cX12_clause 152 = .ok (.dup, 1) ∧ decode cX12_clause 153 = .ok (.getfield 310, 3) ∧ decode cX12_clause 156 = .ok (.iconst 1, 1) ∧ decode cX12_clause 157 = .ok (.iadd, 1) := by decide +kernel
theorem dX12_clause_150 : decode cX12_clause 150 = .ok (.iastore, 1) := dGX12_228.1
theorem dX12_clause_151 : decode cX12_clause 151 = .ok (.aload_n 0, 1) := dGX12_228.2.1
theorem dX12_clause_152 : decode cX12_clause 152 = .ok (.dup, 1) := dGX12_228.2.2.1
theorem dX12_clause_153 : decode cX12_clause 153 = .ok (.getfield 310, 3) := dGX12_228.2.2.2.1
theorem dX12_clause_156 : decode cX12_clause 156 = .ok (.iconst 1, 1) := dGX12_228.2.2.2.2.1
theorem dX12_clause_157 : decode cX12_clause 157 = .ok (.iadd, 1) := dGX12_228.2.2.2.2.2
theorem dGX12_229 : decode cX12_clause 158 = .ok (.putfield 310, 3) ∧ decode cX12_clause 161 = .ok (.return_, 1) ∧ decode cX12_law 0 = .ok (.iload_n 1, 1) ∧ decode cX12_law 1 = .ok (.i2l, 1) ∧ decode cX12_law 2 = .ok (.lconst 1, 1) ∧ decode cX12_law 3 = .ok (.ldc2_w 316, 3) := by decide +kernel
theorem dX12_clause_158 : decode cX12_clause 158 = .ok (.putfield 310, 3) := dGX12_229.1
theorem dX12_clause_161 : decode cX12_clause 161 = .ok (.return_, 1) := dGX12_229.2.1
theorem dX12_law_0 : decode cX12_law 0 = .ok (.iload_n 1, 1) := dGX12_229.2.2.1
theorem dX12_law_1 : decode cX12_law 1 = .ok (.i2l, 1) := dGX12_229.2.2.2.1
theorem dX12_law_2 : decode cX12_law 2 = .ok (.lconst 1, 1) := dGX12_229.2.2.2.2.1
theorem dX12_law_3 : decode cX12_law 3 = .ok (.ldc2_w 316, 3) := dGX12_229.2.2.2.2.2
theorem dGX12_230 : decode cX12_law 6 = .ok (.invokestatic 175, 3) ∧ decode cX12_law 9 = .ok (.ifCond .eq 11, 3) ∧ decode cX12_law 12 = .ok (.iload_n 1, 1) ∧ decode cX12_law 13 = .ok (.aload_n 0, 1) ∧ decode cX12_law 14 = .ok (.getfield 204, 3) ∧ decode cX12_law 17 = .ok (.if_icmp .le 5, 3) := by decide +kernel
theorem dX12_law_6 : decode cX12_law 6 = .ok (.invokestatic 175, 3) := dGX12_230.1
theorem dX12_law_9 : decode cX12_law 9 = .ok (.ifCond .eq 11, 3) := dGX12_230.2.1
theorem dX12_law_12 : decode cX12_law 12 = .ok (.iload_n 1, 1) := dGX12_230.2.2.1
theorem dX12_law_13 : decode cX12_law 13 = .ok (.aload_n 0, 1) := dGX12_230.2.2.2.1
theorem dX12_law_14 : decode cX12_law 14 = .ok (.getfield 204, 3) := dGX12_230.2.2.2.2.1
theorem dX12_law_17 : decode cX12_law 17 = .ok (.if_icmp .le 5, 3) := dGX12_230.2.2.2.2.2
theorem dGX12_231 : decode cX12_law 20 = .ok (.iconst (-1), 1) ∧ decode cX12_law 21 = .ok (.ireturn, 1) ∧ decode cX12_law 22 = .ok (.aload_n 0, 1) ∧ decode cX12_law 23 = .ok (.iconst 0, 1) ∧ decode cX12_law 24 = .ok (.putfield 204, 3) ∧ decode cX12_law 27 = .ok (.aload_n 0, 1) := by decide +kernel
theorem dX12_law_20 : decode cX12_law 20 = .ok (.iconst (-1), 1) := dGX12_231.1
theorem dX12_law_21 : decode cX12_law 21 = .ok (.ireturn, 1) := dGX12_231.2.1
theorem dX12_law_22 : decode cX12_law 22 = .ok (.aload_n 0, 1) := dGX12_231.2.2.1
theorem dX12_law_23 : decode cX12_law 23 = .ok (.iconst 0, 1) := dGX12_231.2.2.2.1
theorem dX12_law_24 : decode cX12_law 24 = .ok (.putfield 204, 3) := dGX12_231.2.2.2.2.1
theorem dX12_law_27 : decode cX12_law 27 = .ok (.aload_n 0, 1) := dGX12_231.2.2.2.2.2
theorem dGX12_232 : decode cX12_law 28 = .ok (.iconst 0, 1) ∧ decode cX12_law 29 = .ok (.putfield 211, 3) ∧ decode cX12_law 32 = .ok (.aload_n 0, 1) ∧ decode cX12_law 33 = .ok (.iload_n 1, 1) ∧ decode cX12_law 34 = .ok (.putfield 214, 3) ∧ decode cX12_law 37 = .ok (.aload_n 0, 1) := by decide +kernel
theorem dX12_law_28 : decode cX12_law 28 = .ok (.iconst 0, 1) := dGX12_232.1
theorem dX12_law_29 : decode cX12_law 29 = .ok (.putfield 211, 3) := dGX12_232.2.1
theorem dX12_law_32 : decode cX12_law 32 = .ok (.aload_n 0, 1) := dGX12_232.2.2.1
theorem dX12_law_33 : decode cX12_law 33 = .ok (.iload_n 1, 1) := dGX12_232.2.2.2.1
theorem dX12_law_34 : decode cX12_law 34 = .ok (.putfield 214, 3) := dGX12_232.2.2.2.2.1
theorem dX12_law_37 : decode cX12_law 37 = .ok (.aload_n 0, 1) := dGX12_232.2.2.2.2.2
theorem dGX12_233 : decode cX12_law 38 = .ok (.iconst 0, 1) ∧ decode cX12_law 39 = .ok (.putfield 217, 3) ∧ decode cX12_law 42 = .ok (.aload_n 0, 1) ∧ decode cX12_law 43 = .ok (.iconst 0, 1) ∧ decode cX12_law 44 = .ok (.putfield 310, 3) ∧ decode cX12_law 47 = .ok (.aload_n 0, 1) := by decide +kernel
theorem dX12_law_38 : decode cX12_law 38 = .ok (.iconst 0, 1) := dGX12_233.1
theorem dX12_law_39 : decode cX12_law 39 = .ok (.putfield 217, 3) := dGX12_233.2.1
theorem dX12_law_42 : decode cX12_law 42 = .ok (.aload_n 0, 1) := dGX12_233.2.2.1
theorem dX12_law_43 : decode cX12_law 43 = .ok (.iconst 0, 1) := dGX12_233.2.2.2.1
theorem dX12_law_44 : decode cX12_law 44 = .ok (.putfield 310, 3) := dGX12_233.2.2.2.2.1
theorem dX12_law_47 : decode cX12_law 47 = .ok (.aload_n 0, 1) := dGX12_233.2.2.2.2.2
theorem dGX12_234 : decode cX12_law 48 = .ok (.iconst 0, 1) ∧ decode cX12_law 49 = .ok (.putfield 224, 3) ∧ decode cX12_law 52 = .ok (.iconst 1, 1) ∧ decode cX12_law 53 = .ok (.istore_n 2, 1) ∧ decode cX12_law 54 = .ok (.iload_n 2, 1) ∧ decode cX12_law 55 = .ok (.ifCond .eq 73, 3) := by decide +kernel
theorem dX12_law_48 : decode cX12_law 48 = .ok (.iconst 0, 1) := dGX12_234.1
theorem dX12_law_49 : decode cX12_law 49 = .ok (.putfield 224, 3) := dGX12_234.2.1
theorem dX12_law_52 : decode cX12_law 52 = .ok (.iconst 1, 1) := dGX12_234.2.2.1
theorem dX12_law_53 : decode cX12_law 53 = .ok (.istore_n 2, 1) := dGX12_234.2.2.2.1
theorem dX12_law_54 : decode cX12_law 54 = .ok (.iload_n 2, 1) := dGX12_234.2.2.2.2.1
theorem dX12_law_55 : decode cX12_law 55 = .ok (.ifCond .eq 73, 3) := dGX12_234.2.2.2.2.2
theorem dGX12_235 : decode cX12_law 58 = .ok (.aload_n 0, 1) ∧ decode cX12_law 59 = .ok (.invokevirtual 220, 3) ∧ decode cX12_law 62 = .ok (.ifCond .eq 66, 3) ∧ decode cX12_law 65 = .ok (.aload_n 0, 1) ∧ decode cX12_law 66 = .ok (.invokevirtual 318, 3) ∧ decode cX12_law 69 = .ok (.aload_n 0, 1) := by decide +kernel
theorem dX12_law_58 : decode cX12_law 58 = .ok (.aload_n 0, 1) := dGX12_235.1
theorem dX12_law_59 : decode cX12_law 59 = .ok (.invokevirtual 220, 3) := dGX12_235.2.1
theorem dX12_law_62 : decode cX12_law 62 = .ok (.ifCond .eq 66, 3) := dGX12_235.2.2.1
theorem dX12_law_65 : decode cX12_law 65 = .ok (.aload_n 0, 1) := dGX12_235.2.2.2.1
theorem dX12_law_66 : decode cX12_law 66 = .ok (.invokevirtual 318, 3) := dGX12_235.2.2.2.2.1
theorem dX12_law_69 : decode cX12_law 69 = .ok (.aload_n 0, 1) := dGX12_235.2.2.2.2.2
theorem dGX12_236 : decode cX12_law 70 = .ok (.invokevirtual 220, 3) ∧ decode cX12_law 73 = .ok (.ifCond .eq 18, 3) ∧ decode cX12_law 76 = .ok (.aload_n 0, 1) ∧ decode cX12_law 77 = .ok (.getfield 211, 3) ∧ decode cX12_law 80 = .ok (.aload_n 0, 1) ∧ decode cX12_law 81 = .ok (.getfield 214, 3) := by decide +kernel
theorem dX12_law_70 : decode cX12_law 70 = .ok (.invokevirtual 220, 3) := dGX12_236.1
theorem dX12_law_73 : decode cX12_law 73 = .ok (.ifCond .eq 18, 3) := dGX12_236.2.1
theorem dX12_law_76 : decode cX12_law 76 = .ok (.aload_n 0, 1) := dGX12_236.2.2.1
theorem dX12_law_77 : decode cX12_law 77 = .ok (.getfield 211, 3) := dGX12_236.2.2.2.1
theorem dX12_law_80 : decode cX12_law 80 = .ok (.aload_n 0, 1) := dGX12_236.2.2.2.2.1
theorem dX12_law_81 : decode cX12_law 81 = .ok (.getfield 214, 3) := dGX12_236.2.2.2.2.2
theorem dGX12_237 : decode cX12_law 84 = .ok (.if_icmp .ge 7, 3) ∧ decode cX12_law 87 = .ok (.iconst 1, 1) ∧ decode cX12_law 88 = .ok (.goto 4, 3) ∧ decode cX12_law 91 = .ok (.iconst 0, 1) ∧ decode cX12_law 92 = .ok (.istore_n 2, 1) ∧ decode cX12_law 93 = .ok (.iload_n 2, 1) := by decide +kernel
theorem dX12_law_84 : decode cX12_law 84 = .ok (.if_icmp .ge 7, 3) := dGX12_237.1
theorem dX12_law_87 : decode cX12_law 87 = .ok (.iconst 1, 1) := dGX12_237.2.1
theorem dX12_law_88 : decode cX12_law 88 = .ok (.goto 4, 3) := dGX12_237.2.2.1
theorem dX12_law_91 : decode cX12_law 91 = .ok (.iconst 0, 1) := dGX12_237.2.2.2.1
theorem dX12_law_92 : decode cX12_law 92 = .ok (.istore_n 2, 1) := dGX12_237.2.2.2.2.1
theorem dX12_law_93 : decode cX12_law 93 = .ok (.iload_n 2, 1) := dGX12_237.2.2.2.2.2
theorem dGX12_238 : decode cX12_law 94 = .ok (.ifCond .eq (-40), 3) ∧ decode cX12_law 97 = .ok (.aload_n 0, 1) ∧ decode cX12_law 98 = .ok (.invokevirtual 237, 3) ∧ decode cX12_law 101 = .ok (.bipush 59, 2) ∧ decode cX12_law 103 = .ok (.if_icmp .eq 12, 3) ∧ decode cX12_law 106 = .ok (.aload_n 0, 1) := by decide +kernel
theorem dX12_law_94 : decode cX12_law 94 = .ok (.ifCond .eq (-40), 3) := dGX12_238.1
theorem dX12_law_97 : decode cX12_law 97 = .ok (.aload_n 0, 1) := dGX12_238.2.1
theorem dX12_law_98 : decode cX12_law 98 = .ok (.invokevirtual 237, 3) := dGX12_238.2.2.1
theorem dX12_law_101 : decode cX12_law 101 = .ok (.bipush 59, 2) := dGX12_238.2.2.2.1
theorem dX12_law_103 : decode cX12_law 103 = .ok (.if_icmp .eq 12, 3) := dGX12_238.2.2.2.2.1
theorem dX12_law_106 : decode cX12_law 106 = .ok (.aload_n 0, 1) := dGX12_238.2.2.2.2.2
theorem dGX12_239 : decode cX12_law 107 = .ok (.iconst 1, 1) ∧ decode cX12_law 108 = .ok (.aload_n 0, 1) ∧ decode cX12_law 109 = .ok (.getfield 211, 3) ∧ decode cX12_law 112 = .ok (.invokevirtual 233, 3) ∧ decode cX12_law 115 = .ok (.aload_n 0, 1) ∧ decode cX12_law 116 = .ok (.dup, 1) := by decide +kernel
theorem dX12_law_107 : decode cX12_law 107 = .ok (.iconst 1, 1) := dGX12_239.1
theorem dX12_law_108 : decode cX12_law 108 = .ok (.aload_n 0, 1) := dGX12_239.2.1
theorem dX12_law_109 : decode cX12_law 109 = .ok (.getfield 211, 3) := dGX12_239.2.2.1
theorem dX12_law_112 : decode cX12_law 112 = .ok (.invokevirtual 233, 3) := dGX12_239.2.2.2.1
theorem dX12_law_115 : decode cX12_law 115 = .ok (.aload_n 0, 1) := dGX12_239.2.2.2.2.1
theorem dX12_law_116 : decode cX12_law 116 = .ok (.dup, 1) := dGX12_239.2.2.2.2.2
theorem dGX12_240 : decode cX12_law 117 = .ok (.getfield 211, 3) ∧ decode cX12_law 120 = .ok (.iconst 1, 1) ∧ decode cX12_law 121 = .ok (.iadd, 1) ∧ decode cX12_law 122 = .ok (.putfield 211, 3) ∧ decode cX12_law 125 = .ok (.goto (-71), 3) ∧ decode cX12_law 128 = .ok (.aload_n 0, 1) := by decide +kernel
theorem dX12_law_117 : decode cX12_law 117 = .ok (.getfield 211, 3) := dGX12_240.1
theorem dX12_law_120 : decode cX12_law 120 = .ok (.iconst 1, 1) := dGX12_240.2.1
theorem dX12_law_121 : decode cX12_law 121 = .ok (.iadd, 1) := dGX12_240.2.2.1
theorem dX12_law_122 : decode cX12_law 122 = .ok (.putfield 211, 3) := dGX12_240.2.2.2.1
theorem dX12_law_125 : decode cX12_law 125 = .ok (.goto (-71), 3) := dGX12_240.2.2.2.2.1
theorem dX12_law_128 : decode cX12_law 128 = .ok (.aload_n 0, 1) := dGX12_240.2.2.2.2.2
theorem dGX12_241 : decode cX12_law 129 = .ok (.getfield 217, 3) ∧ decode cX12_law 132 = .ok (.ifCond .ge 8, 3) ∧ decode cX12_law 135 = .ok (.aload_n 0, 1) ∧ decode cX12_law 136 = .ok (.getfield 217, 3) ∧ decode cX12_law 139 = .ok (.ireturn, 1) ∧ decode cX12_law 140 = .ok (.iconst 0, 1) := by decide +kernel
theorem dX12_law_129 : decode cX12_law 129 = .ok (.getfield 217, 3) := dGX12_241.1
theorem dX12_law_132 : decode cX12_law 132 = .ok (.ifCond .ge 8, 3) := dGX12_241.2.1
theorem dX12_law_135 : decode cX12_law 135 = .ok (.aload_n 0, 1) := dGX12_241.2.2.1
theorem dX12_law_136 : decode cX12_law 136 = .ok (.getfield 217, 3) := dGX12_241.2.2.2.1
theorem dX12_law_139 : decode cX12_law 139 = .ok (.ireturn, 1) := dGX12_241.2.2.2.2.1
theorem dX12_law_140 : decode cX12_law 140 = .ok (.iconst 0, 1) := dGX12_241.2.2.2.2.2
theorem dGX12_242 : decode cX12_law 141 = .ok (.istore_n 3, 1) ∧ decode cX12_law 142 = .ok (.iload_n 3, 1) ∧ decode cX12_law 143 = .ok (.aload_n 0, 1) ∧ decode cX12_law 144 = .ok (.getfield 310, 3) ∧ decode cX12_law 147 = .ok (.if_icmp .ge 57, 3) ∧ decode cX12_law 150 = .ok (.aload_n 0, 1) := by decide +kernel
theorem dX12_law_141 : decode cX12_law 141 = .ok (.istore_n 3, 1) := dGX12_242.1
theorem dX12_law_142 : decode cX12_law 142 = .ok (.iload_n 3, 1) := dGX12_242.2.1
theorem dX12_law_143 : decode cX12_law 143 = .ok (.aload_n 0, 1) := dGX12_242.2.2.1
theorem dX12_law_144 : decode cX12_law 144 = .ok (.getfield 310, 3) := dGX12_242.2.2.2.1
theorem dX12_law_147 : decode cX12_law 147 = .ok (.if_icmp .ge 57, 3) := dGX12_242.2.2.2.2.1
theorem dX12_law_150 : decode cX12_law 150 = .ok (.aload_n 0, 1) := dGX12_242.2.2.2.2.2
theorem dGX12_243 : decode cX12_law 151 = .ok (.getfield 64, 3) ∧ decode cX12_law 154 = .ok (.iload_n 3, 1) ∧ decode cX12_law 155 = .ok (.aload_n 0, 1) ∧ decode cX12_law 156 = .ok (.getfield 82, 3) ∧ decode cX12_law 159 = .ok (.iload_n 3, 1) ∧ decode cX12_law 160 = .ok (.iaload, 1) := by decide +kernel
theorem dX12_law_151 : decode cX12_law 151 = .ok (.getfield 64, 3) := dGX12_243.1
theorem dX12_law_154 : decode cX12_law 154 = .ok (.iload_n 3, 1) := dGX12_243.2.1
theorem dX12_law_155 : decode cX12_law 155 = .ok (.aload_n 0, 1) := dGX12_243.2.2.1
theorem dX12_law_156 : decode cX12_law 156 = .ok (.getfield 82, 3) := dGX12_243.2.2.2.1
theorem dX12_law_159 : decode cX12_law 159 = .ok (.iload_n 3, 1) := dGX12_243.2.2.2.2.1
theorem dX12_law_160 : decode cX12_law 160 = .ok (.iaload, 1) := dGX12_243.2.2.2.2.2
theorem dGX12_244 : decode cX12_law 161 = .ok (.iastore, 1) ∧ decode cX12_law 162 = .ok (.aload_n 0, 1) ∧ decode cX12_law 163 = .ok (.getfield 67, 3) ∧ decode cX12_law 166 = .ok (.iload_n 3, 1) ∧ decode cX12_law 167 = .ok (.aload_n 0, 1) ∧ decode cX12_law 168 = .ok (.getfield 85, 3) := by decide +kernel
theorem dX12_law_161 : decode cX12_law 161 = .ok (.iastore, 1) := dGX12_244.1
theorem dX12_law_162 : decode cX12_law 162 = .ok (.aload_n 0, 1) := dGX12_244.2.1
theorem dX12_law_163 : decode cX12_law 163 = .ok (.getfield 67, 3) := dGX12_244.2.2.1
theorem dX12_law_166 : decode cX12_law 166 = .ok (.iload_n 3, 1) := dGX12_244.2.2.2.1
theorem dX12_law_167 : decode cX12_law 167 = .ok (.aload_n 0, 1) := dGX12_244.2.2.2.2.1
theorem dX12_law_168 : decode cX12_law 168 = .ok (.getfield 85, 3) := dGX12_244.2.2.2.2.2
theorem dGX12_245 : decode cX12_law 171 = .ok (.iload_n 3, 1) ∧ decode cX12_law 172 = .ok (.iaload, 1) ∧ decode cX12_law 173 = .ok (.iastore, 1) ∧ decode cX12_law 174 = .ok (.aload_n 0, 1) ∧ decode cX12_law 175 = .ok (.getfield 70, 3) ∧ decode cX12_law 178 = .ok (.iload_n 3, 1) := by decide +kernel
theorem dX12_law_171 : decode cX12_law 171 = .ok (.iload_n 3, 1) := dGX12_245.1
theorem dX12_law_172 : decode cX12_law 172 = .ok (.iaload, 1) := dGX12_245.2.1
theorem dX12_law_173 : decode cX12_law 173 = .ok (.iastore, 1) := dGX12_245.2.2.1
theorem dX12_law_174 : decode cX12_law 174 = .ok (.aload_n 0, 1) := dGX12_245.2.2.2.1
theorem dX12_law_175 : decode cX12_law 175 = .ok (.getfield 70, 3) := dGX12_245.2.2.2.2.1
theorem dX12_law_178 : decode cX12_law 178 = .ok (.iload_n 3, 1) := dGX12_245.2.2.2.2.2
theorem dGX12_246 : decode cX12_law 179 = .ok (.aload_n 0, 1) ∧ decode cX12_law 180 = .ok (.getfield 88, 3) ∧ decode cX12_law 183 = .ok (.iload_n 3, 1) ∧ decode cX12_law 184 = .ok (.iaload, 1) ∧ decode cX12_law 185 = .ok (.iastore, 1) ∧ decode cX12_law 186 = .ok (.aload_n 0, 1) := by decide +kernel
theorem dX12_law_179 : decode cX12_law 179 = .ok (.aload_n 0, 1) := dGX12_246.1
theorem dX12_law_180 : decode cX12_law 180 = .ok (.getfield 88, 3) := dGX12_246.2.1
theorem dX12_law_183 : decode cX12_law 183 = .ok (.iload_n 3, 1) := dGX12_246.2.2.1
theorem dX12_law_184 : decode cX12_law 184 = .ok (.iaload, 1) := dGX12_246.2.2.2.1
theorem dX12_law_185 : decode cX12_law 185 = .ok (.iastore, 1) := dGX12_246.2.2.2.2.1
theorem dX12_law_186 : decode cX12_law 186 = .ok (.aload_n 0, 1) := dGX12_246.2.2.2.2.2
theorem dGX12_247 : decode cX12_law 187 = .ok (.getfield 73, 3) ∧ decode cX12_law 190 = .ok (.iload_n 3, 1) ∧ decode cX12_law 191 = .ok (.aload_n 0, 1) ∧ decode cX12_law 192 = .ok (.getfield 91, 3) ∧ decode cX12_law 195 = .ok (.iload_n 3, 1) ∧ decode cX12_law 196 = .ok (.iaload, 1) := by decide +kernel
theorem dX12_law_187 : decode cX12_law 187 = .ok (.getfield 73, 3) := dGX12_247.1
theorem dX12_law_190 : decode cX12_law 190 = .ok (.iload_n 3, 1) := dGX12_247.2.1
theorem dX12_law_191 : decode cX12_law 191 = .ok (.aload_n 0, 1) := dGX12_247.2.2.1
theorem dX12_law_192 : decode cX12_law 192 = .ok (.getfield 91, 3) := dGX12_247.2.2.2.1
theorem dX12_law_195 : decode cX12_law 195 = .ok (.iload_n 3, 1) := dGX12_247.2.2.2.2.1
theorem dX12_law_196 : decode cX12_law 196 = .ok (.iaload, 1) := dGX12_247.2.2.2.2.2
theorem dGX12_248 : decode cX12_law 197 = .ok (.iastore, 1) ∧ decode cX12_law 198 = .ok (.iinc 3 1, 3) ∧ decode cX12_law 201 = .ok (.goto (-59), 3) ∧ decode cX12_law 204 = .ok (.iconst 0, 1) ∧ decode cX12_law 205 = .ok (.istore_n 3, 1) ∧ decode cX12_law 206 = .ok (.iload_n 3, 1) := by decide +kernel
theorem dX12_law_197 : decode cX12_law 197 = .ok (.iastore, 1) := dGX12_248.1
theorem dX12_law_198 : decode cX12_law 198 = .ok (.iinc 3 1, 3) := dGX12_248.2.1
theorem dX12_law_201 : decode cX12_law 201 = .ok (.goto (-59), 3) := dGX12_248.2.2.1
theorem dX12_law_204 : decode cX12_law 204 = .ok (.iconst 0, 1) := dGX12_248.2.2.2.1
theorem dX12_law_205 : decode cX12_law 205 = .ok (.istore_n 3, 1) := dGX12_248.2.2.2.2.1
theorem dX12_law_206 : decode cX12_law 206 = .ok (.iload_n 3, 1) := dGX12_248.2.2.2.2.2
theorem dGX12_249 : decode cX12_law 207 = .ok (.aload_n 0, 1) ∧ decode cX12_law 208 = .ok (.getfield 224, 3) ∧ decode cX12_law 211 = .ok (.if_icmp .ge 33, 3) ∧ decode cX12_law 214 = .ok (.aload_n 0, 1) ∧ decode cX12_law 215 = .ok (.getfield 76, 3) ∧ decode cX12_law 218 = .ok (.iload_n 3, 1) := by decide +kernel
theorem dX12_law_207 : decode cX12_law 207 = .ok (.aload_n 0, 1) := dGX12_249.1
theorem dX12_law_208 : decode cX12_law 208 = .ok (.getfield 224, 3) := dGX12_249.2.1
theorem dX12_law_211 : decode cX12_law 211 = .ok (.if_icmp .ge 33, 3) := dGX12_249.2.2.1
theorem dX12_law_214 : decode cX12_law 214 = .ok (.aload_n 0, 1) := dGX12_249.2.2.2.1
theorem dX12_law_215 : decode cX12_law 215 = .ok (.getfield 76, 3) := dGX12_249.2.2.2.2.1
theorem dX12_law_218 : decode cX12_law 218 = .ok (.iload_n 3, 1) := dGX12_249.2.2.2.2.2
theorem dGX12_250 : decode cX12_law 219 = .ok (.aload_n 0, 1) ∧ decode cX12_law 220 = .ok (.getfield 94, 3) ∧ decode cX12_law 223 = .ok (.iload_n 3, 1) ∧ decode cX12_law 224 = .ok (.iaload, 1) ∧ decode cX12_law 225 = .ok (.iastore, 1) ∧ decode cX12_law 226 = .ok (.aload_n 0, 1) := by decide +kernel
theorem dX12_law_219 : decode cX12_law 219 = .ok (.aload_n 0, 1) := dGX12_250.1
theorem dX12_law_220 : decode cX12_law 220 = .ok (.getfield 94, 3) := dGX12_250.2.1
theorem dX12_law_223 : decode cX12_law 223 = .ok (.iload_n 3, 1) := dGX12_250.2.2.1
theorem dX12_law_224 : decode cX12_law 224 = .ok (.iaload, 1) := dGX12_250.2.2.2.1
theorem dX12_law_225 : decode cX12_law 225 = .ok (.iastore, 1) := dGX12_250.2.2.2.2.1
theorem dX12_law_226 : decode cX12_law 226 = .ok (.aload_n 0, 1) := dGX12_250.2.2.2.2.2
theorem dGX12_251 : decode cX12_law 227 = .ok (.getfield 79, 3) ∧ decode cX12_law 230 = .ok (.iload_n 3, 1) ∧ decode cX12_law 231 = .ok (.aload_n 0, 1) ∧ decode cX12_law 232 = .ok (.getfield 97, 3) ∧ decode cX12_law 235 = .ok (.iload_n 3, 1) ∧ decode cX12_law 236 = .ok (.iaload, 1) := by decide +kernel
theorem dX12_law_227 : decode cX12_law 227 = .ok (.getfield 79, 3) := dGX12_251.1
theorem dX12_law_230 : decode cX12_law 230 = .ok (.iload_n 3, 1) := dGX12_251.2.1
theorem dX12_law_231 : decode cX12_law 231 = .ok (.aload_n 0, 1) := dGX12_251.2.2.1
theorem dX12_law_232 : decode cX12_law 232 = .ok (.getfield 97, 3) := dGX12_251.2.2.2.1
theorem dX12_law_235 : decode cX12_law 235 = .ok (.iload_n 3, 1) := dGX12_251.2.2.2.2.1
theorem dX12_law_236 : decode cX12_law 236 = .ok (.iaload, 1) := dGX12_251.2.2.2.2.2
theorem dGX12_252 : decode cX12_law 237 = .ok (.iastore, 1) ∧ decode cX12_law 238 = .ok (.iinc 3 1, 3) ∧ decode cX12_law 241 = .ok (.goto (-35), 3) ∧ decode cX12_law 244 = .ok (.aload_n 0, 1) ∧ decode cX12_law 245 = .ok (.aload_n 0, 1) ∧ decode cX12_law 246 = .ok (.getfield 310, 3) := by decide +kernel
theorem dX12_law_237 : decode cX12_law 237 = .ok (.iastore, 1) := dGX12_252.1
theorem dX12_law_238 : decode cX12_law 238 = .ok (.iinc 3 1, 3) := dGX12_252.2.1
theorem dX12_law_241 : decode cX12_law 241 = .ok (.goto (-35), 3) := dGX12_252.2.2.1
theorem dX12_law_244 : decode cX12_law 244 = .ok (.aload_n 0, 1) := dGX12_252.2.2.2.1
theorem dX12_law_245 : decode cX12_law 245 = .ok (.aload_n 0, 1) := dGX12_252.2.2.2.2.1
theorem dX12_law_246 : decode cX12_law 246 = .ok (.getfield 310, 3) := dGX12_252.2.2.2.2.2
theorem dGX12_253 : decode cX12_law 249 = .ok (.putfield 321, 3) ∧ decode cX12_law 252 = .ok (.aload_n 0, 1) ∧ decode cX12_law 253 = .ok (.getfield 321, 3) ∧ decode cX12_law 256 = .ok (.ireturn, 1) ∧ decode cX12_skillOf 0 = .ok (.aload_n 0, 1) ∧ decode cX12_skillOf 1 = .ok (.getfield 324, 3) := by decide +kernel
theorem dX12_law_249 : decode cX12_law 249 = .ok (.putfield 321, 3) := dGX12_253.1
theorem dX12_law_252 : decode cX12_law 252 = .ok (.aload_n 0, 1) := dGX12_253.2.1
theorem dX12_law_253 : decode cX12_law 253 = .ok (.getfield 321, 3) := dGX12_253.2.2.1
theorem dX12_law_256 : decode cX12_law 256 = .ok (.ireturn, 1) := dGX12_253.2.2.2.1
theorem dX12_skillOf_0 : decode cX12_skillOf 0 = .ok (.aload_n 0, 1) := dGX12_253.2.2.2.2.1
theorem dX12_skillOf_1 : decode cX12_skillOf 1 = .ok (.getfield 324, 3) := dGX12_253.2.2.2.2.2
theorem dGX12_254 : decode cX12_skillOf 4 = .ok (.iconst (-1), 1) ∧ decode cX12_skillOf 5 = .ok (.if_icmp .eq 22, 3) ∧ decode cX12_skillOf 8 = .ok (.aload_n 0, 1) ∧ decode cX12_skillOf 9 = .ok (.getfield 33, 3) ∧ decode cX12_skillOf 12 = .ok (.iconst 5, 1) ∧ decode cX12_skillOf 13 = .ok (.iload_n 1, 1) := by decide +kernel
theorem dX12_skillOf_4 : decode cX12_skillOf 4 = .ok (.iconst (-1), 1) := dGX12_254.1
theorem dX12_skillOf_5 : decode cX12_skillOf 5 = .ok (.if_icmp .eq 22, 3) := dGX12_254.2.1
theorem dX12_skillOf_8 : decode cX12_skillOf 8 = .ok (.aload_n 0, 1) := dGX12_254.2.2.1
theorem dX12_skillOf_9 : decode cX12_skillOf 9 = .ok (.getfield 33, 3) := dGX12_254.2.2.2.1
theorem dX12_skillOf_12 : decode cX12_skillOf 12 = .ok (.iconst 5, 1) := dGX12_254.2.2.2.2.1
theorem dX12_skillOf_13 : decode cX12_skillOf 13 = .ok (.iload_n 1, 1) := dGX12_254.2.2.2.2.2
theorem dGX12_255 : decode cX12_skillOf 14 = .ok (.imul, 1) ∧ decode cX12_skillOf 15 = .ok (.aload_n 0, 1) ∧ decode cX12_skillOf 16 = .ok (.getfield 43, 3) ∧ decode cX12_skillOf 19 = .ok (.aload_n 0, 1) ∧ decode cX12_skillOf 20 = .ok (.getfield 324, 3) ∧ decode cX12_skillOf 23 = .ok (.iaload, 1) := by decide +kernel
theorem dX12_skillOf_14 : decode cX12_skillOf 14 = .ok (.imul, 1) := dGX12_255.1
theorem dX12_skillOf_15 : decode cX12_skillOf 15 = .ok (.aload_n 0, 1) := dGX12_255.2.1
theorem dX12_skillOf_16 : decode cX12_skillOf 16 = .ok (.getfield 43, 3) := dGX12_255.2.2.1
theorem dX12_skillOf_19 : decode cX12_skillOf 19 = .ok (.aload_n 0, 1) := dGX12_255.2.2.2.1
theorem dX12_skillOf_20 : decode cX12_skillOf 20 = .ok (.getfield 324, 3) := dGX12_255.2.2.2.2.1
theorem dX12_skillOf_23 : decode cX12_skillOf 23 = .ok (.iaload, 1) := dGX12_255.2.2.2.2.2
theorem dGX12_256 : decode cX12_skillOf 24 = .ok (.iadd, 1) ∧ decode cX12_skillOf 25 = .ok (.iaload, 1) ∧ decode cX12_skillOf 26 = .ok (.ireturn, 1) ∧ decode cX12_skillOf 27 = .ok (.iconst 0, 1) ∧ decode cX12_skillOf 28 = .ok (.istore_n 2, 1) ∧ decode cX12_skillOf 29 = .ok (.iconst 0, 1) := by decide +kernel
theorem dX12_skillOf_24 : decode cX12_skillOf 24 = .ok (.iadd, 1) := dGX12_256.1
theorem dX12_skillOf_25 : decode cX12_skillOf 25 = .ok (.iaload, 1) := dGX12_256.2.1
theorem dX12_skillOf_26 : decode cX12_skillOf 26 = .ok (.ireturn, 1) := dGX12_256.2.2.1
theorem dX12_skillOf_27 : decode cX12_skillOf 27 = .ok (.iconst 0, 1) := dGX12_256.2.2.2.1
theorem dX12_skillOf_28 : decode cX12_skillOf 28 = .ok (.istore_n 2, 1) := dGX12_256.2.2.2.2.1
theorem dX12_skillOf_29 : decode cX12_skillOf 29 = .ok (.iconst 0, 1) := dGX12_256.2.2.2.2.2
theorem dGX12_257 : decode cX12_skillOf 30 = .ok (.istore_n 3, 1) ∧ decode cX12_skillOf 31 = .ok (.iload_n 3, 1) ∧ decode cX12_skillOf 32 = .ok (.iconst 5, 1) ∧ decode cX12_skillOf 33 = .ok (.if_icmp .ge 22, 3) ∧ decode cX12_skillOf 36 = .ok (.iload_n 2, 1) ∧ decode cX12_skillOf 37 = .ok (.aload_n 0, 1) := by decide +kernel
theorem dX12_skillOf_30 : decode cX12_skillOf 30 = .ok (.istore_n 3, 1) := dGX12_257.1
theorem dX12_skillOf_31 : decode cX12_skillOf 31 = .ok (.iload_n 3, 1) := dGX12_257.2.1
theorem dX12_skillOf_32 : decode cX12_skillOf 32 = .ok (.iconst 5, 1) := dGX12_257.2.2.1
theorem dX12_skillOf_33 : decode cX12_skillOf 33 = .ok (.if_icmp .ge 22, 3) := dGX12_257.2.2.2.1
theorem dX12_skillOf_36 : decode cX12_skillOf 36 = .ok (.iload_n 2, 1) := dGX12_257.2.2.2.2.1
theorem dX12_skillOf_37 : decode cX12_skillOf 37 = .ok (.aload_n 0, 1) := dGX12_257.2.2.2.2.2
theorem dGX12_258 : decode cX12_skillOf 38 = .ok (.getfield 33, 3) ∧ decode cX12_skillOf 41 = .ok (.iconst 5, 1) ∧ decode cX12_skillOf 42 = .ok (.iload_n 1, 1) ∧ decode cX12_skillOf 43 = .ok (.imul, 1) ∧ decode cX12_skillOf 44 = .ok (.iload_n 3, 1) ∧ decode cX12_skillOf 45 = .ok (.iadd, 1) := by decide +kernel
theorem dX12_skillOf_38 : decode cX12_skillOf 38 = .ok (.getfield 33, 3) := dGX12_258.1
theorem dX12_skillOf_41 : decode cX12_skillOf 41 = .ok (.iconst 5, 1) := dGX12_258.2.1
theorem dX12_skillOf_42 : decode cX12_skillOf 42 = .ok (.iload_n 1, 1) := dGX12_258.2.2.1
theorem dX12_skillOf_43 : decode cX12_skillOf 43 = .ok (.imul, 1) := dGX12_258.2.2.2.1
theorem dX12_skillOf_44 : decode cX12_skillOf 44 = .ok (.iload_n 3, 1) := dGX12_258.2.2.2.2.1
theorem dX12_skillOf_45 : decode cX12_skillOf 45 = .ok (.iadd, 1) := dGX12_258.2.2.2.2.2
theorem dGX12_259 : decode cX12_skillOf 46 = .ok (.iaload, 1) ∧ decode cX12_skillOf 47 = .ok (.iadd, 1) ∧ decode cX12_skillOf 48 = .ok (.istore_n 2, 1) ∧ decode cX12_skillOf 49 = .ok (.iinc 3 1, 3) ∧ decode cX12_skillOf 52 = .ok (.goto (-21), 3) ∧ decode cX12_skillOf 55 = .ok (.iload_n 2, 1) := by decide +kernel
theorem dX12_skillOf_46 : decode cX12_skillOf 46 = .ok (.iaload, 1) := dGX12_259.1
theorem dX12_skillOf_47 : decode cX12_skillOf 47 = .ok (.iadd, 1) := dGX12_259.2.1
theorem dX12_skillOf_48 : decode cX12_skillOf 48 = .ok (.istore_n 2, 1) := dGX12_259.2.2.1
theorem dX12_skillOf_49 : decode cX12_skillOf 49 = .ok (.iinc 3 1, 3) := dGX12_259.2.2.2.1
theorem dX12_skillOf_52 : decode cX12_skillOf 52 = .ok (.goto (-21), 3) := dGX12_259.2.2.2.2.1
theorem dX12_skillOf_55 : decode cX12_skillOf 55 = .ok (.iload_n 2, 1) := dGX12_259.2.2.2.2.2
theorem dGX12_260 : decode cX12_skillOf 56 = .ok (.ireturn, 1) ∧ decode cX12_valueOf 0 = .ok (.iload_n 1, 1) ∧ decode cX12_valueOf 1 = .ok (.invokestatic 251, 3) ∧ decode cX12_valueOf 4 = .ok (.ifCond .eq 56, 3) ∧ decode cX12_valueOf 7 = .ok (.aload_n 0, 1) ∧ decode cX12_valueOf 8 = .ok (.getfield 324, 3) := by decide +kernel
theorem dX12_skillOf_56 : decode cX12_skillOf 56 = .ok (.ireturn, 1) := dGX12_260.1
theorem dX12_valueOf_0 : decode cX12_valueOf 0 = .ok (.iload_n 1, 1) := dGX12_260.2.1
theorem dX12_valueOf_1 : decode cX12_valueOf 1 = .ok (.invokestatic 251, 3) := dGX12_260.2.2.1
theorem dX12_valueOf_4 : decode cX12_valueOf 4 = .ok (.ifCond .eq 56, 3) := dGX12_260.2.2.2.1
theorem dX12_valueOf_7 : decode cX12_valueOf 7 = .ok (.aload_n 0, 1) := dGX12_260.2.2.2.2.1
theorem dX12_valueOf_8 : decode cX12_valueOf 8 = .ok (.getfield 324, 3) := dGX12_260.2.2.2.2.2
theorem dGX12_261 : decode cX12_valueOf 11 = .ok (.iconst (-1), 1) ∧ decode cX12_valueOf 12 = .ok (.if_icmp .ne 7, 3) ∧ decode cX12_valueOf 15 = .ok (.iconst 0, 1) ∧ decode cX12_valueOf 16 = .ok (.goto 43, 3) ∧ decode cX12_valueOf 19 = .ok (.iload_n 1, 1) ∧ decode cX12_valueOf 20 = .ok (.bipush 98, 2) := by decide +kernel
theorem dX12_valueOf_11 : decode cX12_valueOf 11 = .ok (.iconst (-1), 1) := dGX12_261.1
theorem dX12_valueOf_12 : decode cX12_valueOf 12 = .ok (.if_icmp .ne 7, 3) := dGX12_261.2.1
theorem dX12_valueOf_15 : decode cX12_valueOf 15 = .ok (.iconst 0, 1) := dGX12_261.2.2.1
theorem dX12_valueOf_16 : decode cX12_valueOf 16 = .ok (.goto 43, 3) := dGX12_261.2.2.2.1
theorem dX12_valueOf_19 : decode cX12_valueOf 19 = .ok (.iload_n 1, 1) := dGX12_261.2.2.2.2.1
theorem dX12_valueOf_20 : decode cX12_valueOf 20 = .ok (.bipush 98, 2) := dGX12_261.2.2.2.2.2
theorem dGX12_262 : decode cX12_valueOf 22 = .ok (.if_icmp .ne 10, 3) ∧ decode cX12_valueOf 25 = .ok (.aload_n 0, 1) ∧ decode cX12_valueOf 26 = .ok (.getfield 324, 3) ∧ decode cX12_valueOf 29 = .ok (.goto 30, 3) ∧ decode cX12_valueOf 32 = .ok (.iload_n 1, 1) ∧ decode cX12_valueOf 33 = .ok (.bipush 107, 2) := by decide +kernel
theorem dX12_valueOf_22 : decode cX12_valueOf 22 = .ok (.if_icmp .ne 10, 3) := dGX12_262.1
theorem dX12_valueOf_25 : decode cX12_valueOf 25 = .ok (.aload_n 0, 1) := dGX12_262.2.1
theorem dX12_valueOf_26 : decode cX12_valueOf 26 = .ok (.getfield 324, 3) := dGX12_262.2.2.1
theorem dX12_valueOf_29 : decode cX12_valueOf 29 = .ok (.goto 30, 3) := dGX12_262.2.2.2.1
theorem dX12_valueOf_32 : decode cX12_valueOf 32 = .ok (.iload_n 1, 1) := dGX12_262.2.2.2.2.1
theorem dX12_valueOf_33 : decode cX12_valueOf 33 = .ok (.bipush 107, 2) := dGX12_262.2.2.2.2.2
theorem dGX12_263 : decode cX12_valueOf 35 = .ok (.if_icmp .ne 15, 3) ∧ decode cX12_valueOf 38 = .ok (.aload_n 0, 1) ∧ decode cX12_valueOf 39 = .ok (.getfield 43, 3) ∧ decode cX12_valueOf 42 = .ok (.aload_n 0, 1) ∧ decode cX12_valueOf 43 = .ok (.getfield 324, 3) ∧ decode cX12_valueOf 46 = .ok (.iaload, 1) := by decide +kernel
theorem dX12_valueOf_35 : decode cX12_valueOf 35 = .ok (.if_icmp .ne 15, 3) := dGX12_263.1
theorem dX12_valueOf_38 : decode cX12_valueOf 38 = .ok (.aload_n 0, 1) := dGX12_263.2.1
theorem dX12_valueOf_39 : decode cX12_valueOf 39 = .ok (.getfield 43, 3) := dGX12_263.2.2.1
theorem dX12_valueOf_42 : decode cX12_valueOf 42 = .ok (.aload_n 0, 1) := dGX12_263.2.2.2.1
theorem dX12_valueOf_43 : decode cX12_valueOf 43 = .ok (.getfield 324, 3) := dGX12_263.2.2.2.2.1
theorem dX12_valueOf_46 : decode cX12_valueOf 46 = .ok (.iaload, 1) := dGX12_263.2.2.2.2.2
theorem dGX12_264 : decode cX12_valueOf 47 = .ok (.goto 12, 3) ∧ decode cX12_valueOf 50 = .ok (.aload_n 0, 1) ∧ decode cX12_valueOf 51 = .ok (.getfield 52, 3) ∧ decode cX12_valueOf 54 = .ok (.aload_n 0, 1) ∧ decode cX12_valueOf 55 = .ok (.getfield 324, 3) ∧ decode cX12_valueOf 58 = .ok (.iaload, 1) := by decide +kernel
theorem dX12_valueOf_47 : decode cX12_valueOf 47 = .ok (.goto 12, 3) := dGX12_264.1
theorem dX12_valueOf_50 : decode cX12_valueOf 50 = .ok (.aload_n 0, 1) := dGX12_264.2.1
theorem dX12_valueOf_51 : decode cX12_valueOf 51 = .ok (.getfield 52, 3) := dGX12_264.2.2.1
theorem dX12_valueOf_54 : decode cX12_valueOf 54 = .ok (.aload_n 0, 1) := dGX12_264.2.2.2.1
theorem dX12_valueOf_55 : decode cX12_valueOf 55 = .ok (.getfield 324, 3) := dGX12_264.2.2.2.2.1
theorem dX12_valueOf_58 : decode cX12_valueOf 58 = .ok (.iaload, 1) := dGX12_264.2.2.2.2.2
theorem dGX12_265 : decode cX12_valueOf 59 = .ok (.ireturn, 1) ∧ decode cX12_valueOf 60 = .ok (.aload_n 0, 1) ∧ decode cX12_valueOf 61 = .ok (.getfield 27, 3) ∧ decode cX12_valueOf 64 = .ok (.aload_n 0, 1) ∧ decode cX12_valueOf 65 = .ok (.getfield 327, 3) ∧ decode cX12_valueOf 68 = .ok (.iaload, 1) := by decide +kernel
theorem dX12_valueOf_59 : decode cX12_valueOf 59 = .ok (.ireturn, 1) := dGX12_265.1
theorem dX12_valueOf_60 : decode cX12_valueOf 60 = .ok (.aload_n 0, 1) := dGX12_265.2.1
theorem dX12_valueOf_61 : decode cX12_valueOf 61 = .ok (.getfield 27, 3) := dGX12_265.2.2.1
theorem dX12_valueOf_64 : decode cX12_valueOf 64 = .ok (.aload_n 0, 1) := dGX12_265.2.2.2.1
theorem dX12_valueOf_65 : decode cX12_valueOf 65 = .ok (.getfield 327, 3) := dGX12_265.2.2.2.2.1
theorem dX12_valueOf_68 : decode cX12_valueOf 68 = .ok (.iaload, 1) := dGX12_265.2.2.2.2.2
theorem dGX12_266 : decode cX12_valueOf 69 = .ok (.istore_n 2, 1) ∧ decode cX12_valueOf 70 = .ok (.iload_n 1, 1) ∧ decode cX12_valueOf 71 = .ok (.tableswitch 156 97 116 #[93, 156, 156, 156, 144, 156, 98, 156, 156, 156, 156, 156, 156, 137, 117, 156, 135, 156, 108, 151], 93) ∧ decode cX12_valueOf 164 = .ok (.aload_n 0, 1) ∧ decode cX12_valueOf 165 = .ok (.getfield 327, 3) ∧ decode cX12_valueOf 168 = .ok (.ireturn, 1) := by decide +kernel
theorem dX12_valueOf_69 : decode cX12_valueOf 69 = .ok (.istore_n 2, 1) := dGX12_266.1
theorem dX12_valueOf_70 : decode cX12_valueOf 70 = .ok (.iload_n 1, 1) := dGX12_266.2.1
theorem dX12_valueOf_71 : decode cX12_valueOf 71 = .ok (.tableswitch 156 97 116 #[93, 156, 156, 156, 144, 156, 98, 156, 156, 156, 156, 156, 156, 137, 117, 156, 135, 156, 108, 151], 93) := dGX12_266.2.2.1
theorem dX12_valueOf_164 : decode cX12_valueOf 164 = .ok (.aload_n 0, 1) := dGX12_266.2.2.2.1
theorem dX12_valueOf_165 : decode cX12_valueOf 165 = .ok (.getfield 327, 3) := dGX12_266.2.2.2.2.1
theorem dX12_valueOf_168 : decode cX12_valueOf 168 = .ok (.ireturn, 1) := dGX12_266.2.2.2.2.2
theorem dGX12_267 : decode cX12_valueOf 169 = .ok (.aload_n 0, 1) ∧ decode cX12_valueOf 170 = .ok (.getfield 30, 3) ∧ decode cX12_valueOf 173 = .ok (.aload_n 0, 1) ∧ decode cX12_valueOf 174 = .ok (.getfield 327, 3) ∧ decode cX12_valueOf 177 = .ok (.iaload, 1) ∧ decode cX12_valueOf 178 = .ok (.ireturn, 1) := by decide +kernel
theorem dX12_valueOf_169 : decode cX12_valueOf 169 = .ok (.aload_n 0, 1) := dGX12_267.1
theorem dX12_valueOf_170 : decode cX12_valueOf 170 = .ok (.getfield 30, 3) := dGX12_267.2.1
theorem dX12_valueOf_173 : decode cX12_valueOf 173 = .ok (.aload_n 0, 1) := dGX12_267.2.2.1
theorem dX12_valueOf_174 : decode cX12_valueOf 174 = .ok (.getfield 327, 3) := dGX12_267.2.2.2.1
theorem dX12_valueOf_177 : decode cX12_valueOf 177 = .ok (.iaload, 1) := dGX12_267.2.2.2.2.1
theorem dX12_valueOf_178 : decode cX12_valueOf 178 = .ok (.ireturn, 1) := dGX12_267.2.2.2.2.2
theorem dGX12_268 : decode cX12_valueOf 179 = .ok (.aload_n 0, 1) ∧ decode cX12_valueOf 180 = .ok (.aload_n 0, 1) ∧ decode cX12_valueOf 181 = .ok (.getfield 327, 3) ∧ decode cX12_valueOf 184 = .ok (.invokevirtual 330, 3) ∧ decode cX12_valueOf 187 = .ok (.ireturn, 1) ∧ decode cX12_valueOf 188 = .ok (.aload_n 0, 1) := by decide +kernel
theorem dX12_valueOf_179 : decode cX12_valueOf 179 = .ok (.aload_n 0, 1) := dGX12_268.1
theorem dX12_valueOf_180 : decode cX12_valueOf 180 = .ok (.aload_n 0, 1) := dGX12_268.2.1
theorem dX12_valueOf_181 : decode cX12_valueOf 181 = .ok (.getfield 327, 3) := dGX12_268.2.2.1
theorem dX12_valueOf_184 : decode cX12_valueOf 184 = .ok (.invokevirtual 330, 3) := dGX12_268.2.2.2.1
theorem dX12_valueOf_187 : decode cX12_valueOf 187 = .ok (.ireturn, 1) := dGX12_268.2.2.2.2.1
theorem dX12_valueOf_188 : decode cX12_valueOf 188 = .ok (.aload_n 0, 1) := dGX12_268.2.2.2.2.2
theorem dGX12_269 : decode cX12_valueOf 189 = .ok (.getfield 36, 3) ∧ decode cX12_valueOf 192 = .ok (.aload_n 0, 1) ∧ decode cX12_valueOf 193 = .ok (.getfield 327, 3) ∧ decode cX12_valueOf 196 = .ok (.baload, 1) ∧ decode cX12_valueOf 197 = .ok (.ifCond .eq 7, 3) ∧ decode cX12_valueOf 200 = .ok (.iconst 1, 1) := by decide +kernel
theorem dX12_valueOf_189 : decode cX12_valueOf 189 = .ok (.getfield 36, 3) := dGX12_269.1
theorem dX12_valueOf_192 : decode cX12_valueOf 192 = .ok (.aload_n 0, 1) := dGX12_269.2.1
theorem dX12_valueOf_193 : decode cX12_valueOf 193 = .ok (.getfield 327, 3) := dGX12_269.2.2.1
theorem dX12_valueOf_196 : decode cX12_valueOf 196 = .ok (.baload, 1) := dGX12_269.2.2.2.1
theorem dX12_valueOf_197 : decode cX12_valueOf 197 = .ok (.ifCond .eq 7, 3) := dGX12_269.2.2.2.2.1
theorem dX12_valueOf_200 : decode cX12_valueOf 200 = .ok (.iconst 1, 1) := dGX12_269.2.2.2.2.2
theorem dGX12_270 : decode cX12_valueOf 201 = .ok (.goto 4, 3) ∧ decode cX12_valueOf 204 = .ok (.iconst 0, 1) ∧ decode cX12_valueOf 205 = .ok (.ireturn, 1) ∧ decode cX12_valueOf 206 = .ok (.iload_n 2, 1) ∧ decode cX12_valueOf 207 = .ok (.ireturn, 1) ∧ decode cX12_valueOf 208 = .ok (.aload_n 0, 1) := by decide +kernel
theorem dX12_valueOf_201 : decode cX12_valueOf 201 = .ok (.goto 4, 3) := dGX12_270.1
theorem dX12_valueOf_204 : decode cX12_valueOf 204 = .ok (.iconst 0, 1) := dGX12_270.2.1
theorem dX12_valueOf_205 : decode cX12_valueOf 205 = .ok (.ireturn, 1) := dGX12_270.2.2.1
theorem dX12_valueOf_206 : decode cX12_valueOf 206 = .ok (.iload_n 2, 1) := dGX12_270.2.2.2.1
theorem dX12_valueOf_207 : decode cX12_valueOf 207 = .ok (.ireturn, 1) := dGX12_270.2.2.2.2.1
theorem dX12_valueOf_208 : decode cX12_valueOf 208 = .ok (.aload_n 0, 1) := dGX12_270.2.2.2.2.2
theorem dGX12_271 : decode cX12_valueOf 209 = .ok (.getfield 21, 3) ∧ decode cX12_valueOf 212 = .ok (.iload_n 2, 1) ∧ decode cX12_valueOf 213 = .ok (.iaload, 1) ∧ decode cX12_valueOf 214 = .ok (.ireturn, 1) ∧ decode cX12_valueOf 215 = .ok (.aload_n 0, 1) ∧ decode cX12_valueOf 216 = .ok (.getfield 24, 3) := by decide +kernel
theorem dX12_valueOf_209 : decode cX12_valueOf 209 = .ok (.getfield 21, 3) := dGX12_271.1
theorem dX12_valueOf_212 : decode cX12_valueOf 212 = .ok (.iload_n 2, 1) := dGX12_271.2.1
theorem dX12_valueOf_213 : decode cX12_valueOf 213 = .ok (.iaload, 1) := dGX12_271.2.2.1
theorem dX12_valueOf_214 : decode cX12_valueOf 214 = .ok (.ireturn, 1) := dGX12_271.2.2.2.1
theorem dX12_valueOf_215 : decode cX12_valueOf 215 = .ok (.aload_n 0, 1) := dGX12_271.2.2.2.2.1
theorem dX12_valueOf_216 : decode cX12_valueOf 216 = .ok (.getfield 24, 3) := dGX12_271.2.2.2.2.2
theorem dGX12_272 : decode cX12_valueOf 219 = .ok (.iload_n 2, 1) ∧ decode cX12_valueOf 220 = .ok (.iaload, 1) ∧ decode cX12_valueOf 221 = .ok (.ireturn, 1) ∧ decode cX12_valueOf 222 = .ok (.aload_n 0, 1) ∧ decode cX12_valueOf 223 = .ok (.getfield 334, 3) ∧ decode cX12_valueOf 226 = .ok (.ireturn, 1) := by decide +kernel
theorem dX12_valueOf_219 : decode cX12_valueOf 219 = .ok (.iload_n 2, 1) := dGX12_272.1
theorem dX12_valueOf_220 : decode cX12_valueOf 220 = .ok (.iaload, 1) := dGX12_272.2.1
theorem dX12_valueOf_221 : decode cX12_valueOf 221 = .ok (.ireturn, 1) := dGX12_272.2.2.1
theorem dX12_valueOf_222 : decode cX12_valueOf 222 = .ok (.aload_n 0, 1) := dGX12_272.2.2.2.1
theorem dX12_valueOf_223 : decode cX12_valueOf 223 = .ok (.getfield 334, 3) := dGX12_272.2.2.2.2.1
theorem dX12_valueOf_226 : decode cX12_valueOf 226 = .ok (.ireturn, 1) := dGX12_272.2.2.2.2.2
theorem dGX12_273 : decode cX12_valueOf 227 = .ok (.aload_n 0, 1) ∧ decode cX12_valueOf 228 = .ok (.getfield 337, 3) ∧ decode cX12_valueOf 231 = .ok (.ireturn, 1) ∧ decode cX12_worked 0 = .ok (.iload_n 0, 1) ∧ decode cX12_worked 1 = .ok (.lookupswitch 125 #[(37, 91), (42, 75), (43, 67), (45, 71), (47, 79), (60, 103), (62, 114)], 67) ∧ decode cX12_worked 68 = .ok (.iload_n 1, 1) := by decide +kernel
theorem dX12_valueOf_227 : decode cX12_valueOf 227 = .ok (.aload_n 0, 1) := dGX12_273.1
theorem dX12_valueOf_228 : decode cX12_valueOf 228 = .ok (.getfield 337, 3) := dGX12_273.2.1
theorem dX12_valueOf_231 : decode cX12_valueOf 231 = .ok (.ireturn, 1) := dGX12_273.2.2.1
theorem dX12_worked_0 : decode cX12_worked 0 = .ok (.iload_n 0, 1) := dGX12_273.2.2.2.1
theorem dX12_worked_1 : decode cX12_worked 1 = .ok (.lookupswitch 125 #[(37, 91), (42, 75), (43, 67), (45, 71), (47, 79), (60, 103), (62, 114)], 67) := dGX12_273.2.2.2.2.1
theorem dX12_worked_68 : decode cX12_worked 68 = .ok (.iload_n 1, 1) := dGX12_273.2.2.2.2.2
theorem dGX12_274 : decode cX12_worked 69 = .ok (.iload_n 2, 1) ∧ decode cX12_worked 70 = .ok (.iadd, 1) ∧ decode cX12_worked 71 = .ok (.ireturn, 1) ∧ decode cX12_worked 72 = .ok (.iload_n 1, 1) ∧ decode cX12_worked 73 = .ok (.iload_n 2, 1) ∧ decode cX12_worked 74 = .ok (.isub, 1) := by decide +kernel
theorem dX12_worked_69 : decode cX12_worked 69 = .ok (.iload_n 2, 1) := dGX12_274.1
theorem dX12_worked_70 : decode cX12_worked 70 = .ok (.iadd, 1) := dGX12_274.2.1
theorem dX12_worked_71 : decode cX12_worked 71 = .ok (.ireturn, 1) := dGX12_274.2.2.1
theorem dX12_worked_72 : decode cX12_worked 72 = .ok (.iload_n 1, 1) := dGX12_274.2.2.2.1
theorem dX12_worked_73 : decode cX12_worked 73 = .ok (.iload_n 2, 1) := dGX12_274.2.2.2.2.1
theorem dX12_worked_74 : decode cX12_worked 74 = .ok (.isub, 1) := dGX12_274.2.2.2.2.2
theorem dGX12_275 : decode cX12_worked 75 = .ok (.ireturn, 1) ∧ decode cX12_worked 76 = .ok (.iload_n 1, 1) ∧ decode cX12_worked 77 = .ok (.iload_n 2, 1) ∧ decode cX12_worked 78 = .ok (.imul, 1) ∧ decode cX12_worked 79 = .ok (.ireturn, 1) ∧ decode cX12_worked 80 = .ok (.iload_n 2, 1) := by decide +kernel
theorem dX12_worked_75 : decode cX12_worked 75 = .ok (.ireturn, 1) := dGX12_275.1
theorem dX12_worked_76 : decode cX12_worked 76 = .ok (.iload_n 1, 1) := dGX12_275.2.1
theorem dX12_worked_77 : decode cX12_worked 77 = .ok (.iload_n 2, 1) := dGX12_275.2.2.1
theorem dX12_worked_78 : decode cX12_worked 78 = .ok (.imul, 1) := dGX12_275.2.2.2.1
theorem dX12_worked_79 : decode cX12_worked 79 = .ok (.ireturn, 1) := dGX12_275.2.2.2.2.1
theorem dX12_worked_80 : decode cX12_worked 80 = .ok (.iload_n 2, 1) := dGX12_275.2.2.2.2.2
theorem dGX12_276 : decode cX12_worked 81 = .ok (.ifCond .ne 7, 3) ∧ decode cX12_worked 84 = .ok (.iconst 0, 1) ∧ decode cX12_worked 85 = .ok (.goto 6, 3) ∧ decode cX12_worked 88 = .ok (.iload_n 1, 1) ∧ decode cX12_worked 89 = .ok (.iload_n 2, 1) ∧ decode cX12_worked 90 = .ok (.idiv, 1) := by decide +kernel
theorem dX12_worked_81 : decode cX12_worked 81 = .ok (.ifCond .ne 7, 3) := dGX12_276.1
theorem dX12_worked_84 : decode cX12_worked 84 = .ok (.iconst 0, 1) := dGX12_276.2.1
theorem dX12_worked_85 : decode cX12_worked 85 = .ok (.goto 6, 3) := dGX12_276.2.2.1
theorem dX12_worked_88 : decode cX12_worked 88 = .ok (.iload_n 1, 1) := dGX12_276.2.2.2.1
theorem dX12_worked_89 : decode cX12_worked 89 = .ok (.iload_n 2, 1) := dGX12_276.2.2.2.2.1
theorem dX12_worked_90 : decode cX12_worked 90 = .ok (.idiv, 1) := dGX12_276.2.2.2.2.2
theorem dGX12_277 : decode cX12_worked 91 = .ok (.ireturn, 1) ∧ decode cX12_worked 92 = .ok (.iload_n 2, 1) ∧ decode cX12_worked 93 = .ok (.ifCond .ne 7, 3) ∧ decode cX12_worked 96 = .ok (.iconst 0, 1) ∧ decode cX12_worked 97 = .ok (.goto 6, 3) ∧ decode cX12_worked 100 = .ok (.iload_n 1, 1) := by decide +kernel
theorem dX12_worked_91 : decode cX12_worked 91 = .ok (.ireturn, 1) := dGX12_277.1
theorem dX12_worked_92 : decode cX12_worked 92 = .ok (.iload_n 2, 1) := dGX12_277.2.1
theorem dX12_worked_93 : decode cX12_worked 93 = .ok (.ifCond .ne 7, 3) := dGX12_277.2.2.1
theorem dX12_worked_96 : decode cX12_worked 96 = .ok (.iconst 0, 1) := dGX12_277.2.2.2.1
theorem dX12_worked_97 : decode cX12_worked 97 = .ok (.goto 6, 3) := dGX12_277.2.2.2.2.1
theorem dX12_worked_100 : decode cX12_worked 100 = .ok (.iload_n 1, 1) := dGX12_277.2.2.2.2.2
theorem dGX12_278 : decode cX12_worked 101 = .ok (.iload_n 2, 1) ∧ decode cX12_worked 102 = .ok (.irem, 1) ∧ decode cX12_worked 103 = .ok (.ireturn, 1) ∧ decode cX12_worked 104 = .ok (.iload_n 1, 1) ∧ decode cX12_worked 105 = .ok (.iload_n 2, 1) ∧ decode cX12_worked 106 = .ok (.if_icmp .ge 7, 3) := by decide +kernel
theorem dX12_worked_101 : decode cX12_worked 101 = .ok (.iload_n 2, 1) := dGX12_278.1
theorem dX12_worked_102 : decode cX12_worked 102 = .ok (.irem, 1) := dGX12_278.2.1
theorem dX12_worked_103 : decode cX12_worked 103 = .ok (.ireturn, 1) := dGX12_278.2.2.1
theorem dX12_worked_104 : decode cX12_worked 104 = .ok (.iload_n 1, 1) := dGX12_278.2.2.2.1
theorem dX12_worked_105 : decode cX12_worked 105 = .ok (.iload_n 2, 1) := dGX12_278.2.2.2.2.1
theorem dX12_worked_106 : decode cX12_worked 106 = .ok (.if_icmp .ge 7, 3) := dGX12_278.2.2.2.2.2
theorem dGX12_279 : decode cX12_worked 109 = .ok (.iconst 1, 1) ∧ decode cX12_worked 110 = .ok (.goto 4, 3) ∧ decode cX12_worked 113 = .ok (.iconst 0, 1) ∧ decode cX12_worked 114 = .ok (.ireturn, 1) ∧ decode cX12_worked 115 = .ok (.iload_n 1, 1) ∧ decode cX12_worked 116 = .ok (.iload_n 2, 1) := by decide +kernel
theorem dX12_worked_109 : decode cX12_worked 109 = .ok (.iconst 1, 1) := dGX12_279.1
theorem dX12_worked_110 : decode cX12_worked 110 = .ok (.goto 4, 3) := dGX12_279.2.1
theorem dX12_worked_113 : decode cX12_worked 113 = .ok (.iconst 0, 1) := dGX12_279.2.2.1
theorem dX12_worked_114 : decode cX12_worked 114 = .ok (.ireturn, 1) := dGX12_279.2.2.2.1
theorem dX12_worked_115 : decode cX12_worked 115 = .ok (.iload_n 1, 1) := dGX12_279.2.2.2.2.1
theorem dX12_worked_116 : decode cX12_worked 116 = .ok (.iload_n 2, 1) := dGX12_279.2.2.2.2.2
theorem dGX12_280 : decode cX12_worked 117 = .ok (.if_icmp .le 7, 3) ∧ decode cX12_worked 120 = .ok (.iconst 1, 1) ∧ decode cX12_worked 121 = .ok (.goto 4, 3) ∧ decode cX12_worked 124 = .ok (.iconst 0, 1) ∧ decode cX12_worked 125 = .ok (.ireturn, 1) ∧ decode cX12_worked 126 = .ok (.iload_n 1, 1) := by decide +kernel
theorem dX12_worked_117 : decode cX12_worked 117 = .ok (.if_icmp .le 7, 3) := dGX12_280.1
theorem dX12_worked_120 : decode cX12_worked 120 = .ok (.iconst 1, 1) := dGX12_280.2.1
theorem dX12_worked_121 : decode cX12_worked 121 = .ok (.goto 4, 3) := dGX12_280.2.2.1
theorem dX12_worked_124 : decode cX12_worked 124 = .ok (.iconst 0, 1) := dGX12_280.2.2.2.1
theorem dX12_worked_125 : decode cX12_worked 125 = .ok (.ireturn, 1) := dGX12_280.2.2.2.2.1
theorem dX12_worked_126 : decode cX12_worked 126 = .ok (.iload_n 1, 1) := dGX12_280.2.2.2.2.2
theorem dGX12_281 : decode cX12_worked 127 = .ok (.iload_n 2, 1) ∧ decode cX12_worked 128 = .ok (.if_icmp .ne 7, 3) ∧ decode cX12_worked 131 = .ok (.iconst 1, 1) ∧ decode cX12_worked 132 = .ok (.goto 4, 3) ∧ decode cX12_worked 135 = .ok (.iconst 0, 1) ∧ decode cX12_worked 136 = .ok (.ireturn, 1) := by decide +kernel
theorem dX12_worked_127 : decode cX12_worked 127 = .ok (.iload_n 2, 1) := dGX12_281.1
theorem dX12_worked_128 : decode cX12_worked 128 = .ok (.if_icmp .ne 7, 3) := dGX12_281.2.1
theorem dX12_worked_131 : decode cX12_worked 131 = .ok (.iconst 1, 1) := dGX12_281.2.2.1
theorem dX12_worked_132 : decode cX12_worked 132 = .ok (.goto 4, 3) := dGX12_281.2.2.2.1
theorem dX12_worked_135 : decode cX12_worked 135 = .ok (.iconst 0, 1) := dGX12_281.2.2.2.2.1
theorem dX12_worked_136 : decode cX12_worked 136 = .ok (.ireturn, 1) := dGX12_281.2.2.2.2.2
theorem dGX12_282 : decode cX12_does 0 = .ok (.iload_n 2, 1) ∧ decode cX12_does 1 = .ok (.iconst 1, 1) ∧ decode cX12_does 2 = .ok (.iadd, 1) ∧ decode cX12_does 3 = .ok (.istore_n 3, 1) ∧ decode cX12_does 4 = .ok (.iload_n 1, 1) ∧ decode cX12_does 5 = .ok (.bipush 38, 2) := by decide +kernel
theorem dX12_does_0 : decode cX12_does 0 = .ok (.iload_n 2, 1) := dGX12_282.1
theorem dX12_does_1 : decode cX12_does 1 = .ok (.iconst 1, 1) := dGX12_282.2.1
theorem dX12_does_2 : decode cX12_does 2 = .ok (.iadd, 1) := dGX12_282.2.2.1
theorem dX12_does_3 : decode cX12_does 3 = .ok (.istore_n 3, 1) := dGX12_282.2.2.2.1
theorem dX12_does_4 : decode cX12_does 4 = .ok (.iload_n 1, 1) := dGX12_282.2.2.2.2.1
theorem dX12_does_5 : decode cX12_does 5 = .ok (.bipush 38, 2) := dGX12_282.2.2.2.2.2
theorem dGX12_283 : decode cX12_does 7 = .ok (.if_icmp .eq 9, 3) ∧ decode cX12_does 10 = .ok (.iload_n 1, 1) ∧ decode cX12_does 11 = .ok (.bipush 124, 2) ∧ decode cX12_does 13 = .ok (.if_icmp .ne 58, 3) ∧ decode cX12_does 16 = .ok (.aload_n 0, 1) ∧ decode cX12_does 17 = .ok (.getfield 106, 3) := by decide +kernel
theorem dX12_does_7 : decode cX12_does 7 = .ok (.if_icmp .eq 9, 3) := dGX12_283.1
theorem dX12_does_10 : decode cX12_does 10 = .ok (.iload_n 1, 1) := dGX12_283.2.1
theorem dX12_does_11 : decode cX12_does 11 = .ok (.bipush 124, 2) := dGX12_283.2.2.1
theorem dX12_does_13 : decode cX12_does 13 = .ok (.if_icmp .ne 58, 3) := dGX12_283.2.2.2.1
theorem dX12_does_16 : decode cX12_does 16 = .ok (.aload_n 0, 1) := dGX12_283.2.2.2.2.1
theorem dX12_does_17 : decode cX12_does 17 = .ok (.getfield 106, 3) := dGX12_283.2.2.2.2.2
theorem dGX12_284 : decode cX12_does 20 = .ok (.iload_n 2, 1) ∧ decode cX12_does 21 = .ok (.baload, 1) ∧ decode cX12_does 22 = .ok (.ifCond .ne 23, 3) ∧ decode cX12_does 25 = .ok (.aload_n 0, 1) ∧ decode cX12_does 26 = .ok (.getfield 103, 3) ∧ decode cX12_does 29 = .ok (.iload_n 2, 1) := by decide +kernel
theorem dX12_does_20 : decode cX12_does 20 = .ok (.iload_n 2, 1) := dGX12_284.1
theorem dX12_does_21 : decode cX12_does 21 = .ok (.baload, 1) := dGX12_284.2.1
theorem dX12_does_22 : decode cX12_does 22 = .ok (.ifCond .ne 23, 3) := dGX12_284.2.2.1
theorem dX12_does_25 : decode cX12_does 25 = .ok (.aload_n 0, 1) := dGX12_284.2.2.2.1
theorem dX12_does_26 : decode cX12_does 26 = .ok (.getfield 103, 3) := dGX12_284.2.2.2.2.1
theorem dX12_does_29 : decode cX12_does 29 = .ok (.iload_n 2, 1) := dGX12_284.2.2.2.2.2
theorem dGX12_285 : decode cX12_does 30 = .ok (.iaload, 1) ∧ decode cX12_does 31 = .ok (.iload_n 1, 1) ∧ decode cX12_does 32 = .ok (.bipush 38, 2) ∧ decode cX12_does 34 = .ok (.if_icmp .ne 7, 3) ∧ decode cX12_does 37 = .ok (.iconst 1, 1) ∧ decode cX12_does 38 = .ok (.goto 4, 3) := by decide +kernel
theorem dX12_does_30 : decode cX12_does 30 = .ok (.iaload, 1) := dGX12_285.1
theorem dX12_does_31 : decode cX12_does 31 = .ok (.iload_n 1, 1) := dGX12_285.2.1
theorem dX12_does_32 : decode cX12_does 32 = .ok (.bipush 38, 2) := dGX12_285.2.2.1
theorem dX12_does_34 : decode cX12_does 34 = .ok (.if_icmp .ne 7, 3) := dGX12_285.2.2.2.1
theorem dX12_does_37 : decode cX12_does 37 = .ok (.iconst 1, 1) := dGX12_285.2.2.2.2.1
theorem dX12_does_38 : decode cX12_does 38 = .ok (.goto 4, 3) := dGX12_285.2.2.2.2.2
theorem dGX12_286 : decode cX12_does 41 = .ok (.iconst 0, 1) ∧ decode cX12_does 42 = .ok (.if_icmp .eq 4, 3) ∧ decode cX12_does 45 = .ok (.return_, 1) ∧ decode cX12_does 46 = .ok (.aload_n 0, 1) ∧ decode cX12_does 47 = .ok (.getfield 103, 3) ∧ decode cX12_does 50 = .ok (.iload_n 2, 1) := by decide +kernel
theorem dX12_does_41 : decode cX12_does 41 = .ok (.iconst 0, 1) := dGX12_286.1
theorem dX12_does_42 : decode cX12_does 42 = .ok (.if_icmp .eq 4, 3) := dGX12_286.2.1
theorem dX12_does_45 : decode cX12_does 45 = .ok (.return_, 1) := dGX12_286.2.2.1
theorem dX12_does_46 : decode cX12_does 46 = .ok (.aload_n 0, 1) := dGX12_286.2.2.2.1
theorem dX12_does_47 : decode cX12_does 47 = .ok (.getfield 103, 3) := dGX12_286.2.2.2.2.1
theorem dX12_does_50 : decode cX12_does 50 = .ok (.iload_n 2, 1) := dGX12_286.2.2.2.2.2
theorem dGX12_287 : decode cX12_does 51 = .ok (.aload_n 0, 1) ∧ decode cX12_does 52 = .ok (.getfield 103, 3) ∧ decode cX12_does 55 = .ok (.iload_n 3, 1) ∧ decode cX12_does 56 = .ok (.iaload, 1) ∧ decode cX12_does 57 = .ok (.iastore, 1) ∧ decode cX12_does 58 = .ok (.aload_n 0, 1) := by decide +kernel
theorem dX12_does_51 : decode cX12_does 51 = .ok (.aload_n 0, 1) := dGX12_287.1
theorem dX12_does_52 : decode cX12_does 52 = .ok (.getfield 103, 3) := dGX12_287.2.1
theorem dX12_does_55 : decode cX12_does 55 = .ok (.iload_n 3, 1) := dGX12_287.2.2.1
theorem dX12_does_56 : decode cX12_does 56 = .ok (.iaload, 1) := dGX12_287.2.2.2.1
theorem dX12_does_57 : decode cX12_does 57 = .ok (.iastore, 1) := dGX12_287.2.2.2.2.1
theorem dX12_does_58 : decode cX12_does 58 = .ok (.aload_n 0, 1) := dGX12_287.2.2.2.2.2
theorem dGX12_288 : decode cX12_does 59 = .ok (.getfield 106, 3) ∧ decode cX12_does 62 = .ok (.iload_n 2, 1) ∧ decode cX12_does 63 = .ok (.aload_n 0, 1) ∧ decode cX12_does 64 = .ok (.getfield 106, 3) ∧ decode cX12_does 67 = .ok (.iload_n 3, 1) ∧ decode cX12_does 68 = .ok (.baload, 1) := by decide +kernel
theorem dX12_does_59 : decode cX12_does 59 = .ok (.getfield 106, 3) := dGX12_288.1
theorem dX12_does_62 : decode cX12_does 62 = .ok (.iload_n 2, 1) := dGX12_288.2.1
theorem dX12_does_63 : decode cX12_does 63 = .ok (.aload_n 0, 1) := dGX12_288.2.2.1
theorem dX12_does_64 : decode cX12_does 64 = .ok (.getfield 106, 3) := dGX12_288.2.2.2.1
theorem dX12_does_67 : decode cX12_does 67 = .ok (.iload_n 3, 1) := dGX12_288.2.2.2.2.1
theorem dX12_does_68 : decode cX12_does 68 = .ok (.baload, 1) := dGX12_288.2.2.2.2.2
theorem dGX12_289 : decode cX12_does 69 = .ok (.bastore, 1) ∧ decode cX12_does 70 = .ok (.return_, 1) ∧ decode cX12_does 71 = .ok (.aload_n 0, 1) ∧ decode cX12_does 72 = .ok (.getfield 106, 3) ∧ decode cX12_does 75 = .ok (.iload_n 2, 1) ∧ decode cX12_does 76 = .ok (.aload_n 0, 1) := by decide +kernel
theorem dX12_does_69 : decode cX12_does 69 = .ok (.bastore, 1) := dGX12_289.1
theorem dX12_does_70 : decode cX12_does 70 = .ok (.return_, 1) := dGX12_289.2.1
theorem dX12_does_71 : decode cX12_does 71 = .ok (.aload_n 0, 1) := dGX12_289.2.2.1
theorem dX12_does_72 : decode cX12_does 72 = .ok (.getfield 106, 3) := dGX12_289.2.2.2.1
theorem dX12_does_75 : decode cX12_does 75 = .ok (.iload_n 2, 1) := dGX12_289.2.2.2.2.1
theorem dX12_does_76 : decode cX12_does 76 = .ok (.aload_n 0, 1) := dGX12_289.2.2.2.2.2
theorem dGX12_290 : decode cX12_does 77 = .ok (.getfield 106, 3) ∧ decode cX12_does 80 = .ok (.iload_n 2, 1) ∧ decode cX12_does 81 = .ok (.baload, 1) ∧ decode cX12_does 82 = .ok (.ifCond .ne 33, 3) ∧ decode cX12_does 85 = .ok (.aload_n 0, 1) ∧ decode cX12_does 86 = .ok (.getfield 106, 3) := by decide +kernel
theorem dX12_does_77 : decode cX12_does 77 = .ok (.getfield 106, 3) := dGX12_290.1
theorem dX12_does_80 : decode cX12_does 80 = .ok (.iload_n 2, 1) := dGX12_290.2.1
theorem dX12_does_81 : decode cX12_does 81 = .ok (.baload, 1) := dGX12_290.2.2.1
theorem dX12_does_82 : decode cX12_does 82 = .ok (.ifCond .ne 33, 3) := dGX12_290.2.2.2.1
theorem dX12_does_85 : decode cX12_does 85 = .ok (.aload_n 0, 1) := dGX12_290.2.2.2.2.1
theorem dX12_does_86 : decode cX12_does 86 = .ok (.getfield 106, 3) := dGX12_290.2.2.2.2.2
theorem dGX12_291 : decode cX12_does 89 = .ok (.iload_n 3, 1) ∧ decode cX12_does 90 = .ok (.baload, 1) ∧ decode cX12_does 91 = .ok (.ifCond .ne 24, 3) ∧ decode cX12_does 94 = .ok (.iload_n 1, 1) ∧ decode cX12_does 95 = .ok (.bipush 47, 2) ∧ decode cX12_does 97 = .ok (.if_icmp .eq 9, 3) := by decide +kernel
theorem dX12_does_89 : decode cX12_does 89 = .ok (.iload_n 3, 1) := dGX12_291.1
theorem dX12_does_90 : decode cX12_does 90 = .ok (.baload, 1) := dGX12_291.2.1
theorem dX12_does_91 : decode cX12_does 91 = .ok (.ifCond .ne 24, 3) := dGX12_291.2.2.1
theorem dX12_does_94 : decode cX12_does 94 = .ok (.iload_n 1, 1) := dGX12_291.2.2.2.1
theorem dX12_does_95 : decode cX12_does 95 = .ok (.bipush 47, 2) := dGX12_291.2.2.2.2.1
theorem dX12_does_97 : decode cX12_does 97 = .ok (.if_icmp .eq 9, 3) := dGX12_291.2.2.2.2.2
theorem dGX12_292 : decode cX12_does 100 = .ok (.iload_n 1, 1) ∧ decode cX12_does 101 = .ok (.bipush 37, 2) ∧ decode cX12_does 103 = .ok (.if_icmp .ne 16, 3) ∧ decode cX12_does 106 = .ok (.aload_n 0, 1) ∧ decode cX12_does 107 = .ok (.getfield 103, 3) ∧ decode cX12_does 110 = .ok (.iload_n 3, 1) := by decide +kernel
theorem dX12_does_100 : decode cX12_does 100 = .ok (.iload_n 1, 1) := dGX12_292.1
theorem dX12_does_101 : decode cX12_does 101 = .ok (.bipush 37, 2) := dGX12_292.2.1
theorem dX12_does_103 : decode cX12_does 103 = .ok (.if_icmp .ne 16, 3) := dGX12_292.2.2.1
theorem dX12_does_106 : decode cX12_does 106 = .ok (.aload_n 0, 1) := dGX12_292.2.2.2.1
theorem dX12_does_107 : decode cX12_does 107 = .ok (.getfield 103, 3) := dGX12_292.2.2.2.2.1
theorem dX12_does_110 : decode cX12_does 110 = .ok (.iload_n 3, 1) := dGX12_292.2.2.2.2.2
theorem dGX12_293 : decode cX12_does 111 = .ok (.iaload, 1) ∧ decode cX12_does 112 = .ok (.ifCond .ne 7, 3) ∧ decode cX12_does 115 = .ok (.iconst 1, 1) ∧ decode cX12_does 116 = .ok (.goto 4, 3) ∧ decode cX12_does 119 = .ok (.iconst 0, 1) ∧ decode cX12_does 120 = .ok (.bastore, 1) := by decide +kernel
theorem dX12_does_111 : decode cX12_does 111 = .ok (.iaload, 1) := dGX12_293.1
theorem dX12_does_112 : decode cX12_does 112 = .ok (.ifCond .ne 7, 3) := dGX12_293.2.1
theorem dX12_does_115 : decode cX12_does 115 = .ok (.iconst 1, 1) := dGX12_293.2.2.1
theorem dX12_does_116 : decode cX12_does 116 = .ok (.goto 4, 3) := dGX12_293.2.2.2.1
theorem dX12_does_119 : decode cX12_does 119 = .ok (.iconst 0, 1) := dGX12_293.2.2.2.2.1
theorem dX12_does_120 : decode cX12_does 120 = .ok (.bastore, 1) := dGX12_293.2.2.2.2.2
theorem dGX12_294 : decode cX12_does 121 = .ok (.aload_n 0, 1) ∧ decode cX12_does 122 = .ok (.getfield 103, 3) ∧ decode cX12_does 125 = .ok (.iload_n 2, 1) ∧ decode cX12_does 126 = .ok (.iload_n 1, 1) ∧ decode cX12_does 127 = .ok (.aload_n 0, 1) ∧ decode cX12_does 128 = .ok (.getfield 103, 3) := by decide +kernel
theorem dX12_does_121 : decode cX12_does 121 = .ok (.aload_n 0, 1) := dGX12_294.1
theorem dX12_does_122 : decode cX12_does 122 = .ok (.getfield 103, 3) := dGX12_294.2.1
theorem dX12_does_125 : decode cX12_does 125 = .ok (.iload_n 2, 1) := dGX12_294.2.2.1
theorem dX12_does_126 : decode cX12_does 126 = .ok (.iload_n 1, 1) := dGX12_294.2.2.2.1
theorem dX12_does_127 : decode cX12_does 127 = .ok (.aload_n 0, 1) := dGX12_294.2.2.2.2.1
theorem dX12_does_128 : decode cX12_does 128 = .ok (.getfield 103, 3) := dGX12_294.2.2.2.2.2
theorem dGX12_295 : decode cX12_does 131 = .ok (.iload_n 2, 1) ∧ decode cX12_does 132 = .ok (.iaload, 1) ∧ decode cX12_does 133 = .ok (.aload_n 0, 1) ∧ decode cX12_does 134 = .ok (.getfield 103, 3) ∧ decode cX12_does 137 = .ok (.iload_n 3, 1) ∧ decode cX12_does 138 = .ok (.iaload, 1) := by decide +kernel
theorem dX12_does_131 : decode cX12_does 131 = .ok (.iload_n 2, 1) := dGX12_295.1
theorem dX12_does_132 : decode cX12_does 132 = .ok (.iaload, 1) := dGX12_295.2.1
theorem dX12_does_133 : decode cX12_does 133 = .ok (.aload_n 0, 1) := dGX12_295.2.2.1
theorem dX12_does_134 : decode cX12_does 134 = .ok (.getfield 103, 3) := dGX12_295.2.2.2.1
theorem dX12_does_137 : decode cX12_does 137 = .ok (.iload_n 3, 1) := dGX12_295.2.2.2.2.1
theorem dX12_does_138 : decode cX12_does 138 = .ok (.iaload, 1) := dGX12_295.2.2.2.2.2
theorem dGX12_296 : decode cX12_does 139 = .ok (.invokestatic 340, 3) ∧ decode cX12_does 142 = .ok (.iastore, 1) ∧ decode cX12_does 143 = .ok (.return_, 1) ∧ decode cX12_works 0 = .ok (.iconst 0, 1) ∧ decode cX12_works 1 = .ok (.istore_n 3, 1) ∧ decode cX12_works 2 = .ok (.iload_n 1, 1) := by decide +kernel
theorem dX12_does_139 : decode cX12_does 139 = .ok (.invokestatic 340, 3) := dGX12_296.1
theorem dX12_does_142 : decode cX12_does 142 = .ok (.iastore, 1) := dGX12_296.2.1
theorem dX12_does_143 : decode cX12_does 143 = .ok (.return_, 1) := dGX12_296.2.2.1
theorem dX12_works_0 : decode cX12_works 0 = .ok (.iconst 0, 1) := dGX12_296.2.2.2.1
theorem dX12_works_1 : decode cX12_works 1 = .ok (.istore_n 3, 1) := dGX12_296.2.2.2.2.1
theorem dX12_works_2 : decode cX12_works 2 = .ok (.iload_n 1, 1) := dGX12_296.2.2.2.2.2
theorem dGX12_297 : decode cX12_works 3 = .ok (.istore 4, 2) ∧ decode cX12_works 5 = .ok (.iload 4, 2) ∧ decode cX12_works 7 = .ok (.iload_n 2, 1) ∧ decode cX12_works 8 = .ok (.if_icmp .ge 119, 3) ∧ decode cX12_works 11 = .ok (.aload_n 0, 1) ∧ decode cX12_works 12 = .ok (.getfield 76, 3) := by decide +kernel
theorem dX12_works_3 : decode cX12_works 3 = .ok (.istore 4, 2) := dGX12_297.1
theorem dX12_works_5 : decode cX12_works 5 = .ok (.iload 4, 2) := dGX12_297.2.1
theorem dX12_works_7 : decode cX12_works 7 = .ok (.iload_n 2, 1) := dGX12_297.2.2.1
theorem dX12_works_8 : decode cX12_works 8 = .ok (.if_icmp .ge 119, 3) := dGX12_297.2.2.2.1
theorem dX12_works_11 : decode cX12_works 11 = .ok (.aload_n 0, 1) := dGX12_297.2.2.2.2.1
theorem dX12_works_12 : decode cX12_works 12 = .ok (.getfield 76, 3) := dGX12_297.2.2.2.2.2
theorem dGX12_298 : decode cX12_works 15 = .ok (.iload 4, 2) ∧ decode cX12_works 17 = .ok (.iaload, 1) ∧ decode cX12_works 18 = .ok (.iconst 2, 1) ∧ decode cX12_works 19 = .ok (.if_icmp .le 23, 3) ∧ decode cX12_works 22 = .ok (.iinc 3 (-1), 3) ∧ decode cX12_works 25 = .ok (.aload_n 0, 1) := by decide +kernel
theorem dX12_works_15 : decode cX12_works 15 = .ok (.iload 4, 2) := dGX12_298.1
theorem dX12_works_17 : decode cX12_works 17 = .ok (.iaload, 1) := dGX12_298.2.1
theorem dX12_works_18 : decode cX12_works 18 = .ok (.iconst 2, 1) := dGX12_298.2.2.1
theorem dX12_works_19 : decode cX12_works 19 = .ok (.if_icmp .le 23, 3) := dGX12_298.2.2.2.1
theorem dX12_works_22 : decode cX12_works 22 = .ok (.iinc 3 (-1), 3) := dGX12_298.2.2.2.2.1
theorem dX12_works_25 : decode cX12_works 25 = .ok (.aload_n 0, 1) := dGX12_298.2.2.2.2.2
theorem dGX12_299 : decode cX12_works 26 = .ok (.aload_n 0, 1) ∧ decode cX12_works 27 = .ok (.getfield 76, 3) ∧ decode cX12_works 30 = .ok (.iload 4, 2) ∧ decode cX12_works 32 = .ok (.iaload, 1) ∧ decode cX12_works 33 = .ok (.iload_n 3, 1) ∧ decode cX12_works 34 = .ok (.iconst 1, 1) := by decide +kernel
theorem dX12_works_26 : decode cX12_works 26 = .ok (.aload_n 0, 1) := dGX12_299.1
theorem dX12_works_27 : decode cX12_works 27 = .ok (.getfield 76, 3) := dGX12_299.2.1
theorem dX12_works_30 : decode cX12_works 30 = .ok (.iload 4, 2) := dGX12_299.2.2.1
theorem dX12_works_32 : decode cX12_works 32 = .ok (.iaload, 1) := dGX12_299.2.2.2.1
theorem dX12_works_33 : decode cX12_works 33 = .ok (.iload_n 3, 1) := dGX12_299.2.2.2.2.1
theorem dX12_works_34 : decode cX12_works 34 = .ok (.iconst 1, 1) := dGX12_299.2.2.2.2.2
theorem dGX12_300 : decode cX12_works 35 = .ok (.isub, 1) ∧ decode cX12_works 36 = .ok (.invokevirtual 344, 3) ∧ decode cX12_works 39 = .ok (.goto 82, 3) ∧ decode cX12_works 42 = .ok (.aload_n 0, 1) ∧ decode cX12_works 43 = .ok (.getfield 76, 3) ∧ decode cX12_works 46 = .ok (.iload 4, 2) := by decide +kernel
theorem dX12_works_35 : decode cX12_works 35 = .ok (.isub, 1) := dGX12_300.1
theorem dX12_works_36 : decode cX12_works 36 = .ok (.invokevirtual 344, 3) := dGX12_300.2.1
theorem dX12_works_39 : decode cX12_works 39 = .ok (.goto 82, 3) := dGX12_300.2.2.1
theorem dX12_works_42 : decode cX12_works 42 = .ok (.aload_n 0, 1) := dGX12_300.2.2.2.1
theorem dX12_works_43 : decode cX12_works 43 = .ok (.getfield 76, 3) := dGX12_300.2.2.2.2.1
theorem dX12_works_46 : decode cX12_works 46 = .ok (.iload 4, 2) := dGX12_300.2.2.2.2.2
theorem dGX12_301 : decode cX12_works 48 = .ok (.iaload, 1) ∧ decode cX12_works 49 = .ok (.iconst 2, 1) ∧ decode cX12_works 50 = .ok (.if_icmp .ne 24, 3) ∧ decode cX12_works 53 = .ok (.aload_n 0, 1) ∧ decode cX12_works 54 = .ok (.getfield 103, 3) ∧ decode cX12_works 57 = .ok (.iload_n 3, 1) := by decide +kernel
theorem dX12_works_48 : decode cX12_works 48 = .ok (.iaload, 1) := dGX12_301.1
theorem dX12_works_49 : decode cX12_works 49 = .ok (.iconst 2, 1) := dGX12_301.2.1
theorem dX12_works_50 : decode cX12_works 50 = .ok (.if_icmp .ne 24, 3) := dGX12_301.2.2.1
theorem dX12_works_53 : decode cX12_works 53 = .ok (.aload_n 0, 1) := dGX12_301.2.2.2.1
theorem dX12_works_54 : decode cX12_works 54 = .ok (.getfield 103, 3) := dGX12_301.2.2.2.2.1
theorem dX12_works_57 : decode cX12_works 57 = .ok (.iload_n 3, 1) := dGX12_301.2.2.2.2.2
theorem dGX12_302 : decode cX12_works 58 = .ok (.iconst 1, 1) ∧ decode cX12_works 59 = .ok (.isub, 1) ∧ decode cX12_works 60 = .ok (.iconst 1, 1) ∧ decode cX12_works 61 = .ok (.aload_n 0, 1) ∧ decode cX12_works 62 = .ok (.getfield 103, 3) ∧ decode cX12_works 65 = .ok (.iload_n 3, 1) := by decide +kernel
theorem dX12_works_58 : decode cX12_works 58 = .ok (.iconst 1, 1) := dGX12_302.1
theorem dX12_works_59 : decode cX12_works 59 = .ok (.isub, 1) := dGX12_302.2.1
theorem dX12_works_60 : decode cX12_works 60 = .ok (.iconst 1, 1) := dGX12_302.2.2.1
theorem dX12_works_61 : decode cX12_works 61 = .ok (.aload_n 0, 1) := dGX12_302.2.2.2.1
theorem dX12_works_62 : decode cX12_works 62 = .ok (.getfield 103, 3) := dGX12_302.2.2.2.2.1
theorem dX12_works_65 : decode cX12_works 65 = .ok (.iload_n 3, 1) := dGX12_302.2.2.2.2.2
theorem dGX12_303 : decode cX12_works 66 = .ok (.iconst 1, 1) ∧ decode cX12_works 67 = .ok (.isub, 1) ∧ decode cX12_works 68 = .ok (.iaload, 1) ∧ decode cX12_works 69 = .ok (.isub, 1) ∧ decode cX12_works 70 = .ok (.iastore, 1) ∧ decode cX12_works 71 = .ok (.goto 50, 3) := by decide +kernel
theorem dX12_works_66 : decode cX12_works 66 = .ok (.iconst 1, 1) := dGX12_303.1
theorem dX12_works_67 : decode cX12_works 67 = .ok (.isub, 1) := dGX12_303.2.1
theorem dX12_works_68 : decode cX12_works 68 = .ok (.iaload, 1) := dGX12_303.2.2.1
theorem dX12_works_69 : decode cX12_works 69 = .ok (.isub, 1) := dGX12_303.2.2.2.1
theorem dX12_works_70 : decode cX12_works 70 = .ok (.iastore, 1) := dGX12_303.2.2.2.2.1
theorem dX12_works_71 : decode cX12_works 71 = .ok (.goto 50, 3) := dGX12_303.2.2.2.2.2
theorem dGX12_304 : decode cX12_works 74 = .ok (.aload_n 0, 1) ∧ decode cX12_works 75 = .ok (.getfield 106, 3) ∧ decode cX12_works 78 = .ok (.iload_n 3, 1) ∧ decode cX12_works 79 = .ok (.iconst 0, 1) ∧ decode cX12_works 80 = .ok (.bastore, 1) ∧ decode cX12_works 81 = .ok (.aload_n 0, 1) := by decide +kernel
theorem dX12_works_74 : decode cX12_works 74 = .ok (.aload_n 0, 1) := dGX12_304.1
theorem dX12_works_75 : decode cX12_works 75 = .ok (.getfield 106, 3) := dGX12_304.2.1
theorem dX12_works_78 : decode cX12_works 78 = .ok (.iload_n 3, 1) := dGX12_304.2.2.1
theorem dX12_works_79 : decode cX12_works 79 = .ok (.iconst 0, 1) := dGX12_304.2.2.2.1
theorem dX12_works_80 : decode cX12_works 80 = .ok (.bastore, 1) := dGX12_304.2.2.2.2.1
theorem dX12_works_81 : decode cX12_works 81 = .ok (.aload_n 0, 1) := dGX12_304.2.2.2.2.2
theorem dGX12_305 : decode cX12_works 82 = .ok (.getfield 103, 3) ∧ decode cX12_works 85 = .ok (.iload_n 3, 1) ∧ decode cX12_works 86 = .ok (.aload_n 0, 1) ∧ decode cX12_works 87 = .ok (.getfield 76, 3) ∧ decode cX12_works 90 = .ok (.iload 4, 2) ∧ decode cX12_works 92 = .ok (.iaload, 1) := by decide +kernel
theorem dX12_works_82 : decode cX12_works 82 = .ok (.getfield 103, 3) := dGX12_305.1
theorem dX12_works_85 : decode cX12_works 85 = .ok (.iload_n 3, 1) := dGX12_305.2.1
theorem dX12_works_86 : decode cX12_works 86 = .ok (.aload_n 0, 1) := dGX12_305.2.2.1
theorem dX12_works_87 : decode cX12_works 87 = .ok (.getfield 76, 3) := dGX12_305.2.2.2.1
theorem dX12_works_90 : decode cX12_works 90 = .ok (.iload 4, 2) := dGX12_305.2.2.2.2.1
theorem dX12_works_92 : decode cX12_works 92 = .ok (.iaload, 1) := dGX12_305.2.2.2.2.2
theorem dGX12_306 : decode cX12_works 93 = .ok (.ifCond .ne 13, 3) ∧ decode cX12_works 96 = .ok (.aload_n 0, 1) ∧ decode cX12_works 97 = .ok (.getfield 79, 3) ∧ decode cX12_works 100 = .ok (.iload 4, 2) ∧ decode cX12_works 102 = .ok (.iaload, 1) ∧ decode cX12_works 103 = .ok (.goto 14, 3) := by decide +kernel
theorem dX12_works_93 : decode cX12_works 93 = .ok (.ifCond .ne 13, 3) := dGX12_306.1
theorem dX12_works_96 : decode cX12_works 96 = .ok (.aload_n 0, 1) := dGX12_306.2.1
theorem dX12_works_97 : decode cX12_works 97 = .ok (.getfield 79, 3) := dGX12_306.2.2.1
theorem dX12_works_100 : decode cX12_works 100 = .ok (.iload 4, 2) := dGX12_306.2.2.2.1
theorem dX12_works_102 : decode cX12_works 102 = .ok (.iaload, 1) := dGX12_306.2.2.2.2.1
theorem dX12_works_103 : decode cX12_works 103 = .ok (.goto 14, 3) := dGX12_306.2.2.2.2.2
theorem dGX12_307 : decode cX12_works 106 = .ok (.aload_n 0, 1) ∧ decode cX12_works 107 = .ok (.aload_n 0, 1) ∧ decode cX12_works 108 = .ok (.getfield 79, 3) ∧ decode cX12_works 111 = .ok (.iload 4, 2) ∧ decode cX12_works 113 = .ok (.iaload, 1) ∧ decode cX12_works 114 = .ok (.invokevirtual 347, 3) := by decide +kernel
theorem dX12_works_106 : decode cX12_works 106 = .ok (.aload_n 0, 1) := dGX12_307.1
theorem dX12_works_107 : decode cX12_works 107 = .ok (.aload_n 0, 1) := dGX12_307.2.1
theorem dX12_works_108 : decode cX12_works 108 = .ok (.getfield 79, 3) := dGX12_307.2.2.1
theorem dX12_works_111 : decode cX12_works 111 = .ok (.iload 4, 2) := dGX12_307.2.2.2.1
theorem dX12_works_113 : decode cX12_works 113 = .ok (.iaload, 1) := dGX12_307.2.2.2.2.1
theorem dX12_works_114 : decode cX12_works 114 = .ok (.invokevirtual 347, 3) := dGX12_307.2.2.2.2.2
theorem dGX12_308 : decode cX12_works 117 = .ok (.iastore, 1) ∧ decode cX12_works 118 = .ok (.iinc 3 1, 3) ∧ decode cX12_works 121 = .ok (.iinc 4 1, 3) ∧ decode cX12_works 124 = .ok (.goto (-119), 3) ∧ decode cX12_works 127 = .ok (.return_, 1) ∧ decode cX12_tells 0 = .ok (.aload_n 0, 1) := by decide +kernel
theorem dX12_works_117 : decode cX12_works 117 = .ok (.iastore, 1) := dGX12_308.1
theorem dX12_works_118 : decode cX12_works 118 = .ok (.iinc 3 1, 3) := dGX12_308.2.1
theorem dX12_works_121 : decode cX12_works 121 = .ok (.iinc 4 1, 3) := dGX12_308.2.2.1
theorem dX12_works_124 : decode cX12_works 124 = .ok (.goto (-119), 3) := dGX12_308.2.2.2.1
theorem dX12_works_127 : decode cX12_works 127 = .ok (.return_, 1) := dGX12_308.2.2.2.2.1
theorem dX12_tells_0 : decode cX12_tells 0 = .ok (.aload_n 0, 1) := dGX12_308.2.2.2.2.2
theorem dGX12_309 : decode cX12_tells 1 = .ok (.iload_n 2, 1) ∧ decode cX12_tells 2 = .ok (.putfield 327, 3) ∧ decode cX12_tells 5 = .ok (.aload_n 0, 1) ∧ decode cX12_tells 6 = .ok (.iload_n 3, 1) ∧ decode cX12_tells 7 = .ok (.putfield 324, 3) ∧ decode cX12_tells 10 = .ok (.iconst 0, 1) := by decide +kernel
theorem dX12_tells_1 : decode cX12_tells 1 = .ok (.iload_n 2, 1) := dGX12_309.1
theorem dX12_tells_2 : decode cX12_tells 2 = .ok (.putfield 327, 3) := dGX12_309.2.1
theorem dX12_tells_5 : decode cX12_tells 5 = .ok (.aload_n 0, 1) := dGX12_309.2.2.1
theorem dX12_tells_6 : decode cX12_tells 6 = .ok (.iload_n 3, 1) := dGX12_309.2.2.2.1
theorem dX12_tells_7 : decode cX12_tells 7 = .ok (.putfield 324, 3) := dGX12_309.2.2.2.2.1
theorem dX12_tells_10 : decode cX12_tells 10 = .ok (.iconst 0, 1) := dGX12_309.2.2.2.2.2
theorem dGX12_310 : decode cX12_tells 11 = .ok (.istore 5, 2) ∧ decode cX12_tells 13 = .ok (.iload 5, 2) ∧ decode cX12_tells 15 = .ok (.aload_n 0, 1) ∧ decode cX12_tells 16 = .ok (.getfield 321, 3) ∧ decode cX12_tells 19 = .ok (.if_icmp .ge 126, 3) ∧ decode cX12_tells 22 = .ok (.aload_n 0, 1) := by decide +kernel
theorem dX12_tells_11 : decode cX12_tells 11 = .ok (.istore 5, 2) := dGX12_310.1
theorem dX12_tells_13 : decode cX12_tells 13 = .ok (.iload 5, 2) := dGX12_310.2.1
theorem dX12_tells_15 : decode cX12_tells 15 = .ok (.aload_n 0, 1) := dGX12_310.2.2.1
theorem dX12_tells_16 : decode cX12_tells 16 = .ok (.getfield 321, 3) := dGX12_310.2.2.2.1
theorem dX12_tells_19 : decode cX12_tells 19 = .ok (.if_icmp .ge 126, 3) := dGX12_310.2.2.2.2.1
theorem dX12_tells_22 : decode cX12_tells 22 = .ok (.aload_n 0, 1) := dGX12_310.2.2.2.2.2
theorem dGX12_311 : decode cX12_tells 23 = .ok (.getfield 64, 3) ∧ decode cX12_tells 26 = .ok (.iload 5, 2) ∧ decode cX12_tells 28 = .ok (.iaload, 1) ∧ decode cX12_tells 29 = .ok (.iload_n 1, 1) ∧ decode cX12_tells 30 = .ok (.if_icmp .eq 6, 3) ∧ decode cX12_tells 33 = .ok (.goto 106, 3) := by decide +kernel
theorem dX12_tells_23 : decode cX12_tells 23 = .ok (.getfield 64, 3) := dGX12_311.1
theorem dX12_tells_26 : decode cX12_tells 26 = .ok (.iload 5, 2) := dGX12_311.2.1
theorem dX12_tells_28 : decode cX12_tells 28 = .ok (.iaload, 1) := dGX12_311.2.2.1
theorem dX12_tells_29 : decode cX12_tells 29 = .ok (.iload_n 1, 1) := dGX12_311.2.2.2.1
theorem dX12_tells_30 : decode cX12_tells 30 = .ok (.if_icmp .eq 6, 3) := dGX12_311.2.2.2.2.1
theorem dX12_tells_33 : decode cX12_tells 33 = .ok (.goto 106, 3) := dGX12_311.2.2.2.2.2
theorem dGX12_312 : decode cX12_tells 36 = .ok (.aload_n 0, 1) ∧ decode cX12_tells 37 = .ok (.aload_n 0, 1) ∧ decode cX12_tells 38 = .ok (.getfield 70, 3) ∧ decode cX12_tells 41 = .ok (.iload 5, 2) ∧ decode cX12_tells 43 = .ok (.iaload, 1) ∧ decode cX12_tells 44 = .ok (.aload_n 0, 1) := by decide +kernel
theorem dX12_tells_36 : decode cX12_tells 36 = .ok (.aload_n 0, 1) := dGX12_312.1
theorem dX12_tells_37 : decode cX12_tells 37 = .ok (.aload_n 0, 1) := dGX12_312.2.1
theorem dX12_tells_38 : decode cX12_tells 38 = .ok (.getfield 70, 3) := dGX12_312.2.2.1
theorem dX12_tells_41 : decode cX12_tells 41 = .ok (.iload 5, 2) := dGX12_312.2.2.2.1
theorem dX12_tells_43 : decode cX12_tells 43 = .ok (.iaload, 1) := dGX12_312.2.2.2.2.1
theorem dX12_tells_44 : decode cX12_tells 44 = .ok (.aload_n 0, 1) := dGX12_312.2.2.2.2.2
theorem dGX12_313 : decode cX12_tells 45 = .ok (.getfield 73, 3) ∧ decode cX12_tells 48 = .ok (.iload 5, 2) ∧ decode cX12_tells 50 = .ok (.iaload, 1) ∧ decode cX12_tells 51 = .ok (.invokevirtual 350, 3) ∧ decode cX12_tells 54 = .ok (.aload_n 0, 1) ∧ decode cX12_tells 55 = .ok (.getfield 106, 3) := by decide +kernel
theorem dX12_tells_45 : decode cX12_tells 45 = .ok (.getfield 73, 3) := dGX12_313.1
theorem dX12_tells_48 : decode cX12_tells 48 = .ok (.iload 5, 2) := dGX12_313.2.1
theorem dX12_tells_50 : decode cX12_tells 50 = .ok (.iaload, 1) := dGX12_313.2.2.1
theorem dX12_tells_51 : decode cX12_tells 51 = .ok (.invokevirtual 350, 3) := dGX12_313.2.2.2.1
theorem dX12_tells_54 : decode cX12_tells 54 = .ok (.aload_n 0, 1) := dGX12_313.2.2.2.2.1
theorem dX12_tells_55 : decode cX12_tells 55 = .ok (.getfield 106, 3) := dGX12_313.2.2.2.2.2
theorem dGX12_314 : decode cX12_tells 58 = .ok (.iconst 0, 1) ∧ decode cX12_tells 59 = .ok (.baload, 1) ∧ decode cX12_tells 60 = .ok (.ifCond .ne 79, 3) ∧ decode cX12_tells 63 = .ok (.aload_n 0, 1) ∧ decode cX12_tells 64 = .ok (.getfield 103, 3) ∧ decode cX12_tells 67 = .ok (.iconst 0, 1) := by decide +kernel
theorem dX12_tells_58 : decode cX12_tells 58 = .ok (.iconst 0, 1) := dGX12_314.1
theorem dX12_tells_59 : decode cX12_tells 59 = .ok (.baload, 1) := dGX12_314.2.1
theorem dX12_tells_60 : decode cX12_tells 60 = .ok (.ifCond .ne 79, 3) := dGX12_314.2.2.1
theorem dX12_tells_63 : decode cX12_tells 63 = .ok (.aload_n 0, 1) := dGX12_314.2.2.2.1
theorem dX12_tells_64 : decode cX12_tells 64 = .ok (.getfield 103, 3) := dGX12_314.2.2.2.2.1
theorem dX12_tells_67 : decode cX12_tells 67 = .ok (.iconst 0, 1) := dGX12_314.2.2.2.2.2
theorem dGX12_315 : decode cX12_tells 68 = .ok (.iaload, 1) ∧ decode cX12_tells 69 = .ok (.iconst 1, 1) ∧ decode cX12_tells 70 = .ok (.if_icmp .eq 6, 3) ∧ decode cX12_tells 73 = .ok (.goto 66, 3) ∧ decode cX12_tells 76 = .ok (.aload_n 0, 1) ∧ decode cX12_tells 77 = .ok (.aload_n 0, 1) := by decide +kernel
theorem dX12_tells_68 : decode cX12_tells 68 = .ok (.iaload, 1) := dGX12_315.1
theorem dX12_tells_69 : decode cX12_tells 69 = .ok (.iconst 1, 1) := dGX12_315.2.1
theorem dX12_tells_70 : decode cX12_tells 70 = .ok (.if_icmp .eq 6, 3) := dGX12_315.2.2.1
theorem dX12_tells_73 : decode cX12_tells 73 = .ok (.goto 66, 3) := dGX12_315.2.2.2.1
theorem dX12_tells_76 : decode cX12_tells 76 = .ok (.aload_n 0, 1) := dGX12_315.2.2.2.2.1
theorem dX12_tells_77 : decode cX12_tells 77 = .ok (.aload_n 0, 1) := dGX12_315.2.2.2.2.2
theorem dGX12_316 : decode cX12_tells 78 = .ok (.getfield 67, 3) ∧ decode cX12_tells 81 = .ok (.iload 5, 2) ∧ decode cX12_tells 83 = .ok (.iaload, 1) ∧ decode cX12_tells 84 = .ok (.aload_n 0, 1) ∧ decode cX12_tells 85 = .ok (.getfield 70, 3) ∧ decode cX12_tells 88 = .ok (.iload 5, 2) := by decide +kernel
theorem dX12_tells_78 : decode cX12_tells 78 = .ok (.getfield 67, 3) := dGX12_316.1
theorem dX12_tells_81 : decode cX12_tells 81 = .ok (.iload 5, 2) := dGX12_316.2.1
theorem dX12_tells_83 : decode cX12_tells 83 = .ok (.iaload, 1) := dGX12_316.2.2.1
theorem dX12_tells_84 : decode cX12_tells 84 = .ok (.aload_n 0, 1) := dGX12_316.2.2.2.1
theorem dX12_tells_85 : decode cX12_tells 85 = .ok (.getfield 70, 3) := dGX12_316.2.2.2.2.1
theorem dX12_tells_88 : decode cX12_tells 88 = .ok (.iload 5, 2) := dGX12_316.2.2.2.2.2
theorem dGX12_317 : decode cX12_tells 90 = .ok (.iaload, 1) ∧ decode cX12_tells 91 = .ok (.invokevirtual 350, 3) ∧ decode cX12_tells 94 = .ok (.aload_n 0, 1) ∧ decode cX12_tells 95 = .ok (.getfield 106, 3) ∧ decode cX12_tells 98 = .ok (.iconst 0, 1) ∧ decode cX12_tells 99 = .ok (.baload, 1) := by decide +kernel
theorem dX12_tells_90 : decode cX12_tells 90 = .ok (.iaload, 1) := dGX12_317.1
theorem dX12_tells_91 : decode cX12_tells 91 = .ok (.invokevirtual 350, 3) := dGX12_317.2.1
theorem dX12_tells_94 : decode cX12_tells 94 = .ok (.aload_n 0, 1) := dGX12_317.2.2.1
theorem dX12_tells_95 : decode cX12_tells 95 = .ok (.getfield 106, 3) := dGX12_317.2.2.2.1
theorem dX12_tells_98 : decode cX12_tells 98 = .ok (.iconst 0, 1) := dGX12_317.2.2.2.2.1
theorem dX12_tells_99 : decode cX12_tells 99 = .ok (.baload, 1) := dGX12_317.2.2.2.2.2
theorem dGX12_318 : decode cX12_tells 100 = .ok (.ifCond .eq 7, 3) ∧ decode cX12_tells 103 = .ok (.iconst 0, 1) ∧ decode cX12_tells 104 = .ok (.goto 9, 3) ∧ decode cX12_tells 107 = .ok (.aload_n 0, 1) ∧ decode cX12_tells 108 = .ok (.getfield 103, 3) ∧ decode cX12_tells 111 = .ok (.iconst 0, 1) := by decide +kernel
theorem dX12_tells_100 : decode cX12_tells 100 = .ok (.ifCond .eq 7, 3) := dGX12_318.1
theorem dX12_tells_103 : decode cX12_tells 103 = .ok (.iconst 0, 1) := dGX12_318.2.1
theorem dX12_tells_104 : decode cX12_tells 104 = .ok (.goto 9, 3) := dGX12_318.2.2.1
theorem dX12_tells_107 : decode cX12_tells 107 = .ok (.aload_n 0, 1) := dGX12_318.2.2.2.1
theorem dX12_tells_108 : decode cX12_tells 108 = .ok (.getfield 103, 3) := dGX12_318.2.2.2.2.1
theorem dX12_tells_111 : decode cX12_tells 111 = .ok (.iconst 0, 1) := dGX12_318.2.2.2.2.2
theorem dGX12_319 : decode cX12_tells 112 = .ok (.iaload, 1) ∧ decode cX12_tells 113 = .ok (.istore 6, 2) ∧ decode cX12_tells 115 = .ok (.iload 6, 2) ∧ decode cX12_tells 117 = .ok (.ifCond .ge 7, 3) ∧ decode cX12_tells 120 = .ok (.iconst 0, 1) ∧ decode cX12_tells 121 = .ok (.goto 17, 3) := by decide +kernel
theorem dX12_tells_112 : decode cX12_tells 112 = .ok (.iaload, 1) := dGX12_319.1
theorem dX12_tells_113 : decode cX12_tells 113 = .ok (.istore 6, 2) := dGX12_319.2.1
theorem dX12_tells_115 : decode cX12_tells 115 = .ok (.iload 6, 2) := dGX12_319.2.2.1
theorem dX12_tells_117 : decode cX12_tells 117 = .ok (.ifCond .ge 7, 3) := dGX12_319.2.2.2.1
theorem dX12_tells_120 : decode cX12_tells 120 = .ok (.iconst 0, 1) := dGX12_319.2.2.2.2.1
theorem dX12_tells_121 : decode cX12_tells 121 = .ok (.goto 17, 3) := dGX12_319.2.2.2.2.2
theorem dGX12_320 : decode cX12_tells 124 = .ok (.iload 6, 2) ∧ decode cX12_tells 126 = .ok (.iload 4, 2) ∧ decode cX12_tells 128 = .ok (.if_icmp .le 8, 3) ∧ decode cX12_tells 131 = .ok (.iload 4, 2) ∧ decode cX12_tells 133 = .ok (.goto 5, 3) ∧ decode cX12_tells 136 = .ok (.iload 6, 2) := by decide +kernel
theorem dX12_tells_124 : decode cX12_tells 124 = .ok (.iload 6, 2) := dGX12_320.1
theorem dX12_tells_126 : decode cX12_tells 126 = .ok (.iload 4, 2) := dGX12_320.2.1
theorem dX12_tells_128 : decode cX12_tells 128 = .ok (.if_icmp .le 8, 3) := dGX12_320.2.2.1
theorem dX12_tells_131 : decode cX12_tells 131 = .ok (.iload 4, 2) := dGX12_320.2.2.2.1
theorem dX12_tells_133 : decode cX12_tells 133 = .ok (.goto 5, 3) := dGX12_320.2.2.2.2.1
theorem dX12_tells_136 : decode cX12_tells 136 = .ok (.iload 6, 2) := dGX12_320.2.2.2.2.2
theorem dGX12_321 : decode cX12_tells 138 = .ok (.ireturn, 1) ∧ decode cX12_tells 139 = .ok (.iinc 5 1, 3) ∧ decode cX12_tells 142 = .ok (.goto (-129), 3) ∧ decode cX12_tells 145 = .ok (.iconst 0, 1) ∧ decode cX12_tells 146 = .ok (.ireturn, 1) ∧ decode cX12_less 0 = .ok (.iload_n 0, 1) := by decide +kernel
theorem dX12_tells_138 : decode cX12_tells 138 = .ok (.ireturn, 1) := dGX12_321.1
theorem dX12_tells_139 : decode cX12_tells 139 = .ok (.iinc 5 1, 3) := dGX12_321.2.1
theorem dX12_tells_142 : decode cX12_tells 142 = .ok (.goto (-129), 3) := dGX12_321.2.2.1
theorem dX12_tells_145 : decode cX12_tells 145 = .ok (.iconst 0, 1) := dGX12_321.2.2.2.1
theorem dX12_tells_146 : decode cX12_tells 146 = .ok (.ireturn, 1) := dGX12_321.2.2.2.2.1
theorem dX12_less_0 : decode cX12_less 0 = .ok (.iload_n 0, 1) := dGX12_321.2.2.2.2.2
theorem dGX12_322 : decode cX12_less 1 = .ok (.iload_n 1, 1) ∧ decode cX12_less 2 = .ok (.if_icmp .ge 7, 3) ∧ decode cX12_less 5 = .ok (.iload_n 0, 1) ∧ decode cX12_less 6 = .ok (.goto 4, 3) ∧ decode cX12_less 9 = .ok (.iload_n 1, 1) ∧ decode cX12_less 10 = .ok (.ireturn, 1) := by decide +kernel
theorem dX12_less_1 : decode cX12_less 1 = .ok (.iload_n 1, 1) := dGX12_322.1
theorem dX12_less_2 : decode cX12_less 2 = .ok (.if_icmp .ge 7, 3) := dGX12_322.2.1
theorem dX12_less_5 : decode cX12_less 5 = .ok (.iload_n 0, 1) := dGX12_322.2.2.1
theorem dX12_less_6 : decode cX12_less 6 = .ok (.goto 4, 3) := dGX12_322.2.2.2.1
theorem dX12_less_9 : decode cX12_less 9 = .ok (.iload_n 1, 1) := dGX12_322.2.2.2.2.1
theorem dX12_less_10 : decode cX12_less 10 = .ok (.ireturn, 1) := dGX12_322.2.2.2.2.2
theorem dGX12_323 : decode cX12_isFree 0 = .ok (.aload_n 0, 1) ∧ decode cX12_isFree 1 = .ok (.getfield 334, 3) ∧ decode cX12_isFree 4 = .ok (.bipush 100, 2) ∧ decode cX12_isFree 6 = .ok (.if_icmp .ge 15, 3) ∧ decode cX12_isFree 9 = .ok (.aload_n 0, 1) ∧ decode cX12_isFree 10 = .ok (.getfield 61, 3) := by decide +kernel
theorem dX12_isFree_0 : decode cX12_isFree 0 = .ok (.aload_n 0, 1) := dGX12_323.1
theorem dX12_isFree_1 : decode cX12_isFree 1 = .ok (.getfield 334, 3) := dGX12_323.2.1
theorem dX12_isFree_4 : decode cX12_isFree 4 = .ok (.bipush 100, 2) := dGX12_323.2.2.1
theorem dX12_isFree_6 : decode cX12_isFree 6 = .ok (.if_icmp .ge 15, 3) := dGX12_323.2.2.2.1
theorem dX12_isFree_9 : decode cX12_isFree 9 = .ok (.aload_n 0, 1) := dGX12_323.2.2.2.2.1
theorem dX12_isFree_10 : decode cX12_isFree 10 = .ok (.getfield 61, 3) := dGX12_323.2.2.2.2.2
theorem dGX12_324 : decode cX12_isFree 13 = .ok (.aload_n 0, 1) ∧ decode cX12_isFree 14 = .ok (.getfield 334, 3) ∧ decode cX12_isFree 17 = .ok (.baload, 1) ∧ decode cX12_isFree 18 = .ok (.ifCond .ne 50, 3) ∧ decode cX12_isFree 21 = .ok (.aload_n 0, 1) ∧ decode cX12_isFree 22 = .ok (.getfield 334, 3) := by decide +kernel
theorem dX12_isFree_13 : decode cX12_isFree 13 = .ok (.aload_n 0, 1) := dGX12_324.1
theorem dX12_isFree_14 : decode cX12_isFree 14 = .ok (.getfield 334, 3) := dGX12_324.2.1
theorem dX12_isFree_17 : decode cX12_isFree 17 = .ok (.baload, 1) := dGX12_324.2.2.1
theorem dX12_isFree_18 : decode cX12_isFree 18 = .ok (.ifCond .ne 50, 3) := dGX12_324.2.2.2.1
theorem dX12_isFree_21 : decode cX12_isFree 21 = .ok (.aload_n 0, 1) := dGX12_324.2.2.2.2.1
theorem dX12_isFree_22 : decode cX12_isFree 22 = .ok (.getfield 334, 3) := dGX12_324.2.2.2.2.2
theorem dGX12_325 : decode cX12_isFree 25 = .ok (.i2l, 1) ∧ decode cX12_isFree 26 = .ok (.aload_n 0, 1) ∧ decode cX12_isFree 27 = .ok (.getfield 353, 3) ∧ decode cX12_isFree 30 = .ok (.i2l, 1) ∧ decode cX12_isFree 31 = .ok (.aload_n 0, 1) ∧ decode cX12_isFree 32 = .ok (.getfield 353, 3) := by decide +kernel
theorem dX12_isFree_25 : decode cX12_isFree 25 = .ok (.i2l, 1) := dGX12_325.1
theorem dX12_isFree_26 : decode cX12_isFree 26 = .ok (.aload_n 0, 1) := dGX12_325.2.1
theorem dX12_isFree_27 : decode cX12_isFree 27 = .ok (.getfield 353, 3) := dGX12_325.2.2.1
theorem dX12_isFree_30 : decode cX12_isFree 30 = .ok (.i2l, 1) := dGX12_325.2.2.2.1
theorem dX12_isFree_31 : decode cX12_isFree 31 = .ok (.aload_n 0, 1) := dGX12_325.2.2.2.2.1
theorem dX12_isFree_32 : decode cX12_isFree 32 = .ok (.getfield 353, 3) := dGX12_325.2.2.2.2.2
theorem dGX12_326 : decode cX12_isFree 35 = .ok (.aload_n 0, 1) ∧ decode cX12_isFree 36 = .ok (.getfield 356, 3) ∧ decode cX12_isFree 39 = .ok (.iadd, 1) ∧ decode cX12_isFree 40 = .ok (.iconst 1, 1) ∧ decode cX12_isFree 41 = .ok (.isub, 1) ∧ decode cX12_isFree 42 = .ok (.i2l, 1) := by decide +kernel
theorem dX12_isFree_35 : decode cX12_isFree 35 = .ok (.aload_n 0, 1) := dGX12_326.1
theorem dX12_isFree_36 : decode cX12_isFree 36 = .ok (.getfield 356, 3) := dGX12_326.2.1
theorem dX12_isFree_39 : decode cX12_isFree 39 = .ok (.iadd, 1) := dGX12_326.2.2.1
theorem dX12_isFree_40 : decode cX12_isFree 40 = .ok (.iconst 1, 1) := dGX12_326.2.2.2.1
theorem dX12_isFree_41 : decode cX12_isFree 41 = .ok (.isub, 1) := dGX12_326.2.2.2.2.1
theorem dX12_isFree_42 : decode cX12_isFree 42 = .ok (.i2l, 1) := dGX12_326.2.2.2.2.2
theorem dGX12_327 : decode cX12_isFree 43 = .ok (.invokestatic 175, 3) ∧ decode cX12_isFree 46 = .ok (.ifCond .eq 26, 3) ∧ decode cX12_isFree 49 = .ok (.aload_n 0, 1) ∧ decode cX12_isFree 50 = .ok (.getfield 359, 3) ∧ decode cX12_isFree 53 = .ok (.aload_n 0, 1) ∧ decode cX12_isFree 54 = .ok (.getfield 334, 3) := by decide +kernel
theorem dX12_isFree_43 : decode cX12_isFree 43 = .ok (.invokestatic 175, 3) := dGX12_327.1
theorem dX12_isFree_46 : decode cX12_isFree 46 = .ok (.ifCond .eq 26, 3) := dGX12_327.2.1
theorem dX12_isFree_49 : decode cX12_isFree 49 = .ok (.aload_n 0, 1) := dGX12_327.2.2.1
theorem dX12_isFree_50 : decode cX12_isFree 50 = .ok (.getfield 359, 3) := dGX12_327.2.2.2.1
theorem dX12_isFree_53 : decode cX12_isFree 53 = .ok (.aload_n 0, 1) := dGX12_327.2.2.2.2.1
theorem dX12_isFree_54 : decode cX12_isFree 54 = .ok (.getfield 334, 3) := dGX12_327.2.2.2.2.2
theorem dGX12_328 : decode cX12_isFree 57 = .ok (.aload_n 0, 1) ∧ decode cX12_isFree 58 = .ok (.getfield 353, 3) ∧ decode cX12_isFree 61 = .ok (.isub, 1) ∧ decode cX12_isFree 62 = .ok (.invokestatic 362, 3) ∧ decode cX12_isFree 65 = .ok (.ifCond .eq 7, 3) ∧ decode cX12_isFree 68 = .ok (.iconst 1, 1) := by decide +kernel
theorem dX12_isFree_57 : decode cX12_isFree 57 = .ok (.aload_n 0, 1) := dGX12_328.1
theorem dX12_isFree_58 : decode cX12_isFree 58 = .ok (.getfield 353, 3) := dGX12_328.2.1
theorem dX12_isFree_61 : decode cX12_isFree 61 = .ok (.isub, 1) := dGX12_328.2.2.1
theorem dX12_isFree_62 : decode cX12_isFree 62 = .ok (.invokestatic 362, 3) := dGX12_328.2.2.2.1
theorem dX12_isFree_65 : decode cX12_isFree 65 = .ok (.ifCond .eq 7, 3) := dGX12_328.2.2.2.2.1
theorem dX12_isFree_68 : decode cX12_isFree 68 = .ok (.iconst 1, 1) := dGX12_328.2.2.2.2.2
theorem dGX12_329 : decode cX12_isFree 69 = .ok (.goto 4, 3) ∧ decode cX12_isFree 72 = .ok (.iconst 0, 1) ∧ decode cX12_isFree 73 = .ok (.ireturn, 1) ∧ decode cX12_whoBelow 0 = .ok (.iconst (-1), 1) ∧ decode cX12_whoBelow 1 = .ok (.istore_n 2, 1) ∧ decode cX12_whoBelow 2 = .ok (.iconst 0, 1) := by decide +kernel
theorem dX12_isFree_69 : decode cX12_isFree 69 = .ok (.goto 4, 3) := dGX12_329.1
theorem dX12_isFree_72 : decode cX12_isFree 72 = .ok (.iconst 0, 1) := dGX12_329.2.1
theorem dX12_isFree_73 : decode cX12_isFree 73 = .ok (.ireturn, 1) := dGX12_329.2.2.1
theorem dX12_whoBelow_0 : decode cX12_whoBelow 0 = .ok (.iconst (-1), 1) := dGX12_329.2.2.2.1
theorem dX12_whoBelow_1 : decode cX12_whoBelow 1 = .ok (.istore_n 2, 1) := dGX12_329.2.2.2.2.1
theorem dX12_whoBelow_2 : decode cX12_whoBelow 2 = .ok (.iconst 0, 1) := dGX12_329.2.2.2.2.2
theorem dGX12_330 : decode cX12_whoBelow 3 = .ok (.istore_n 3, 1) ∧ decode cX12_whoBelow 4 = .ok (.iload_n 3, 1) ∧ decode cX12_whoBelow 5 = .ok (.aload_n 0, 1) ∧ decode cX12_whoBelow 6 = .ok (.getfield 182, 3) ∧ decode cX12_whoBelow 9 = .ok (.if_icmp .ge 50, 3) ∧ decode cX12_whoBelow 12 = .ok (.aload_n 0, 1) := by decide +kernel
theorem dX12_whoBelow_3 : decode cX12_whoBelow 3 = .ok (.istore_n 3, 1) := dGX12_330.1
theorem dX12_whoBelow_4 : decode cX12_whoBelow 4 = .ok (.iload_n 3, 1) := dGX12_330.2.1
theorem dX12_whoBelow_5 : decode cX12_whoBelow 5 = .ok (.aload_n 0, 1) := dGX12_330.2.2.1
theorem dX12_whoBelow_6 : decode cX12_whoBelow 6 = .ok (.getfield 182, 3) := dGX12_330.2.2.2.1
theorem dX12_whoBelow_9 : decode cX12_whoBelow 9 = .ok (.if_icmp .ge 50, 3) := dGX12_330.2.2.2.2.1
theorem dX12_whoBelow_12 : decode cX12_whoBelow 12 = .ok (.aload_n 0, 1) := dGX12_330.2.2.2.2.2
theorem dGX12_331 : decode cX12_whoBelow 13 = .ok (.getfield 46, 3) ∧ decode cX12_whoBelow 16 = .ok (.iload_n 3, 1) ∧ decode cX12_whoBelow 17 = .ok (.iaload, 1) ∧ decode cX12_whoBelow 18 = .ok (.iload_n 1, 1) ∧ decode cX12_whoBelow 19 = .ok (.if_icmp .ne 34, 3) ∧ decode cX12_whoBelow 22 = .ok (.aload_n 0, 1) := by decide +kernel
theorem dX12_whoBelow_13 : decode cX12_whoBelow 13 = .ok (.getfield 46, 3) := dGX12_331.1
theorem dX12_whoBelow_16 : decode cX12_whoBelow 16 = .ok (.iload_n 3, 1) := dGX12_331.2.1
theorem dX12_whoBelow_17 : decode cX12_whoBelow 17 = .ok (.iaload, 1) := dGX12_331.2.2.1
theorem dX12_whoBelow_18 : decode cX12_whoBelow 18 = .ok (.iload_n 1, 1) := dGX12_331.2.2.2.1
theorem dX12_whoBelow_19 : decode cX12_whoBelow 19 = .ok (.if_icmp .ne 34, 3) := dGX12_331.2.2.2.2.1
theorem dX12_whoBelow_22 : decode cX12_whoBelow 22 = .ok (.aload_n 0, 1) := dGX12_331.2.2.2.2.2
theorem dGX12_332 : decode cX12_whoBelow 23 = .ok (.getfield 49, 3) ∧ decode cX12_whoBelow 26 = .ok (.iload_n 3, 1) ∧ decode cX12_whoBelow 27 = .ok (.baload, 1) ∧ decode cX12_whoBelow 28 = .ok (.ifCond .ne 25, 3) ∧ decode cX12_whoBelow 31 = .ok (.iload_n 2, 1) ∧ decode cX12_whoBelow 32 = .ok (.iconst (-1), 1) := by decide +kernel
theorem dX12_whoBelow_23 : decode cX12_whoBelow 23 = .ok (.getfield 49, 3) := dGX12_332.1
theorem dX12_whoBelow_26 : decode cX12_whoBelow 26 = .ok (.iload_n 3, 1) := dGX12_332.2.1
theorem dX12_whoBelow_27 : decode cX12_whoBelow 27 = .ok (.baload, 1) := dGX12_332.2.2.1
theorem dX12_whoBelow_28 : decode cX12_whoBelow 28 = .ok (.ifCond .ne 25, 3) := dGX12_332.2.2.2.1
theorem dX12_whoBelow_31 : decode cX12_whoBelow 31 = .ok (.iload_n 2, 1) := dGX12_332.2.2.2.2.1
theorem dX12_whoBelow_32 : decode cX12_whoBelow 32 = .ok (.iconst (-1), 1) := dGX12_332.2.2.2.2.2
theorem dGX12_333 : decode cX12_whoBelow 33 = .ok (.if_icmp .eq 18, 3) ∧ decode cX12_whoBelow 36 = .ok (.aload_n 0, 1) ∧ decode cX12_whoBelow 37 = .ok (.getfield 52, 3) ∧ decode cX12_whoBelow 40 = .ok (.iload_n 3, 1) ∧ decode cX12_whoBelow 41 = .ok (.iaload, 1) ∧ decode cX12_whoBelow 42 = .ok (.aload_n 0, 1) := by decide +kernel
theorem dX12_whoBelow_33 : decode cX12_whoBelow 33 = .ok (.if_icmp .eq 18, 3) := dGX12_333.1
theorem dX12_whoBelow_36 : decode cX12_whoBelow 36 = .ok (.aload_n 0, 1) := dGX12_333.2.1
theorem dX12_whoBelow_37 : decode cX12_whoBelow 37 = .ok (.getfield 52, 3) := dGX12_333.2.2.1
theorem dX12_whoBelow_40 : decode cX12_whoBelow 40 = .ok (.iload_n 3, 1) := dGX12_333.2.2.2.1
theorem dX12_whoBelow_41 : decode cX12_whoBelow 41 = .ok (.iaload, 1) := dGX12_333.2.2.2.2.1
theorem dX12_whoBelow_42 : decode cX12_whoBelow 42 = .ok (.aload_n 0, 1) := dGX12_333.2.2.2.2.2
theorem dGX12_334 : decode cX12_whoBelow 43 = .ok (.getfield 52, 3) ∧ decode cX12_whoBelow 46 = .ok (.iload_n 2, 1) ∧ decode cX12_whoBelow 47 = .ok (.iaload, 1) ∧ decode cX12_whoBelow 48 = .ok (.if_icmp .ge 5, 3) ∧ decode cX12_whoBelow 51 = .ok (.iload_n 3, 1) ∧ decode cX12_whoBelow 52 = .ok (.istore_n 2, 1) := by decide +kernel
theorem dX12_whoBelow_43 : decode cX12_whoBelow 43 = .ok (.getfield 52, 3) := dGX12_334.1
theorem dX12_whoBelow_46 : decode cX12_whoBelow 46 = .ok (.iload_n 2, 1) := dGX12_334.2.1
theorem dX12_whoBelow_47 : decode cX12_whoBelow 47 = .ok (.iaload, 1) := dGX12_334.2.2.1
theorem dX12_whoBelow_48 : decode cX12_whoBelow 48 = .ok (.if_icmp .ge 5, 3) := dGX12_334.2.2.2.1
theorem dX12_whoBelow_51 : decode cX12_whoBelow 51 = .ok (.iload_n 3, 1) := dGX12_334.2.2.2.2.1
theorem dX12_whoBelow_52 : decode cX12_whoBelow 52 = .ok (.istore_n 2, 1) := dGX12_334.2.2.2.2.2
theorem dGX12_335 : decode cX12_whoBelow 53 = .ok (.iinc 3 1, 3) ∧ decode cX12_whoBelow 56 = .ok (.goto (-52), 3) ∧ decode cX12_whoBelow 59 = .ok (.iload_n 2, 1) ∧ decode cX12_whoBelow 60 = .ok (.ireturn, 1) ∧ decode cX12_falls 0 = .ok (.aload_n 0, 1) ∧ decode cX12_falls 1 = .ok (.getfield 27, 3) := by decide +kernel
theorem dX12_whoBelow_53 : decode cX12_whoBelow 53 = .ok (.iinc 3 1, 3) := dGX12_335.1
theorem dX12_whoBelow_56 : decode cX12_whoBelow 56 = .ok (.goto (-52), 3) := dGX12_335.2.1
theorem dX12_whoBelow_59 : decode cX12_whoBelow 59 = .ok (.iload_n 2, 1) := dGX12_335.2.2.1
theorem dX12_whoBelow_60 : decode cX12_whoBelow 60 = .ok (.ireturn, 1) := dGX12_335.2.2.2.1
theorem dX12_falls_0 : decode cX12_falls 0 = .ok (.aload_n 0, 1) := dGX12_335.2.2.2.2.1
theorem dX12_falls_1 : decode cX12_falls 1 = .ok (.getfield 27, 3) := dGX12_335.2.2.2.2.2
theorem dGX12_336 : decode cX12_falls 4 = .ok (.iload_n 1, 1) ∧ decode cX12_falls 5 = .ok (.iaload, 1) ∧ decode cX12_falls 6 = .ok (.istore_n 2, 1) ∧ decode cX12_falls 7 = .ok (.aload_n 0, 1) ∧ decode cX12_falls 8 = .ok (.getfield 21, 3) ∧ decode cX12_falls 11 = .ok (.iload_n 2, 1) := by decide +kernel
theorem dX12_falls_4 : decode cX12_falls 4 = .ok (.iload_n 1, 1) := dGX12_336.1
theorem dX12_falls_5 : decode cX12_falls 5 = .ok (.iaload, 1) := dGX12_336.2.1
theorem dX12_falls_6 : decode cX12_falls 6 = .ok (.istore_n 2, 1) := dGX12_336.2.2.1
theorem dX12_falls_7 : decode cX12_falls 7 = .ok (.aload_n 0, 1) := dGX12_336.2.2.2.1
theorem dX12_falls_8 : decode cX12_falls 8 = .ok (.getfield 21, 3) := dGX12_336.2.2.2.2.1
theorem dX12_falls_11 : decode cX12_falls 11 = .ok (.iload_n 2, 1) := dGX12_336.2.2.2.2.2
theorem dGX12_337 : decode cX12_falls 12 = .ok (.dup2, 1) ∧ decode cX12_falls 13 = .ok (.iaload, 1) ∧ decode cX12_falls 14 = .ok (.iconst 1, 1) ∧ decode cX12_falls 15 = .ok (.isub, 1) ∧ decode cX12_falls 16 = .ok (.iastore, 1) ∧ decode cX12_falls 17 = .ok (.aload_n 0, 1) := by decide +kernel
theorem dX12_falls_12 : decode cX12_falls 12 = .ok (.dup2, 1) := dGX12_337.1
theorem dX12_falls_13 : decode cX12_falls 13 = .ok (.iaload, 1) := dGX12_337.2.1
theorem dX12_falls_14 : decode cX12_falls 14 = .ok (.iconst 1, 1) := dGX12_337.2.2.1
theorem dX12_falls_15 : decode cX12_falls 15 = .ok (.isub, 1) := dGX12_337.2.2.2.1
theorem dX12_falls_16 : decode cX12_falls 16 = .ok (.iastore, 1) := dGX12_337.2.2.2.2.1
theorem dX12_falls_17 : decode cX12_falls 17 = .ok (.aload_n 0, 1) := dGX12_337.2.2.2.2.2
theorem dGX12_338 : decode cX12_falls 18 = .ok (.getfield 40, 3) ∧ decode cX12_falls 21 = .ok (.iload_n 1, 1) ∧ decode cX12_falls 22 = .ok (.dup2, 1) ∧ decode cX12_falls 23 = .ok (.iaload, 1) ∧ decode cX12_falls 24 = .ok (.iconst 1, 1) ∧ decode cX12_falls 25 = .ok (.iadd, 1) := by decide +kernel
theorem dX12_falls_18 : decode cX12_falls 18 = .ok (.getfield 40, 3) := dGX12_338.1
theorem dX12_falls_21 : decode cX12_falls 21 = .ok (.iload_n 1, 1) := dGX12_338.2.1
theorem dX12_falls_22 : decode cX12_falls 22 = .ok (.dup2, 1) := dGX12_338.2.2.1
theorem dX12_falls_23 : decode cX12_falls 23 = .ok (.iaload, 1) := dGX12_338.2.2.2.1
theorem dX12_falls_24 : decode cX12_falls 24 = .ok (.iconst 1, 1) := dGX12_338.2.2.2.2.1
theorem dX12_falls_25 : decode cX12_falls 25 = .ok (.iadd, 1) := dGX12_338.2.2.2.2.2
theorem dGX12_339 : decode cX12_falls 26 = .ok (.iastore, 1) ∧ decode cX12_falls 27 = .ok (.aload_n 0, 1) ∧ decode cX12_falls 28 = .ok (.dup, 1) ∧ decode cX12_falls 29 = .ok (.getfield 366, 3) ∧ decode cX12_falls 32 = .ok (.iconst 1, 1) ∧ decode cX12_falls 33 = .ok (.iadd, 1) := by decide +kernel
theorem dX12_falls_26 : decode cX12_falls 26 = .ok (.iastore, 1) := dGX12_339.1
theorem dX12_falls_27 : decode cX12_falls 27 = .ok (.aload_n 0, 1) := dGX12_339.2.1
theorem dX12_falls_28 : decode cX12_falls 28 = .ok (.dup, 1) := dGX12_339.2.2.1
theorem dX12_falls_29 : decode cX12_falls 29 = .ok (.getfield 366, 3) := dGX12_339.2.2.2.1
theorem dX12_falls_32 : decode cX12_falls 32 = .ok (.iconst 1, 1) := dGX12_339.2.2.2.2.1
theorem dX12_falls_33 : decode cX12_falls 33 = .ok (.iadd, 1) := dGX12_339.2.2.2.2.2
theorem dGX12_340 : decode cX12_falls 34 = .ok (.putfield 366, 3) ∧ decode cX12_falls 37 = .ok (.aload_n 0, 1) ∧ decode cX12_falls 38 = .ok (.iload_n 2, 1) ∧ decode cX12_falls 39 = .ok (.invokevirtual 369, 3) ∧ decode cX12_falls 42 = .ok (.istore_n 3, 1) ∧ decode cX12_falls 43 = .ok (.iload_n 3, 1) := by decide +kernel
theorem dX12_falls_34 : decode cX12_falls 34 = .ok (.putfield 366, 3) := dGX12_340.1
theorem dX12_falls_37 : decode cX12_falls 37 = .ok (.aload_n 0, 1) := dGX12_340.2.1
theorem dX12_falls_38 : decode cX12_falls 38 = .ok (.iload_n 2, 1) := dGX12_340.2.2.1
theorem dX12_falls_39 : decode cX12_falls 39 = .ok (.invokevirtual 369, 3) := dGX12_340.2.2.2.1
theorem dX12_falls_42 : decode cX12_falls 42 = .ok (.istore_n 3, 1) := dGX12_340.2.2.2.2.1
theorem dX12_falls_43 : decode cX12_falls 43 = .ok (.iload_n 3, 1) := dGX12_340.2.2.2.2.2
theorem dGX12_341 : decode cX12_falls 44 = .ok (.iconst (-1), 1) ∧ decode cX12_falls 45 = .ok (.if_icmp .ne 14, 3) ∧ decode cX12_falls 48 = .ok (.aload_n 0, 1) ∧ decode cX12_falls 49 = .ok (.dup, 1) ∧ decode cX12_falls 50 = .ok (.getfield 372, 3) ∧ decode cX12_falls 53 = .ok (.iconst 1, 1) := by decide +kernel
theorem dX12_falls_44 : decode cX12_falls 44 = .ok (.iconst (-1), 1) := dGX12_341.1
theorem dX12_falls_45 : decode cX12_falls 45 = .ok (.if_icmp .ne 14, 3) := dGX12_341.2.1
theorem dX12_falls_48 : decode cX12_falls 48 = .ok (.aload_n 0, 1) := dGX12_341.2.2.1
theorem dX12_falls_49 : decode cX12_falls 49 = .ok (.dup, 1) := dGX12_341.2.2.2.1
theorem dX12_falls_50 : decode cX12_falls 50 = .ok (.getfield 372, 3) := dGX12_341.2.2.2.2.1
theorem dX12_falls_53 : decode cX12_falls 53 = .ok (.iconst 1, 1) := dGX12_341.2.2.2.2.2
theorem dGX12_342 : decode cX12_falls 54 = .ok (.iadd, 1) ∧ decode cX12_falls 55 = .ok (.putfield 372, 3) ∧ decode cX12_falls 58 = .ok (.return_, 1) ∧ decode cX12_falls 59 = .ok (.aload_n 0, 1) ∧ decode cX12_falls 60 = .ok (.bipush 108, 2) ∧ decode cX12_falls 62 = .ok (.iload_n 1, 1) := by decide +kernel
theorem dX12_falls_54 : decode cX12_falls 54 = .ok (.iadd, 1) := dGX12_342.1
theorem dX12_falls_55 : decode cX12_falls 55 = .ok (.putfield 372, 3) := dGX12_342.2.1
theorem dX12_falls_58 : decode cX12_falls 58 = .ok (.return_, 1) := dGX12_342.2.2.1
theorem dX12_falls_59 : decode cX12_falls 59 = .ok (.aload_n 0, 1) := dGX12_342.2.2.2.1
theorem dX12_falls_60 : decode cX12_falls 60 = .ok (.bipush 108, 2) := dGX12_342.2.2.2.2.1
theorem dX12_falls_62 : decode cX12_falls 62 = .ok (.iload_n 1, 1) := dGX12_342.2.2.2.2.2
theorem dGX12_343 : decode cX12_falls 63 = .ok (.iload_n 3, 1) ∧ decode cX12_falls 64 = .ok (.bipush 9, 2) ∧ decode cX12_falls 66 = .ok (.invokevirtual 375, 3) ∧ decode cX12_falls 69 = .ok (.istore 4, 2) ∧ decode cX12_falls 71 = .ok (.aload_n 0, 1) ∧ decode cX12_falls 72 = .ok (.bipush 100, 2) := by decide +kernel
theorem dX12_falls_63 : decode cX12_falls 63 = .ok (.iload_n 3, 1) := dGX12_343.1
theorem dX12_falls_64 : decode cX12_falls 64 = .ok (.bipush 9, 2) := dGX12_343.2.1
theorem dX12_falls_66 : decode cX12_falls 66 = .ok (.invokevirtual 375, 3) := dGX12_343.2.2.1
theorem dX12_falls_69 : decode cX12_falls 69 = .ok (.istore 4, 2) := dGX12_343.2.2.2.1
theorem dX12_falls_71 : decode cX12_falls 71 = .ok (.aload_n 0, 1) := dGX12_343.2.2.2.2.1
theorem dX12_falls_72 : decode cX12_falls 72 = .ok (.bipush 100, 2) := dGX12_343.2.2.2.2.2
theorem dGX12_344 : decode cX12_falls 74 = .ok (.iload_n 1, 1) ∧ decode cX12_falls 75 = .ok (.iload_n 3, 1) ∧ decode cX12_falls 76 = .ok (.bipush 99, 2) ∧ decode cX12_falls 78 = .ok (.invokevirtual 375, 3) ∧ decode cX12_falls 81 = .ok (.istore 5, 2) ∧ decode cX12_falls 83 = .ok (.aload_n 0, 1) := by decide +kernel
theorem dX12_falls_74 : decode cX12_falls 74 = .ok (.iload_n 1, 1) := dGX12_344.1
theorem dX12_falls_75 : decode cX12_falls 75 = .ok (.iload_n 3, 1) := dGX12_344.2.1
theorem dX12_falls_76 : decode cX12_falls 76 = .ok (.bipush 99, 2) := dGX12_344.2.2.1
theorem dX12_falls_78 : decode cX12_falls 78 = .ok (.invokevirtual 375, 3) := dGX12_344.2.2.2.1
theorem dX12_falls_81 : decode cX12_falls 81 = .ok (.istore 5, 2) := dGX12_344.2.2.2.2.1
theorem dX12_falls_83 : decode cX12_falls 83 = .ok (.aload_n 0, 1) := dGX12_344.2.2.2.2.2
theorem dGX12_345 : decode cX12_falls 84 = .ok (.getfield 52, 3) ∧ decode cX12_falls 87 = .ok (.iload_n 3, 1) ∧ decode cX12_falls 88 = .ok (.dup2, 1) ∧ decode cX12_falls 89 = .ok (.iaload, 1) ∧ decode cX12_falls 90 = .ok (.iconst 1, 1) ∧ decode cX12_falls 91 = .ok (.iadd, 1) := by decide +kernel
theorem dX12_falls_84 : decode cX12_falls 84 = .ok (.getfield 52, 3) := dGX12_345.1
theorem dX12_falls_87 : decode cX12_falls 87 = .ok (.iload_n 3, 1) := dGX12_345.2.1
theorem dX12_falls_88 : decode cX12_falls 88 = .ok (.dup2, 1) := dGX12_345.2.2.1
theorem dX12_falls_89 : decode cX12_falls 89 = .ok (.iaload, 1) := dGX12_345.2.2.2.1
theorem dX12_falls_90 : decode cX12_falls 90 = .ok (.iconst 1, 1) := dGX12_345.2.2.2.2.1
theorem dX12_falls_91 : decode cX12_falls 91 = .ok (.iadd, 1) := dGX12_345.2.2.2.2.2
theorem dGX12_346 : decode cX12_falls 92 = .ok (.iastore, 1) ∧ decode cX12_falls 93 = .ok (.aload_n 0, 1) ∧ decode cX12_falls 94 = .ok (.getfield 33, 3) ∧ decode cX12_falls 97 = .ok (.iconst 5, 1) ∧ decode cX12_falls 98 = .ok (.iload_n 1, 1) ∧ decode cX12_falls 99 = .ok (.imul, 1) := by decide +kernel
theorem dX12_falls_92 : decode cX12_falls 92 = .ok (.iastore, 1) := dGX12_346.1
theorem dX12_falls_93 : decode cX12_falls 93 = .ok (.aload_n 0, 1) := dGX12_346.2.1
theorem dX12_falls_94 : decode cX12_falls 94 = .ok (.getfield 33, 3) := dGX12_346.2.2.1
theorem dX12_falls_97 : decode cX12_falls 97 = .ok (.iconst 5, 1) := dGX12_346.2.2.2.1
theorem dX12_falls_98 : decode cX12_falls 98 = .ok (.iload_n 1, 1) := dGX12_346.2.2.2.2.1
theorem dX12_falls_99 : decode cX12_falls 99 = .ok (.imul, 1) := dGX12_346.2.2.2.2.2
theorem dGX12_347 : decode cX12_falls 100 = .ok (.aload_n 0, 1) ∧ decode cX12_falls 101 = .ok (.getfield 43, 3) ∧ decode cX12_falls 104 = .ok (.iload_n 3, 1) ∧ decode cX12_falls 105 = .ok (.iaload, 1) ∧ decode cX12_falls 106 = .ok (.iadd, 1) ∧ decode cX12_falls 107 = .ok (.bipush 99, 2) := by decide +kernel
theorem dX12_falls_100 : decode cX12_falls 100 = .ok (.aload_n 0, 1) := dGX12_347.1
theorem dX12_falls_101 : decode cX12_falls 101 = .ok (.getfield 43, 3) := dGX12_347.2.1
theorem dX12_falls_104 : decode cX12_falls 104 = .ok (.iload_n 3, 1) := dGX12_347.2.2.1
theorem dX12_falls_105 : decode cX12_falls 105 = .ok (.iaload, 1) := dGX12_347.2.2.2.1
theorem dX12_falls_106 : decode cX12_falls 106 = .ok (.iadd, 1) := dGX12_347.2.2.2.2.1
theorem dX12_falls_107 : decode cX12_falls 107 = .ok (.bipush 99, 2) := dGX12_347.2.2.2.2.2
theorem dGX12_348 : decode cX12_falls 109 = .ok (.aload_n 0, 1) ∧ decode cX12_falls 110 = .ok (.getfield 33, 3) ∧ decode cX12_falls 113 = .ok (.iconst 5, 1) ∧ decode cX12_falls 114 = .ok (.iload_n 1, 1) ∧ decode cX12_falls 115 = .ok (.imul, 1) ∧ decode cX12_falls 116 = .ok (.aload_n 0, 1) := by decide +kernel
theorem dX12_falls_109 : decode cX12_falls 109 = .ok (.aload_n 0, 1) := dGX12_348.1
theorem dX12_falls_110 : decode cX12_falls 110 = .ok (.getfield 33, 3) := dGX12_348.2.1
theorem dX12_falls_113 : decode cX12_falls 113 = .ok (.iconst 5, 1) := dGX12_348.2.2.1
theorem dX12_falls_114 : decode cX12_falls 114 = .ok (.iload_n 1, 1) := dGX12_348.2.2.2.1
theorem dX12_falls_115 : decode cX12_falls 115 = .ok (.imul, 1) := dGX12_348.2.2.2.2.1
theorem dX12_falls_116 : decode cX12_falls 116 = .ok (.aload_n 0, 1) := dGX12_348.2.2.2.2.2
theorem dGX12_349 : decode cX12_falls 117 = .ok (.getfield 43, 3) ∧ decode cX12_falls 120 = .ok (.iload_n 3, 1) ∧ decode cX12_falls 121 = .ok (.iaload, 1) ∧ decode cX12_falls 122 = .ok (.iadd, 1) ∧ decode cX12_falls 123 = .ok (.iaload, 1) ∧ decode cX12_falls 124 = .ok (.iload 4, 2) := by decide +kernel
theorem dX12_falls_117 : decode cX12_falls 117 = .ok (.getfield 43, 3) := dGX12_349.1
theorem dX12_falls_120 : decode cX12_falls 120 = .ok (.iload_n 3, 1) := dGX12_349.2.1
theorem dX12_falls_121 : decode cX12_falls 121 = .ok (.iaload, 1) := dGX12_349.2.2.1
theorem dX12_falls_122 : decode cX12_falls 122 = .ok (.iadd, 1) := dGX12_349.2.2.2.1
theorem dX12_falls_123 : decode cX12_falls 123 = .ok (.iaload, 1) := dGX12_349.2.2.2.2.1
theorem dX12_falls_124 : decode cX12_falls 124 = .ok (.iload 4, 2) := dGX12_349.2.2.2.2.2
theorem dGX12_350 : decode cX12_falls 126 = .ok (.iadd, 1) ∧ decode cX12_falls 127 = .ok (.invokestatic 379, 3) ∧ decode cX12_falls 130 = .ok (.iastore, 1) ∧ decode cX12_falls 131 = .ok (.aload_n 0, 1) ∧ decode cX12_falls 132 = .ok (.getfield 55, 3) ∧ decode cX12_falls 135 = .ok (.bipush 8, 2) := by decide +kernel
theorem dX12_falls_126 : decode cX12_falls 126 = .ok (.iadd, 1) := dGX12_350.1
theorem dX12_falls_127 : decode cX12_falls 127 = .ok (.invokestatic 379, 3) := dGX12_350.2.1
theorem dX12_falls_130 : decode cX12_falls 130 = .ok (.iastore, 1) := dGX12_350.2.2.1
theorem dX12_falls_131 : decode cX12_falls 131 = .ok (.aload_n 0, 1) := dGX12_350.2.2.2.1
theorem dX12_falls_132 : decode cX12_falls 132 = .ok (.getfield 55, 3) := dGX12_350.2.2.2.2.1
theorem dX12_falls_135 : decode cX12_falls 135 = .ok (.bipush 8, 2) := dGX12_350.2.2.2.2.2
theorem dGX12_351 : decode cX12_falls 137 = .ok (.iload_n 1, 1) ∧ decode cX12_falls 138 = .ok (.imul, 1) ∧ decode cX12_falls 139 = .ok (.iload_n 3, 1) ∧ decode cX12_falls 140 = .ok (.iadd, 1) ∧ decode cX12_falls 141 = .ok (.dup2, 1) ∧ decode cX12_falls 142 = .ok (.iaload, 1) := by decide +kernel
theorem dX12_falls_137 : decode cX12_falls 137 = .ok (.iload_n 1, 1) := dGX12_351.1
theorem dX12_falls_138 : decode cX12_falls 138 = .ok (.imul, 1) := dGX12_351.2.1
theorem dX12_falls_139 : decode cX12_falls 139 = .ok (.iload_n 3, 1) := dGX12_351.2.2.1
theorem dX12_falls_140 : decode cX12_falls 140 = .ok (.iadd, 1) := dGX12_351.2.2.2.1
theorem dX12_falls_141 : decode cX12_falls 141 = .ok (.dup2, 1) := dGX12_351.2.2.2.2.1
theorem dX12_falls_142 : decode cX12_falls 142 = .ok (.iaload, 1) := dGX12_351.2.2.2.2.2
theorem dGX12_352 : decode cX12_falls 143 = .ok (.iload 5, 2) ∧ decode cX12_falls 145 = .ok (.iadd, 1) ∧ decode cX12_falls 146 = .ok (.iastore, 1) ∧ decode cX12_falls 147 = .ok (.aload_n 0, 1) ∧ decode cX12_falls 148 = .ok (.getfield 58, 3) ∧ decode cX12_falls 151 = .ok (.bipush 8, 2) := by decide +kernel
theorem dX12_falls_143 : decode cX12_falls 143 = .ok (.iload 5, 2) := dGX12_352.1
theorem dX12_falls_145 : decode cX12_falls 145 = .ok (.iadd, 1) := dGX12_352.2.1
theorem dX12_falls_146 : decode cX12_falls 146 = .ok (.iastore, 1) := dGX12_352.2.2.1
theorem dX12_falls_147 : decode cX12_falls 147 = .ok (.aload_n 0, 1) := dGX12_352.2.2.2.1
theorem dX12_falls_148 : decode cX12_falls 148 = .ok (.getfield 58, 3) := dGX12_352.2.2.2.2.1
theorem dX12_falls_151 : decode cX12_falls 151 = .ok (.bipush 8, 2) := dGX12_352.2.2.2.2.2
theorem dGX12_353 : decode cX12_falls 153 = .ok (.iload_n 1, 1) ∧ decode cX12_falls 154 = .ok (.imul, 1) ∧ decode cX12_falls 155 = .ok (.iload_n 3, 1) ∧ decode cX12_falls 156 = .ok (.iadd, 1) ∧ decode cX12_falls 157 = .ok (.dup2, 1) ∧ decode cX12_falls 158 = .ok (.iaload, 1) := by decide +kernel
theorem dX12_falls_153 : decode cX12_falls 153 = .ok (.iload_n 1, 1) := dGX12_353.1
theorem dX12_falls_154 : decode cX12_falls 154 = .ok (.imul, 1) := dGX12_353.2.1
theorem dX12_falls_155 : decode cX12_falls 155 = .ok (.iload_n 3, 1) := dGX12_353.2.2.1
theorem dX12_falls_156 : decode cX12_falls 156 = .ok (.iadd, 1) := dGX12_353.2.2.2.1
theorem dX12_falls_157 : decode cX12_falls 157 = .ok (.dup2, 1) := dGX12_353.2.2.2.2.1
theorem dX12_falls_158 : decode cX12_falls 158 = .ok (.iaload, 1) := dGX12_353.2.2.2.2.2
theorem dGX12_354 : decode cX12_falls 159 = .ok (.iconst 1, 1) ∧ decode cX12_falls 160 = .ok (.iadd, 1) ∧ decode cX12_falls 161 = .ok (.iastore, 1) ∧ decode cX12_falls 162 = .ok (.return_, 1) ∧ decode cX12_worksOne 0 = .ok (.aload_n 0, 1) ∧ decode cX12_worksOne 1 = .ok (.iload_n 1, 1) := by decide +kernel
theorem dX12_falls_159 : decode cX12_falls 159 = .ok (.iconst 1, 1) := dGX12_354.1
theorem dX12_falls_160 : decode cX12_falls 160 = .ok (.iadd, 1) := dGX12_354.2.1
theorem dX12_falls_161 : decode cX12_falls 161 = .ok (.iastore, 1) := dGX12_354.2.2.1
theorem dX12_falls_162 : decode cX12_falls 162 = .ok (.return_, 1) := dGX12_354.2.2.2.1
theorem dX12_worksOne_0 : decode cX12_worksOne 0 = .ok (.aload_n 0, 1) := dGX12_354.2.2.2.2.1
theorem dX12_worksOne_1 : decode cX12_worksOne 1 = .ok (.iload_n 1, 1) := dGX12_354.2.2.2.2.2
theorem dGX12_355 : decode cX12_worksOne 2 = .ok (.putfield 337, 3) ∧ decode cX12_worksOne 5 = .ok (.iconst 0, 1) ∧ decode cX12_worksOne 6 = .ok (.istore_n 2, 1) ∧ decode cX12_worksOne 7 = .ok (.iload_n 2, 1) ∧ decode cX12_worksOne 8 = .ok (.aload_n 0, 1) ∧ decode cX12_worksOne 9 = .ok (.getfield 179, 3) := by decide +kernel
theorem dX12_worksOne_2 : decode cX12_worksOne 2 = .ok (.putfield 337, 3) := dGX12_355.1
theorem dX12_worksOne_5 : decode cX12_worksOne 5 = .ok (.iconst 0, 1) := dGX12_355.2.1
theorem dX12_worksOne_6 : decode cX12_worksOne 6 = .ok (.istore_n 2, 1) := dGX12_355.2.2.1
theorem dX12_worksOne_7 : decode cX12_worksOne 7 = .ok (.iload_n 2, 1) := dGX12_355.2.2.2.1
theorem dX12_worksOne_8 : decode cX12_worksOne 8 = .ok (.aload_n 0, 1) := dGX12_355.2.2.2.2.1
theorem dX12_worksOne_9 : decode cX12_worksOne 9 = .ok (.getfield 179, 3) := dGX12_355.2.2.2.2.2
theorem dGX12_356 : decode cX12_worksOne 12 = .ok (.if_icmp .ge 70, 3) ∧ decode cX12_worksOne 15 = .ok (.aload_n 0, 1) ∧ decode cX12_worksOne 16 = .ok (.getfield 27, 3) ∧ decode cX12_worksOne 19 = .ok (.iload_n 2, 1) ∧ decode cX12_worksOne 20 = .ok (.iaload, 1) ∧ decode cX12_worksOne 21 = .ok (.bipush 10, 2) := by decide +kernel
theorem dX12_worksOne_12 : decode cX12_worksOne 12 = .ok (.if_icmp .ge 70, 3) := dGX12_356.1
theorem dX12_worksOne_15 : decode cX12_worksOne 15 = .ok (.aload_n 0, 1) := dGX12_356.2.1
theorem dX12_worksOne_16 : decode cX12_worksOne 16 = .ok (.getfield 27, 3) := dGX12_356.2.2.1
theorem dX12_worksOne_19 : decode cX12_worksOne 19 = .ok (.iload_n 2, 1) := dGX12_356.2.2.2.1
theorem dX12_worksOne_20 : decode cX12_worksOne 20 = .ok (.iaload, 1) := dGX12_356.2.2.2.2.1
theorem dX12_worksOne_21 : decode cX12_worksOne 21 = .ok (.bipush 10, 2) := dGX12_356.2.2.2.2.2
theorem dGX12_357 : decode cX12_worksOne 23 = .ok (.if_icmp .eq 53, 3) ∧ decode cX12_worksOne 26 = .ok (.aload_n 0, 1) ∧ decode cX12_worksOne 27 = .ok (.getfield 21, 3) ∧ decode cX12_worksOne 30 = .ok (.aload_n 0, 1) ∧ decode cX12_worksOne 31 = .ok (.getfield 27, 3) ∧ decode cX12_worksOne 34 = .ok (.iload_n 2, 1) := by decide +kernel
theorem dX12_worksOne_23 : decode cX12_worksOne 23 = .ok (.if_icmp .eq 53, 3) := dGX12_357.1
theorem dX12_worksOne_26 : decode cX12_worksOne 26 = .ok (.aload_n 0, 1) := dGX12_357.2.1
theorem dX12_worksOne_27 : decode cX12_worksOne 27 = .ok (.getfield 21, 3) := dGX12_357.2.2.1
theorem dX12_worksOne_30 : decode cX12_worksOne 30 = .ok (.aload_n 0, 1) := dGX12_357.2.2.2.1
theorem dX12_worksOne_31 : decode cX12_worksOne 31 = .ok (.getfield 27, 3) := dGX12_357.2.2.2.2.1
theorem dX12_worksOne_34 : decode cX12_worksOne 34 = .ok (.iload_n 2, 1) := dGX12_357.2.2.2.2.2
theorem dGX12_358 : decode cX12_worksOne 35 = .ok (.iaload, 1) ∧ decode cX12_worksOne 36 = .ok (.dup2, 1) ∧ decode cX12_worksOne 37 = .ok (.iaload, 1) ∧ decode cX12_worksOne 38 = .ok (.aload_n 0, 1) ∧ decode cX12_worksOne 39 = .ok (.getfield 17, 3) ∧ decode cX12_worksOne 42 = .ok (.aload_n 0, 1) := by decide +kernel
theorem dX12_worksOne_35 : decode cX12_worksOne 35 = .ok (.iaload, 1) := dGX12_358.1
theorem dX12_worksOne_36 : decode cX12_worksOne 36 = .ok (.dup2, 1) := dGX12_358.2.1
theorem dX12_worksOne_37 : decode cX12_worksOne 37 = .ok (.iaload, 1) := dGX12_358.2.2.1
theorem dX12_worksOne_38 : decode cX12_worksOne 38 = .ok (.aload_n 0, 1) := dGX12_358.2.2.2.1
theorem dX12_worksOne_39 : decode cX12_worksOne 39 = .ok (.getfield 17, 3) := dGX12_358.2.2.2.2.1
theorem dX12_worksOne_42 : decode cX12_worksOne 42 = .ok (.aload_n 0, 1) := dGX12_358.2.2.2.2.2
theorem dGX12_359 : decode cX12_worksOne 43 = .ok (.getfield 27, 3) ∧ decode cX12_worksOne 46 = .ok (.iload_n 2, 1) ∧ decode cX12_worksOne 47 = .ok (.iaload, 1) ∧ decode cX12_worksOne 48 = .ok (.iaload, 1) ∧ decode cX12_worksOne 49 = .ok (.aload_n 0, 1) ∧ decode cX12_worksOne 50 = .ok (.getfield 21, 3) := by decide +kernel
theorem dX12_worksOne_43 : decode cX12_worksOne 43 = .ok (.getfield 27, 3) := dGX12_359.1
theorem dX12_worksOne_46 : decode cX12_worksOne 46 = .ok (.iload_n 2, 1) := dGX12_359.2.1
theorem dX12_worksOne_47 : decode cX12_worksOne 47 = .ok (.iaload, 1) := dGX12_359.2.2.1
theorem dX12_worksOne_48 : decode cX12_worksOne 48 = .ok (.iaload, 1) := dGX12_359.2.2.2.1
theorem dX12_worksOne_49 : decode cX12_worksOne 49 = .ok (.aload_n 0, 1) := dGX12_359.2.2.2.2.1
theorem dX12_worksOne_50 : decode cX12_worksOne 50 = .ok (.getfield 21, 3) := dGX12_359.2.2.2.2.2
theorem dGX12_360 : decode cX12_worksOne 53 = .ok (.aload_n 0, 1) ∧ decode cX12_worksOne 54 = .ok (.getfield 27, 3) ∧ decode cX12_worksOne 57 = .ok (.iload_n 2, 1) ∧ decode cX12_worksOne 58 = .ok (.iaload, 1) ∧ decode cX12_worksOne 59 = .ok (.iaload, 1) ∧ decode cX12_worksOne 60 = .ok (.isub, 1) := by decide +kernel
theorem dX12_worksOne_53 : decode cX12_worksOne 53 = .ok (.aload_n 0, 1) := dGX12_360.1
theorem dX12_worksOne_54 : decode cX12_worksOne 54 = .ok (.getfield 27, 3) := dGX12_360.2.1
theorem dX12_worksOne_57 : decode cX12_worksOne 57 = .ok (.iload_n 2, 1) := dGX12_360.2.2.1
theorem dX12_worksOne_58 : decode cX12_worksOne 58 = .ok (.iaload, 1) := dGX12_360.2.2.2.1
theorem dX12_worksOne_59 : decode cX12_worksOne 59 = .ok (.iaload, 1) := dGX12_360.2.2.2.2.1
theorem dX12_worksOne_60 : decode cX12_worksOne 60 = .ok (.isub, 1) := dGX12_360.2.2.2.2.2
theorem dGX12_361 : decode cX12_worksOne 61 = .ok (.aload_n 0, 1) ∧ decode cX12_worksOne 62 = .ok (.bipush 109, 2) ∧ decode cX12_worksOne 64 = .ok (.iload_n 2, 1) ∧ decode cX12_worksOne 65 = .ok (.iconst (-1), 1) ∧ decode cX12_worksOne 66 = .ok (.bipush 9, 2) ∧ decode cX12_worksOne 68 = .ok (.invokevirtual 375, 3) := by decide +kernel
theorem dX12_worksOne_61 : decode cX12_worksOne 61 = .ok (.aload_n 0, 1) := dGX12_361.1
theorem dX12_worksOne_62 : decode cX12_worksOne 62 = .ok (.bipush 109, 2) := dGX12_361.2.1
theorem dX12_worksOne_64 : decode cX12_worksOne 64 = .ok (.iload_n 2, 1) := dGX12_361.2.2.1
theorem dX12_worksOne_65 : decode cX12_worksOne 65 = .ok (.iconst (-1), 1) := dGX12_361.2.2.2.1
theorem dX12_worksOne_66 : decode cX12_worksOne 66 = .ok (.bipush 9, 2) := dGX12_361.2.2.2.2.1
theorem dX12_worksOne_68 : decode cX12_worksOne 68 = .ok (.invokevirtual 375, 3) := dGX12_361.2.2.2.2.2
theorem dGX12_362 : decode cX12_worksOne 71 = .ok (.invokestatic 379, 3) ∧ decode cX12_worksOne 74 = .ok (.iadd, 1) ∧ decode cX12_worksOne 75 = .ok (.iastore, 1) ∧ decode cX12_worksOne 76 = .ok (.iinc 2 1, 3) ∧ decode cX12_worksOne 79 = .ok (.goto (-72), 3) ∧ decode cX12_worksOne 82 = .ok (.iconst 0, 1) := by decide +kernel
theorem dX12_worksOne_71 : decode cX12_worksOne 71 = .ok (.invokestatic 379, 3) := dGX12_362.1
theorem dX12_worksOne_74 : decode cX12_worksOne 74 = .ok (.iadd, 1) := dGX12_362.2.1
theorem dX12_worksOne_75 : decode cX12_worksOne 75 = .ok (.iastore, 1) := dGX12_362.2.2.1
theorem dX12_worksOne_76 : decode cX12_worksOne 76 = .ok (.iinc 2 1, 3) := dGX12_362.2.2.2.1
theorem dX12_worksOne_79 : decode cX12_worksOne 79 = .ok (.goto (-72), 3) := dGX12_362.2.2.2.2.1
theorem dX12_worksOne_82 : decode cX12_worksOne 82 = .ok (.iconst 0, 1) := dGX12_362.2.2.2.2.2
theorem dGX12_363 : decode cX12_worksOne 83 = .ok (.istore_n 2, 1) ∧ decode cX12_worksOne 84 = .ok (.iload_n 2, 1) ∧ decode cX12_worksOne 85 = .ok (.aload_n 0, 1) ∧ decode cX12_worksOne 86 = .ok (.getfield 179, 3) ∧ decode cX12_worksOne 89 = .ok (.if_icmp .ge 85, 3) ∧ decode cX12_worksOne 92 = .ok (.aload_n 0, 1) := by decide +kernel
theorem dX12_worksOne_83 : decode cX12_worksOne 83 = .ok (.istore_n 2, 1) := dGX12_363.1
theorem dX12_worksOne_84 : decode cX12_worksOne 84 = .ok (.iload_n 2, 1) := dGX12_363.2.1
theorem dX12_worksOne_85 : decode cX12_worksOne 85 = .ok (.aload_n 0, 1) := dGX12_363.2.2.1
theorem dX12_worksOne_86 : decode cX12_worksOne 86 = .ok (.getfield 179, 3) := dGX12_363.2.2.2.1
theorem dX12_worksOne_89 : decode cX12_worksOne 89 = .ok (.if_icmp .ge 85, 3) := dGX12_363.2.2.2.2.1
theorem dX12_worksOne_92 : decode cX12_worksOne 92 = .ok (.aload_n 0, 1) := dGX12_363.2.2.2.2.2
theorem dGX12_364 : decode cX12_worksOne 93 = .ok (.getfield 27, 3) ∧ decode cX12_worksOne 96 = .ok (.iload_n 2, 1) ∧ decode cX12_worksOne 97 = .ok (.iaload, 1) ∧ decode cX12_worksOne 98 = .ok (.bipush 10, 2) ∧ decode cX12_worksOne 100 = .ok (.if_icmp .ne 6, 3) ∧ decode cX12_worksOne 103 = .ok (.goto 65, 3) := by decide +kernel
theorem dX12_worksOne_93 : decode cX12_worksOne 93 = .ok (.getfield 27, 3) := dGX12_364.1
theorem dX12_worksOne_96 : decode cX12_worksOne 96 = .ok (.iload_n 2, 1) := dGX12_364.2.1
theorem dX12_worksOne_97 : decode cX12_worksOne 97 = .ok (.iaload, 1) := dGX12_364.2.2.1
theorem dX12_worksOne_98 : decode cX12_worksOne 98 = .ok (.bipush 10, 2) := dGX12_364.2.2.2.1
theorem dX12_worksOne_100 : decode cX12_worksOne 100 = .ok (.if_icmp .ne 6, 3) := dGX12_364.2.2.2.2.1
theorem dX12_worksOne_103 : decode cX12_worksOne 103 = .ok (.goto 65, 3) := dGX12_364.2.2.2.2.2
theorem dGX12_365 : decode cX12_worksOne 106 = .ok (.aload_n 0, 1) ∧ decode cX12_worksOne 107 = .ok (.bipush 102, 2) ∧ decode cX12_worksOne 109 = .ok (.iload_n 2, 1) ∧ decode cX12_worksOne 110 = .ok (.iconst (-1), 1) ∧ decode cX12_worksOne 111 = .ok (.bipush 9, 2) ∧ decode cX12_worksOne 113 = .ok (.invokevirtual 375, 3) := by decide +kernel
theorem dX12_worksOne_106 : decode cX12_worksOne 106 = .ok (.aload_n 0, 1) := dGX12_365.1
theorem dX12_worksOne_107 : decode cX12_worksOne 107 = .ok (.bipush 102, 2) := dGX12_365.2.1
theorem dX12_worksOne_109 : decode cX12_worksOne 109 = .ok (.iload_n 2, 1) := dGX12_365.2.2.1
theorem dX12_worksOne_110 : decode cX12_worksOne 110 = .ok (.iconst (-1), 1) := dGX12_365.2.2.2.1
theorem dX12_worksOne_111 : decode cX12_worksOne 111 = .ok (.bipush 9, 2) := dGX12_365.2.2.2.2.1
theorem dX12_worksOne_113 : decode cX12_worksOne 113 = .ok (.invokevirtual 375, 3) := dGX12_365.2.2.2.2.2
theorem dGX12_366 : decode cX12_worksOne 116 = .ok (.aload_n 0, 1) ∧ decode cX12_worksOne 117 = .ok (.getfield 36, 3) ∧ decode cX12_worksOne 120 = .ok (.iload_n 2, 1) ∧ decode cX12_worksOne 121 = .ok (.baload, 1) ∧ decode cX12_worksOne 122 = .ok (.ifCond .eq 7, 3) ∧ decode cX12_worksOne 125 = .ok (.iconst 1, 1) := by decide +kernel
theorem dX12_worksOne_116 : decode cX12_worksOne 116 = .ok (.aload_n 0, 1) := dGX12_366.1
theorem dX12_worksOne_117 : decode cX12_worksOne 117 = .ok (.getfield 36, 3) := dGX12_366.2.1
theorem dX12_worksOne_120 : decode cX12_worksOne 120 = .ok (.iload_n 2, 1) := dGX12_366.2.2.1
theorem dX12_worksOne_121 : decode cX12_worksOne 121 = .ok (.baload, 1) := dGX12_366.2.2.2.1
theorem dX12_worksOne_122 : decode cX12_worksOne 122 = .ok (.ifCond .eq 7, 3) := dGX12_366.2.2.2.2.1
theorem dX12_worksOne_125 : decode cX12_worksOne 125 = .ok (.iconst 1, 1) := dGX12_366.2.2.2.2.2
theorem dGX12_367 : decode cX12_worksOne 126 = .ok (.goto 4, 3) ∧ decode cX12_worksOne 129 = .ok (.iconst 0, 1) ∧ decode cX12_worksOne 130 = .ok (.isub, 1) ∧ decode cX12_worksOne 131 = .ok (.istore_n 3, 1) ∧ decode cX12_worksOne 132 = .ok (.iload_n 3, 1) ∧ decode cX12_worksOne 133 = .ok (.aload_n 0, 1) := by decide +kernel
theorem dX12_worksOne_126 : decode cX12_worksOne 126 = .ok (.goto 4, 3) := dGX12_367.1
theorem dX12_worksOne_129 : decode cX12_worksOne 129 = .ok (.iconst 0, 1) := dGX12_367.2.1
theorem dX12_worksOne_130 : decode cX12_worksOne 130 = .ok (.isub, 1) := dGX12_367.2.2.1
theorem dX12_worksOne_131 : decode cX12_worksOne 131 = .ok (.istore_n 3, 1) := dGX12_367.2.2.2.1
theorem dX12_worksOne_132 : decode cX12_worksOne 132 = .ok (.iload_n 3, 1) := dGX12_367.2.2.2.2.1
theorem dX12_worksOne_133 : decode cX12_worksOne 133 = .ok (.aload_n 0, 1) := dGX12_367.2.2.2.2.2
theorem dGX12_368 : decode cX12_worksOne 134 = .ok (.getfield 21, 3) ∧ decode cX12_worksOne 137 = .ok (.aload_n 0, 1) ∧ decode cX12_worksOne 138 = .ok (.getfield 27, 3) ∧ decode cX12_worksOne 141 = .ok (.iload_n 2, 1) ∧ decode cX12_worksOne 142 = .ok (.iaload, 1) ∧ decode cX12_worksOne 143 = .ok (.iaload, 1) := by decide +kernel
theorem dX12_worksOne_134 : decode cX12_worksOne 134 = .ok (.getfield 21, 3) := dGX12_368.1
theorem dX12_worksOne_137 : decode cX12_worksOne 137 = .ok (.aload_n 0, 1) := dGX12_368.2.1
theorem dX12_worksOne_138 : decode cX12_worksOne 138 = .ok (.getfield 27, 3) := dGX12_368.2.2.1
theorem dX12_worksOne_141 : decode cX12_worksOne 141 = .ok (.iload_n 2, 1) := dGX12_368.2.2.2.1
theorem dX12_worksOne_142 : decode cX12_worksOne 142 = .ok (.iaload, 1) := dGX12_368.2.2.2.2.1
theorem dX12_worksOne_143 : decode cX12_worksOne 143 = .ok (.iaload, 1) := dGX12_368.2.2.2.2.2
theorem dGX12_369 : decode cX12_worksOne 144 = .ok (.invokestatic 379, 3) ∧ decode cX12_worksOne 147 = .ok (.istore_n 3, 1) ∧ decode cX12_worksOne 148 = .ok (.iconst 0, 1) ∧ decode cX12_worksOne 149 = .ok (.istore 4, 2) ∧ decode cX12_worksOne 151 = .ok (.iload 4, 2) ∧ decode cX12_worksOne 153 = .ok (.iload_n 3, 1) := by decide +kernel
theorem dX12_worksOne_144 : decode cX12_worksOne 144 = .ok (.invokestatic 379, 3) := dGX12_369.1
theorem dX12_worksOne_147 : decode cX12_worksOne 147 = .ok (.istore_n 3, 1) := dGX12_369.2.1
theorem dX12_worksOne_148 : decode cX12_worksOne 148 = .ok (.iconst 0, 1) := dGX12_369.2.2.1
theorem dX12_worksOne_149 : decode cX12_worksOne 149 = .ok (.istore 4, 2) := dGX12_369.2.2.2.1
theorem dX12_worksOne_151 : decode cX12_worksOne 151 = .ok (.iload 4, 2) := dGX12_369.2.2.2.2.1
theorem dX12_worksOne_153 : decode cX12_worksOne 153 = .ok (.iload_n 3, 1) := dGX12_369.2.2.2.2.2
theorem dGX12_370 : decode cX12_worksOne 154 = .ok (.if_icmp .ge 14, 3) ∧ decode cX12_worksOne 157 = .ok (.aload_n 0, 1) ∧ decode cX12_worksOne 158 = .ok (.iload_n 2, 1) ∧ decode cX12_worksOne 159 = .ok (.invokevirtual 383, 3) ∧ decode cX12_worksOne 162 = .ok (.iinc 4 1, 3) ∧ decode cX12_worksOne 165 = .ok (.goto (-14), 3) := by decide +kernel
theorem dX12_worksOne_154 : decode cX12_worksOne 154 = .ok (.if_icmp .ge 14, 3) := dGX12_370.1
theorem dX12_worksOne_157 : decode cX12_worksOne 157 = .ok (.aload_n 0, 1) := dGX12_370.2.1
theorem dX12_worksOne_158 : decode cX12_worksOne 158 = .ok (.iload_n 2, 1) := dGX12_370.2.2.1
theorem dX12_worksOne_159 : decode cX12_worksOne 159 = .ok (.invokevirtual 383, 3) := dGX12_370.2.2.2.1
theorem dX12_worksOne_162 : decode cX12_worksOne 162 = .ok (.iinc 4 1, 3) := dGX12_370.2.2.2.2.1
theorem dX12_worksOne_165 : decode cX12_worksOne 165 = .ok (.goto (-14), 3) := dGX12_370.2.2.2.2.2
theorem dGX12_371 : decode cX12_worksOne 168 = .ok (.iinc 2 1, 3) ∧ decode cX12_worksOne 171 = .ok (.goto (-87), 3) ∧ decode cX12_worksOne 174 = .ok (.return_, 1) ∧ decode cX12_passes 0 = .ok (.aload_n 0, 1) ∧ decode cX12_passes 1 = .ok (.invokevirtual 386, 3) ∧ decode cX12_passes 4 = .ok (.ifCond .ne 8, 3) := by decide +kernel
theorem dX12_worksOne_168 : decode cX12_worksOne 168 = .ok (.iinc 2 1, 3) := dGX12_371.1
theorem dX12_worksOne_171 : decode cX12_worksOne 171 = .ok (.goto (-87), 3) := dGX12_371.2.1
theorem dX12_worksOne_174 : decode cX12_worksOne 174 = .ok (.return_, 1) := dGX12_371.2.2.1
theorem dX12_passes_0 : decode cX12_passes 0 = .ok (.aload_n 0, 1) := dGX12_371.2.2.2.1
theorem dX12_passes_1 : decode cX12_passes 1 = .ok (.invokevirtual 386, 3) := dGX12_371.2.2.2.2.1
theorem dX12_passes_4 : decode cX12_passes 4 = .ok (.ifCond .ne 8, 3) := dGX12_371.2.2.2.2.2
theorem dGX12_372 : decode cX12_passes 7 = .ok (.aload_n 0, 1) ∧ decode cX12_passes 8 = .ok (.iload_n 1, 1) ∧ decode cX12_passes 9 = .ok (.invokevirtual 389, 3) ∧ decode cX12_passes 12 = .ok (.aload_n 0, 1) ∧ decode cX12_passes 13 = .ok (.dup, 1) ∧ decode cX12_passes 14 = .ok (.getfield 334, 3) := by decide +kernel
theorem dX12_passes_7 : decode cX12_passes 7 = .ok (.aload_n 0, 1) := dGX12_372.1
theorem dX12_passes_8 : decode cX12_passes 8 = .ok (.iload_n 1, 1) := dGX12_372.2.1
theorem dX12_passes_9 : decode cX12_passes 9 = .ok (.invokevirtual 389, 3) := dGX12_372.2.2.1
theorem dX12_passes_12 : decode cX12_passes 12 = .ok (.aload_n 0, 1) := dGX12_372.2.2.2.1
theorem dX12_passes_13 : decode cX12_passes 13 = .ok (.dup, 1) := dGX12_372.2.2.2.2.1
theorem dX12_passes_14 : decode cX12_passes 14 = .ok (.getfield 334, 3) := dGX12_372.2.2.2.2.2
theorem dGX12_373 : decode cX12_passes 17 = .ok (.iconst 1, 1) ∧ decode cX12_passes 18 = .ok (.iadd, 1) ∧ decode cX12_passes 19 = .ok (.putfield 334, 3) ∧ decode cX12_passes 22 = .ok (.return_, 1) ∧ decode cX12_goesOn 0 = .ok (.iconst 0, 1) ∧ decode cX12_goesOn 1 = .ok (.istore_n 2, 1) := by decide +kernel
theorem dX12_passes_17 : decode cX12_passes 17 = .ok (.iconst 1, 1) := dGX12_373.1
theorem dX12_passes_18 : decode cX12_passes 18 = .ok (.iadd, 1) := dGX12_373.2.1
theorem dX12_passes_19 : decode cX12_passes 19 = .ok (.putfield 334, 3) := dGX12_373.2.2.1
theorem dX12_passes_22 : decode cX12_passes 22 = .ok (.return_, 1) := dGX12_373.2.2.2.1
theorem dX12_goesOn_0 : decode cX12_goesOn 0 = .ok (.iconst 0, 1) := dGX12_373.2.2.2.2.1
theorem dX12_goesOn_1 : decode cX12_goesOn 1 = .ok (.istore_n 2, 1) := dGX12_373.2.2.2.2.2
theorem dGX12_374 : decode cX12_goesOn 2 = .ok (.iload_n 2, 1) ∧ decode cX12_goesOn 3 = .ok (.iload_n 1, 1) ∧ decode cX12_goesOn 4 = .ok (.if_icmp .ge 40, 3) ∧ decode cX12_goesOn 7 = .ok (.aload_n 0, 1) ∧ decode cX12_goesOn 8 = .ok (.sipush 25173, 3) ∧ decode cX12_goesOn 11 = .ok (.aload_n 0, 1) := by decide +kernel
theorem dX12_goesOn_2 : decode cX12_goesOn 2 = .ok (.iload_n 2, 1) := dGX12_374.1
theorem dX12_goesOn_3 : decode cX12_goesOn 3 = .ok (.iload_n 1, 1) := dGX12_374.2.1
theorem dX12_goesOn_4 : decode cX12_goesOn 4 = .ok (.if_icmp .ge 40, 3) := dGX12_374.2.2.1
theorem dX12_goesOn_7 : decode cX12_goesOn 7 = .ok (.aload_n 0, 1) := dGX12_374.2.2.2.1
theorem dX12_goesOn_8 : decode cX12_goesOn 8 = .ok (.sipush 25173, 3) := dGX12_374.2.2.2.2.1
theorem dX12_goesOn_11 : decode cX12_goesOn 11 = .ok (.aload_n 0, 1) := dGX12_374.2.2.2.2.2
theorem dGX12_375 : decode cX12_goesOn 12 = .ok (.getfield 13, 3) ∧ decode cX12_goesOn 15 = .ok (.imul, 1) ∧ decode cX12_goesOn 16 = .ok (.sipush 13849, 3) ∧ decode cX12_goesOn 19 = .ok (.iadd, 1) ∧ decode cX12_goesOn 20 = .ok (.ldc_w 392, 3) ∧ decode cX12_goesOn 23 = .ok (.irem, 1) := by decide +kernel
theorem dX12_goesOn_12 : decode cX12_goesOn 12 = .ok (.getfield 13, 3) := dGX12_375.1
theorem dX12_goesOn_15 : decode cX12_goesOn 15 = .ok (.imul, 1) := dGX12_375.2.1
theorem dX12_goesOn_16 : decode cX12_goesOn 16 = .ok (.sipush 13849, 3) := dGX12_375.2.2.1
theorem dX12_goesOn_19 : decode cX12_goesOn 19 = .ok (.iadd, 1) := dGX12_375.2.2.2.1
theorem dX12_goesOn_20 : decode cX12_goesOn 20 = .ok (.ldc_w 392, 3) := dGX12_375.2.2.2.2.1
theorem dX12_goesOn_23 : decode cX12_goesOn 23 = .ok (.irem, 1) := dGX12_375.2.2.2.2.2
theorem dGX12_376 : decode cX12_goesOn 24 = .ok (.putfield 13, 3) ∧ decode cX12_goesOn 27 = .ok (.aload_n 0, 1) ∧ decode cX12_goesOn 28 = .ok (.aload_n 0, 1) ∧ decode cX12_goesOn 29 = .ok (.getfield 13, 3) ∧ decode cX12_goesOn 32 = .ok (.bipush 10, 2) ∧ decode cX12_goesOn 34 = .ok (.irem, 1) := by decide +kernel
theorem dX12_goesOn_24 : decode cX12_goesOn 24 = .ok (.putfield 13, 3) := dGX12_376.1
theorem dX12_goesOn_27 : decode cX12_goesOn 27 = .ok (.aload_n 0, 1) := dGX12_376.2.1
theorem dX12_goesOn_28 : decode cX12_goesOn 28 = .ok (.aload_n 0, 1) := dGX12_376.2.2.1
theorem dX12_goesOn_29 : decode cX12_goesOn 29 = .ok (.getfield 13, 3) := dGX12_376.2.2.2.1
theorem dX12_goesOn_32 : decode cX12_goesOn 32 = .ok (.bipush 10, 2) := dGX12_376.2.2.2.2.1
theorem dX12_goesOn_34 : decode cX12_goesOn 34 = .ok (.irem, 1) := dGX12_376.2.2.2.2.2
theorem dGX12_377 : decode cX12_goesOn 35 = .ok (.invokevirtual 393, 3) ∧ decode cX12_goesOn 38 = .ok (.iinc 2 1, 3) ∧ decode cX12_goesOn 41 = .ok (.goto (-39), 3) ∧ decode cX12_goesOn 44 = .ok (.return_, 1) ∧ decode cX12_areHours 0 = .ok (.iload_n 0, 1) ∧ decode cX12_areHours 1 = .ok (.i2l, 1) := by decide +kernel
theorem dX12_goesOn_35 : decode cX12_goesOn 35 = .ok (.invokevirtual 393, 3) := dGX12_377.1
theorem dX12_goesOn_38 : decode cX12_goesOn 38 = .ok (.iinc 2 1, 3) := dGX12_377.2.1
theorem dX12_goesOn_41 : decode cX12_goesOn 41 = .ok (.goto (-39), 3) := dGX12_377.2.2.1
theorem dX12_goesOn_44 : decode cX12_goesOn 44 = .ok (.return_, 1) := dGX12_377.2.2.2.1
theorem dX12_areHours_0 : decode cX12_areHours 0 = .ok (.iload_n 0, 1) := dGX12_377.2.2.2.2.1
theorem dX12_areHours_1 : decode cX12_areHours 1 = .ok (.i2l, 1) := dGX12_377.2.2.2.2.2
theorem dGX12_378 : decode cX12_areHours 2 = .ok (.lconst 1, 1) ∧ decode cX12_areHours 3 = .ok (.ldc2_w 396, 3) ∧ decode cX12_areHours 6 = .ok (.invokestatic 175, 3) ∧ decode cX12_areHours 9 = .ok (.ireturn, 1) ∧ decode cX12_hours 0 = .ok (.iload_n 1, 1) ∧ decode cX12_hours 1 = .ok (.invokestatic 398, 3) := by decide +kernel
theorem dX12_areHours_2 : decode cX12_areHours 2 = .ok (.lconst 1, 1) := dGX12_378.1
theorem dX12_areHours_3 : decode cX12_areHours 3 = .ok (.ldc2_w 396, 3) := dGX12_378.2.1
theorem dX12_areHours_6 : decode cX12_areHours 6 = .ok (.invokestatic 175, 3) := dGX12_378.2.2.1
theorem dX12_areHours_9 : decode cX12_areHours 9 = .ok (.ireturn, 1) := dGX12_378.2.2.2.1
theorem dX12_hours_0 : decode cX12_hours 0 = .ok (.iload_n 1, 1) := dGX12_378.2.2.2.2.1
theorem dX12_hours_1 : decode cX12_hours 1 = .ok (.invokestatic 398, 3) := dGX12_378.2.2.2.2.2
theorem dGX12_379 : decode cX12_hours 4 = .ok (.ifCond .ne 5, 3) ∧ decode cX12_hours 7 = .ok (.iconst (-1), 1) ∧ decode cX12_hours 8 = .ok (.ireturn, 1) ∧ decode cX12_hours 9 = .ok (.aload_n 0, 1) ∧ decode cX12_hours 10 = .ok (.iconst 0, 1) ∧ decode cX12_hours 11 = .ok (.putfield 366, 3) := by decide +kernel
theorem dX12_hours_4 : decode cX12_hours 4 = .ok (.ifCond .ne 5, 3) := dGX12_379.1
theorem dX12_hours_7 : decode cX12_hours 7 = .ok (.iconst (-1), 1) := dGX12_379.2.1
theorem dX12_hours_8 : decode cX12_hours 8 = .ok (.ireturn, 1) := dGX12_379.2.2.1
theorem dX12_hours_9 : decode cX12_hours 9 = .ok (.aload_n 0, 1) := dGX12_379.2.2.2.1
theorem dX12_hours_10 : decode cX12_hours 10 = .ok (.iconst 0, 1) := dGX12_379.2.2.2.2.1
theorem dX12_hours_11 : decode cX12_hours 11 = .ok (.putfield 366, 3) := dGX12_379.2.2.2.2.2
theorem dGX12_380 : decode cX12_hours 14 = .ok (.aload_n 0, 1) ∧ decode cX12_hours 15 = .ok (.iload_n 1, 1) ∧ decode cX12_hours 16 = .ok (.invokevirtual 401, 3) ∧ decode cX12_hours 19 = .ok (.aload_n 0, 1) ∧ decode cX12_hours 20 = .ok (.getfield 366, 3) ∧ decode cX12_hours 23 = .ok (.ireturn, 1) := by decide +kernel
theorem dX12_hours_14 : decode cX12_hours 14 = .ok (.aload_n 0, 1) := dGX12_380.1
theorem dX12_hours_15 : decode cX12_hours 15 = .ok (.iload_n 1, 1) := dGX12_380.2.1
theorem dX12_hours_16 : decode cX12_hours 16 = .ok (.invokevirtual 401, 3) := dGX12_380.2.2.1
theorem dX12_hours_19 : decode cX12_hours 19 = .ok (.aload_n 0, 1) := dGX12_380.2.2.2.1
theorem dX12_hours_20 : decode cX12_hours 20 = .ok (.getfield 366, 3) := dGX12_380.2.2.2.2.1
theorem dX12_hours_23 : decode cX12_hours 23 = .ok (.ireturn, 1) := dGX12_380.2.2.2.2.2
theorem dGX12_381 : decode cX12_hour 0 = .ok (.iload_n 1, 1) ∧ decode cX12_hour 1 = .ok (.invokestatic 189, 3) ∧ decode cX12_hour 4 = .ok (.ifCond .ne 5, 3) ∧ decode cX12_hour 7 = .ok (.iconst (-1), 1) ∧ decode cX12_hour 8 = .ok (.ireturn, 1) ∧ decode cX12_hour 9 = .ok (.aload_n 0, 1) := by decide +kernel
theorem dX12_hour_0 : decode cX12_hour 0 = .ok (.iload_n 1, 1) := dGX12_381.1
theorem dX12_hour_1 : decode cX12_hour 1 = .ok (.invokestatic 189, 3) := dGX12_381.2.1
theorem dX12_hour_4 : decode cX12_hour 4 = .ok (.ifCond .ne 5, 3) := dGX12_381.2.2.1
theorem dX12_hour_7 : decode cX12_hour 7 = .ok (.iconst (-1), 1) := dGX12_381.2.2.2.1
theorem dX12_hour_8 : decode cX12_hour 8 = .ok (.ireturn, 1) := dGX12_381.2.2.2.2.1
theorem dX12_hour_9 : decode cX12_hour 9 = .ok (.aload_n 0, 1) := dGX12_381.2.2.2.2.2
theorem dGX12_382 : decode cX12_hour 10 = .ok (.iconst 0, 1) ∧ decode cX12_hour 11 = .ok (.putfield 366, 3) ∧ decode cX12_hour 14 = .ok (.aload_n 0, 1) ∧ decode cX12_hour 15 = .ok (.iload_n 1, 1) ∧ decode cX12_hour 16 = .ok (.invokevirtual 393, 3) ∧ decode cX12_hour 19 = .ok (.aload_n 0, 1) := by decide +kernel
theorem dX12_hour_10 : decode cX12_hour 10 = .ok (.iconst 0, 1) := dGX12_382.1
theorem dX12_hour_11 : decode cX12_hour 11 = .ok (.putfield 366, 3) := dGX12_382.2.1
theorem dX12_hour_14 : decode cX12_hour 14 = .ok (.aload_n 0, 1) := dGX12_382.2.2.1
theorem dX12_hour_15 : decode cX12_hour 15 = .ok (.iload_n 1, 1) := dGX12_382.2.2.2.1
theorem dX12_hour_16 : decode cX12_hour 16 = .ok (.invokevirtual 393, 3) := dGX12_382.2.2.2.2.1
theorem dX12_hour_19 : decode cX12_hour 19 = .ok (.aload_n 0, 1) := dGX12_382.2.2.2.2.2
theorem dGX12_383 : decode cX12_hour 20 = .ok (.getfield 366, 3) ∧ decode cX12_hour 23 = .ok (.ireturn, 1) ∧ decode cX12_bitsOn 0 = .ok (.iconst 0, 1) ∧ decode cX12_bitsOn 1 = .ok (.istore_n 2, 1) ∧ decode cX12_bitsOn 2 = .ok (.iconst 0, 1) ∧ decode cX12_bitsOn 3 = .ok (.istore_n 3, 1) := by decide +kernel
theorem dX12_hour_20 : decode cX12_hour 20 = .ok (.getfield 366, 3) := dGX12_383.1
theorem dX12_hour_23 : decode cX12_hour 23 = .ok (.ireturn, 1) := dGX12_383.2.1
theorem dX12_bitsOn_0 : decode cX12_bitsOn 0 = .ok (.iconst 0, 1) := dGX12_383.2.2.1
theorem dX12_bitsOn_1 : decode cX12_bitsOn 1 = .ok (.istore_n 2, 1) := dGX12_383.2.2.2.1
theorem dX12_bitsOn_2 : decode cX12_bitsOn 2 = .ok (.iconst 0, 1) := dGX12_383.2.2.2.2.1
theorem dX12_bitsOn_3 : decode cX12_bitsOn 3 = .ok (.istore_n 3, 1) := dGX12_383.2.2.2.2.2
theorem dGX12_384 : decode cX12_bitsOn 4 = .ok (.iload_n 3, 1) ∧ decode cX12_bitsOn 5 = .ok (.aload_n 0, 1) ∧ decode cX12_bitsOn 6 = .ok (.getfield 179, 3) ∧ decode cX12_bitsOn 9 = .ok (.if_icmp .ge 29, 3) ∧ decode cX12_bitsOn 12 = .ok (.iload_n 2, 1) ∧ decode cX12_bitsOn 13 = .ok (.aload_n 0, 1) := by decide +kernel
theorem dX12_bitsOn_4 : decode cX12_bitsOn 4 = .ok (.iload_n 3, 1) := dGX12_384.1
theorem dX12_bitsOn_5 : decode cX12_bitsOn 5 = .ok (.aload_n 0, 1) := dGX12_384.2.1
theorem dX12_bitsOn_6 : decode cX12_bitsOn 6 = .ok (.getfield 179, 3) := dGX12_384.2.2.1
theorem dX12_bitsOn_9 : decode cX12_bitsOn 9 = .ok (.if_icmp .ge 29, 3) := dGX12_384.2.2.2.1
theorem dX12_bitsOn_12 : decode cX12_bitsOn 12 = .ok (.iload_n 2, 1) := dGX12_384.2.2.2.2.1
theorem dX12_bitsOn_13 : decode cX12_bitsOn 13 = .ok (.aload_n 0, 1) := dGX12_384.2.2.2.2.2
theorem dGX12_385 : decode cX12_bitsOn 14 = .ok (.getfield 27, 3) ∧ decode cX12_bitsOn 17 = .ok (.iload_n 3, 1) ∧ decode cX12_bitsOn 18 = .ok (.iaload, 1) ∧ decode cX12_bitsOn 19 = .ok (.iload_n 1, 1) ∧ decode cX12_bitsOn 20 = .ok (.if_icmp .ne 9, 3) ∧ decode cX12_bitsOn 23 = .ok (.iconst 1, 1) := by decide +kernel
theorem dX12_bitsOn_14 : decode cX12_bitsOn 14 = .ok (.getfield 27, 3) := dGX12_385.1
theorem dX12_bitsOn_17 : decode cX12_bitsOn 17 = .ok (.iload_n 3, 1) := dGX12_385.2.1
theorem dX12_bitsOn_18 : decode cX12_bitsOn 18 = .ok (.iaload, 1) := dGX12_385.2.2.1
theorem dX12_bitsOn_19 : decode cX12_bitsOn 19 = .ok (.iload_n 1, 1) := dGX12_385.2.2.2.1
theorem dX12_bitsOn_20 : decode cX12_bitsOn 20 = .ok (.if_icmp .ne 9, 3) := dGX12_385.2.2.2.2.1
theorem dX12_bitsOn_23 : decode cX12_bitsOn 23 = .ok (.iconst 1, 1) := dGX12_385.2.2.2.2.2
theorem dGX12_386 : decode cX12_bitsOn 24 = .ok (.iload_n 3, 1) ∧ decode cX12_bitsOn 25 = .ok (.ishl, 1) ∧ decode cX12_bitsOn 26 = .ok (.goto 4, 3) ∧ decode cX12_bitsOn 29 = .ok (.iconst 0, 1) ∧ decode cX12_bitsOn 30 = .ok (.ior, 1) ∧ decode cX12_bitsOn 31 = .ok (.istore_n 2, 1) := by decide +kernel
theorem dX12_bitsOn_24 : decode cX12_bitsOn 24 = .ok (.iload_n 3, 1) := dGX12_386.1
theorem dX12_bitsOn_25 : decode cX12_bitsOn 25 = .ok (.ishl, 1) := dGX12_386.2.1
theorem dX12_bitsOn_26 : decode cX12_bitsOn 26 = .ok (.goto 4, 3) := dGX12_386.2.2.1
theorem dX12_bitsOn_29 : decode cX12_bitsOn 29 = .ok (.iconst 0, 1) := dGX12_386.2.2.2.1
theorem dX12_bitsOn_30 : decode cX12_bitsOn 30 = .ok (.ior, 1) := dGX12_386.2.2.2.2.1
theorem dX12_bitsOn_31 : decode cX12_bitsOn 31 = .ok (.istore_n 2, 1) := dGX12_386.2.2.2.2.2
theorem dGX12_387 : decode cX12_bitsOn 32 = .ok (.iinc 3 1, 3) ∧ decode cX12_bitsOn 35 = .ok (.goto (-31), 3) ∧ decode cX12_bitsOn 38 = .ok (.iload_n 2, 1) ∧ decode cX12_bitsOn 39 = .ok (.ireturn, 1) ∧ decode cX12_bitsBelow 0 = .ok (.iconst 0, 1) ∧ decode cX12_bitsBelow 1 = .ok (.istore_n 2, 1) := by decide +kernel
theorem dX12_bitsOn_32 : decode cX12_bitsOn 32 = .ok (.iinc 3 1, 3) := dGX12_387.1
theorem dX12_bitsOn_35 : decode cX12_bitsOn 35 = .ok (.goto (-31), 3) := dGX12_387.2.1
theorem dX12_bitsOn_38 : decode cX12_bitsOn 38 = .ok (.iload_n 2, 1) := dGX12_387.2.2.1
theorem dX12_bitsOn_39 : decode cX12_bitsOn 39 = .ok (.ireturn, 1) := dGX12_387.2.2.2.1
theorem dX12_bitsBelow_0 : decode cX12_bitsBelow 0 = .ok (.iconst 0, 1) := dGX12_387.2.2.2.2.1
theorem dX12_bitsBelow_1 : decode cX12_bitsBelow 1 = .ok (.istore_n 2, 1) := dGX12_387.2.2.2.2.2
theorem dGX12_388 : decode cX12_bitsBelow 2 = .ok (.iconst 0, 1) ∧ decode cX12_bitsBelow 3 = .ok (.istore_n 3, 1) ∧ decode cX12_bitsBelow 4 = .ok (.iload_n 3, 1) ∧ decode cX12_bitsBelow 5 = .ok (.aload_n 0, 1) ∧ decode cX12_bitsBelow 6 = .ok (.getfield 182, 3) ∧ decode cX12_bitsBelow 9 = .ok (.if_icmp .ge 29, 3) := by decide +kernel
theorem dX12_bitsBelow_2 : decode cX12_bitsBelow 2 = .ok (.iconst 0, 1) := dGX12_388.1
theorem dX12_bitsBelow_3 : decode cX12_bitsBelow 3 = .ok (.istore_n 3, 1) := dGX12_388.2.1
theorem dX12_bitsBelow_4 : decode cX12_bitsBelow 4 = .ok (.iload_n 3, 1) := dGX12_388.2.2.1
theorem dX12_bitsBelow_5 : decode cX12_bitsBelow 5 = .ok (.aload_n 0, 1) := dGX12_388.2.2.2.1
theorem dX12_bitsBelow_6 : decode cX12_bitsBelow 6 = .ok (.getfield 182, 3) := dGX12_388.2.2.2.2.1
theorem dX12_bitsBelow_9 : decode cX12_bitsBelow 9 = .ok (.if_icmp .ge 29, 3) := dGX12_388.2.2.2.2.2
theorem dGX12_389 : decode cX12_bitsBelow 12 = .ok (.iload_n 2, 1) ∧ decode cX12_bitsBelow 13 = .ok (.aload_n 0, 1) ∧ decode cX12_bitsBelow 14 = .ok (.getfield 46, 3) ∧ decode cX12_bitsBelow 17 = .ok (.iload_n 3, 1) ∧ decode cX12_bitsBelow 18 = .ok (.iaload, 1) ∧ decode cX12_bitsBelow 19 = .ok (.iload_n 1, 1) := by decide +kernel
theorem dX12_bitsBelow_12 : decode cX12_bitsBelow 12 = .ok (.iload_n 2, 1) := dGX12_389.1
theorem dX12_bitsBelow_13 : decode cX12_bitsBelow 13 = .ok (.aload_n 0, 1) := dGX12_389.2.1
theorem dX12_bitsBelow_14 : decode cX12_bitsBelow 14 = .ok (.getfield 46, 3) := dGX12_389.2.2.1
theorem dX12_bitsBelow_17 : decode cX12_bitsBelow 17 = .ok (.iload_n 3, 1) := dGX12_389.2.2.2.1
theorem dX12_bitsBelow_18 : decode cX12_bitsBelow 18 = .ok (.iaload, 1) := dGX12_389.2.2.2.2.1
theorem dX12_bitsBelow_19 : decode cX12_bitsBelow 19 = .ok (.iload_n 1, 1) := dGX12_389.2.2.2.2.2
theorem dGX12_390 : decode cX12_bitsBelow 20 = .ok (.if_icmp .ne 9, 3) ∧ decode cX12_bitsBelow 23 = .ok (.iconst 1, 1) ∧ decode cX12_bitsBelow 24 = .ok (.iload_n 3, 1) ∧ decode cX12_bitsBelow 25 = .ok (.ishl, 1) ∧ decode cX12_bitsBelow 26 = .ok (.goto 4, 3) ∧ decode cX12_bitsBelow 29 = .ok (.iconst 0, 1) := by decide +kernel
theorem dX12_bitsBelow_20 : decode cX12_bitsBelow 20 = .ok (.if_icmp .ne 9, 3) := dGX12_390.1
theorem dX12_bitsBelow_23 : decode cX12_bitsBelow 23 = .ok (.iconst 1, 1) := dGX12_390.2.1
theorem dX12_bitsBelow_24 : decode cX12_bitsBelow 24 = .ok (.iload_n 3, 1) := dGX12_390.2.2.1
theorem dX12_bitsBelow_25 : decode cX12_bitsBelow 25 = .ok (.ishl, 1) := dGX12_390.2.2.2.1
theorem dX12_bitsBelow_26 : decode cX12_bitsBelow 26 = .ok (.goto 4, 3) := dGX12_390.2.2.2.2.1
theorem dX12_bitsBelow_29 : decode cX12_bitsBelow 29 = .ok (.iconst 0, 1) := dGX12_390.2.2.2.2.2
theorem dGX12_391 : decode cX12_bitsBelow 30 = .ok (.ior, 1) ∧ decode cX12_bitsBelow 31 = .ok (.istore_n 2, 1) ∧ decode cX12_bitsBelow 32 = .ok (.iinc 3 1, 3) ∧ decode cX12_bitsBelow 35 = .ok (.goto (-31), 3) ∧ decode cX12_bitsBelow 38 = .ok (.iload_n 2, 1) ∧ decode cX12_bitsBelow 39 = .ok (.ireturn, 1) := by decide +kernel
theorem dX12_bitsBelow_30 : decode cX12_bitsBelow 30 = .ok (.ior, 1) := dGX12_391.1
theorem dX12_bitsBelow_31 : decode cX12_bitsBelow 31 = .ok (.istore_n 2, 1) := dGX12_391.2.1
theorem dX12_bitsBelow_32 : decode cX12_bitsBelow 32 = .ok (.iinc 3 1, 3) := dGX12_391.2.2.1
theorem dX12_bitsBelow_35 : decode cX12_bitsBelow 35 = .ok (.goto (-31), 3) := dGX12_391.2.2.2.1
theorem dX12_bitsBelow_38 : decode cX12_bitsBelow 38 = .ok (.iload_n 2, 1) := dGX12_391.2.2.2.2.1
theorem dX12_bitsBelow_39 : decode cX12_bitsBelow 39 = .ok (.ireturn, 1) := dGX12_391.2.2.2.2.2
theorem dGX12_392 : decode cX12_roofIs 0 = .ok (.aload_n 0, 1) ∧ decode cX12_roofIs 1 = .ok (.iload_n 1, 1) ∧ decode cX12_roofIs 2 = .ok (.invokevirtual 198, 3) ∧ decode cX12_roofIs 5 = .ok (.ifCond .ne 5, 3) ∧ decode cX12_roofIs 8 = .ok (.iconst (-1), 1) ∧ decode cX12_roofIs 9 = .ok (.ireturn, 1) := by decide +kernel
theorem dX12_roofIs_0 : decode cX12_roofIs 0 = .ok (.aload_n 0, 1) := dGX12_392.1
theorem dX12_roofIs_1 : decode cX12_roofIs 1 = .ok (.iload_n 1, 1) := dGX12_392.2.1
theorem dX12_roofIs_2 : decode cX12_roofIs 2 = .ok (.invokevirtual 198, 3) := dGX12_392.2.2.1
theorem dX12_roofIs_5 : decode cX12_roofIs 5 = .ok (.ifCond .ne 5, 3) := dGX12_392.2.2.2.1
theorem dX12_roofIs_8 : decode cX12_roofIs 8 = .ok (.iconst (-1), 1) := dGX12_392.2.2.2.2.1
theorem dX12_roofIs_9 : decode cX12_roofIs 9 = .ok (.ireturn, 1) := dGX12_392.2.2.2.2.2
theorem dGX12_393 : decode cX12_roofIs 10 = .ok (.iload_n 2, 1) ∧ decode cX12_roofIs 11 = .ok (.tableswitch 66 0 4 #[33, 40, 47, 54, 60], 33) ∧ decode cX12_roofIs 44 = .ok (.aload_n 0, 1) ∧ decode cX12_roofIs 45 = .ok (.getfield 17, 3) ∧ decode cX12_roofIs 48 = .ok (.iload_n 1, 1) ∧ decode cX12_roofIs 49 = .ok (.iaload, 1) := by decide +kernel
theorem dX12_roofIs_10 : decode cX12_roofIs 10 = .ok (.iload_n 2, 1) := dGX12_393.1
theorem dX12_roofIs_11 : decode cX12_roofIs 11 = .ok (.tableswitch 66 0 4 #[33, 40, 47, 54, 60], 33) := dGX12_393.2.1
theorem dX12_roofIs_44 : decode cX12_roofIs 44 = .ok (.aload_n 0, 1) := dGX12_393.2.2.1
theorem dX12_roofIs_45 : decode cX12_roofIs 45 = .ok (.getfield 17, 3) := dGX12_393.2.2.2.1
theorem dX12_roofIs_48 : decode cX12_roofIs 48 = .ok (.iload_n 1, 1) := dGX12_393.2.2.2.2.1
theorem dX12_roofIs_49 : decode cX12_roofIs 49 = .ok (.iaload, 1) := dGX12_393.2.2.2.2.2
theorem dGX12_394 : decode cX12_roofIs 50 = .ok (.ireturn, 1) ∧ decode cX12_roofIs 51 = .ok (.aload_n 0, 1) ∧ decode cX12_roofIs 52 = .ok (.getfield 21, 3) ∧ decode cX12_roofIs 55 = .ok (.iload_n 1, 1) ∧ decode cX12_roofIs 56 = .ok (.iaload, 1) ∧ decode cX12_roofIs 57 = .ok (.ireturn, 1) := by decide +kernel
theorem dX12_roofIs_50 : decode cX12_roofIs 50 = .ok (.ireturn, 1) := dGX12_394.1
theorem dX12_roofIs_51 : decode cX12_roofIs 51 = .ok (.aload_n 0, 1) := dGX12_394.2.1
theorem dX12_roofIs_52 : decode cX12_roofIs 52 = .ok (.getfield 21, 3) := dGX12_394.2.2.1
theorem dX12_roofIs_55 : decode cX12_roofIs 55 = .ok (.iload_n 1, 1) := dGX12_394.2.2.2.1
theorem dX12_roofIs_56 : decode cX12_roofIs 56 = .ok (.iaload, 1) := dGX12_394.2.2.2.2.1
theorem dX12_roofIs_57 : decode cX12_roofIs 57 = .ok (.ireturn, 1) := dGX12_394.2.2.2.2.2
theorem dGX12_395 : decode cX12_roofIs 58 = .ok (.aload_n 0, 1) ∧ decode cX12_roofIs 59 = .ok (.getfield 24, 3) ∧ decode cX12_roofIs 62 = .ok (.iload_n 1, 1) ∧ decode cX12_roofIs 63 = .ok (.iaload, 1) ∧ decode cX12_roofIs 64 = .ok (.ireturn, 1) ∧ decode cX12_roofIs 65 = .ok (.aload_n 0, 1) := by decide +kernel
theorem dX12_roofIs_58 : decode cX12_roofIs 58 = .ok (.aload_n 0, 1) := dGX12_395.1
theorem dX12_roofIs_59 : decode cX12_roofIs 59 = .ok (.getfield 24, 3) := dGX12_395.2.1
theorem dX12_roofIs_62 : decode cX12_roofIs 62 = .ok (.iload_n 1, 1) := dGX12_395.2.2.1
theorem dX12_roofIs_63 : decode cX12_roofIs 63 = .ok (.iaload, 1) := dGX12_395.2.2.2.1
theorem dX12_roofIs_64 : decode cX12_roofIs 64 = .ok (.ireturn, 1) := dGX12_395.2.2.2.2.1
theorem dX12_roofIs_65 : decode cX12_roofIs 65 = .ok (.aload_n 0, 1) := dGX12_395.2.2.2.2.2
theorem dGX12_396 : decode cX12_roofIs 66 = .ok (.iload_n 1, 1) ∧ decode cX12_roofIs 67 = .ok (.invokevirtual 404, 3) ∧ decode cX12_roofIs 70 = .ok (.ireturn, 1) ∧ decode cX12_roofIs 71 = .ok (.aload_n 0, 1) ∧ decode cX12_roofIs 72 = .ok (.iload_n 1, 1) ∧ decode cX12_roofIs 73 = .ok (.invokevirtual 407, 3) := by decide +kernel
theorem dX12_roofIs_66 : decode cX12_roofIs 66 = .ok (.iload_n 1, 1) := dGX12_396.1
theorem dX12_roofIs_67 : decode cX12_roofIs 67 = .ok (.invokevirtual 404, 3) := dGX12_396.2.1
theorem dX12_roofIs_70 : decode cX12_roofIs 70 = .ok (.ireturn, 1) := dGX12_396.2.2.1
theorem dX12_roofIs_71 : decode cX12_roofIs 71 = .ok (.aload_n 0, 1) := dGX12_396.2.2.2.1
theorem dX12_roofIs_72 : decode cX12_roofIs 72 = .ok (.iload_n 1, 1) := dGX12_396.2.2.2.2.1
theorem dX12_roofIs_73 : decode cX12_roofIs 73 = .ok (.invokevirtual 407, 3) := dGX12_396.2.2.2.2.2
theorem dGX12_397 : decode cX12_roofIs 76 = .ok (.ireturn, 1) ∧ decode cX12_roofIs 77 = .ok (.iconst (-1), 1) ∧ decode cX12_roofIs 78 = .ok (.ireturn, 1) ∧ decode cX12_owed 0 = .ok (.iconst 0, 1) ∧ decode cX12_owed 1 = .ok (.istore_n 3, 1) ∧ decode cX12_owed 2 = .ok (.iconst 0, 1) := by decide +kernel
theorem dX12_roofIs_76 : decode cX12_roofIs 76 = .ok (.ireturn, 1) := dGX12_397.1
theorem dX12_roofIs_77 : decode cX12_roofIs 77 = .ok (.iconst (-1), 1) := dGX12_397.2.1
theorem dX12_roofIs_78 : decode cX12_roofIs 78 = .ok (.ireturn, 1) := dGX12_397.2.2.1
theorem dX12_owed_0 : decode cX12_owed 0 = .ok (.iconst 0, 1) := dGX12_397.2.2.2.1
theorem dX12_owed_1 : decode cX12_owed 1 = .ok (.istore_n 3, 1) := dGX12_397.2.2.2.2.1
theorem dX12_owed_2 : decode cX12_owed 2 = .ok (.iconst 0, 1) := dGX12_397.2.2.2.2.2
theorem dGX12_398 : decode cX12_owed 3 = .ok (.istore 4, 2) ∧ decode cX12_owed 5 = .ok (.iload 4, 2) ∧ decode cX12_owed 7 = .ok (.aload_n 0, 1) ∧ decode cX12_owed 8 = .ok (.getfield 179, 3) ∧ decode cX12_owed 11 = .ok (.if_icmp .ge 69, 3) ∧ decode cX12_owed 14 = .ok (.iconst 0, 1) := by decide +kernel
theorem dX12_owed_3 : decode cX12_owed 3 = .ok (.istore 4, 2) := dGX12_398.1
theorem dX12_owed_5 : decode cX12_owed 5 = .ok (.iload 4, 2) := dGX12_398.2.1
theorem dX12_owed_7 : decode cX12_owed 7 = .ok (.aload_n 0, 1) := dGX12_398.2.2.1
theorem dX12_owed_8 : decode cX12_owed 8 = .ok (.getfield 179, 3) := dGX12_398.2.2.2.1
theorem dX12_owed_11 : decode cX12_owed 11 = .ok (.if_icmp .ge 69, 3) := dGX12_398.2.2.2.2.1
theorem dX12_owed_14 : decode cX12_owed 14 = .ok (.iconst 0, 1) := dGX12_398.2.2.2.2.2
theorem dGX12_399 : decode cX12_owed 15 = .ok (.istore 5, 2) ∧ decode cX12_owed 17 = .ok (.iload 5, 2) ∧ decode cX12_owed 19 = .ok (.aload_n 0, 1) ∧ decode cX12_owed 20 = .ok (.getfield 182, 3) ∧ decode cX12_owed 23 = .ok (.if_icmp .ge 51, 3) ∧ decode cX12_owed 26 = .ok (.iload_n 3, 1) := by decide +kernel
theorem dX12_owed_15 : decode cX12_owed 15 = .ok (.istore 5, 2) := dGX12_399.1
theorem dX12_owed_17 : decode cX12_owed 17 = .ok (.iload 5, 2) := dGX12_399.2.1
theorem dX12_owed_19 : decode cX12_owed 19 = .ok (.aload_n 0, 1) := dGX12_399.2.2.1
theorem dX12_owed_20 : decode cX12_owed 20 = .ok (.getfield 182, 3) := dGX12_399.2.2.2.1
theorem dX12_owed_23 : decode cX12_owed 23 = .ok (.if_icmp .ge 51, 3) := dGX12_399.2.2.2.2.1
theorem dX12_owed_26 : decode cX12_owed 26 = .ok (.iload_n 3, 1) := dGX12_399.2.2.2.2.2
theorem dGX12_400 : decode cX12_owed 27 = .ok (.iload_n 1, 1) ∧ decode cX12_owed 28 = .ok (.iconst (-1), 1) ∧ decode cX12_owed 29 = .ok (.if_icmp .eq 9, 3) ∧ decode cX12_owed 32 = .ok (.iload_n 1, 1) ∧ decode cX12_owed 33 = .ok (.iload 4, 2) ∧ decode cX12_owed 35 = .ok (.if_icmp .ne 30, 3) := by decide +kernel
theorem dX12_owed_27 : decode cX12_owed 27 = .ok (.iload_n 1, 1) := dGX12_400.1
theorem dX12_owed_28 : decode cX12_owed 28 = .ok (.iconst (-1), 1) := dGX12_400.2.1
theorem dX12_owed_29 : decode cX12_owed 29 = .ok (.if_icmp .eq 9, 3) := dGX12_400.2.2.1
theorem dX12_owed_32 : decode cX12_owed 32 = .ok (.iload_n 1, 1) := dGX12_400.2.2.2.1
theorem dX12_owed_33 : decode cX12_owed 33 = .ok (.iload 4, 2) := dGX12_400.2.2.2.2.1
theorem dX12_owed_35 : decode cX12_owed 35 = .ok (.if_icmp .ne 30, 3) := dGX12_400.2.2.2.2.2
theorem dGX12_401 : decode cX12_owed 38 = .ok (.iload_n 2, 1) ∧ decode cX12_owed 39 = .ok (.iconst (-1), 1) ∧ decode cX12_owed 40 = .ok (.if_icmp .eq 9, 3) ∧ decode cX12_owed 43 = .ok (.iload_n 2, 1) ∧ decode cX12_owed 44 = .ok (.iload 5, 2) ∧ decode cX12_owed 46 = .ok (.if_icmp .ne 19, 3) := by decide +kernel
theorem dX12_owed_38 : decode cX12_owed 38 = .ok (.iload_n 2, 1) := dGX12_401.1
theorem dX12_owed_39 : decode cX12_owed 39 = .ok (.iconst (-1), 1) := dGX12_401.2.1
theorem dX12_owed_40 : decode cX12_owed 40 = .ok (.if_icmp .eq 9, 3) := dGX12_401.2.2.1
theorem dX12_owed_43 : decode cX12_owed 43 = .ok (.iload_n 2, 1) := dGX12_401.2.2.2.1
theorem dX12_owed_44 : decode cX12_owed 44 = .ok (.iload 5, 2) := dGX12_401.2.2.2.2.1
theorem dX12_owed_46 : decode cX12_owed 46 = .ok (.if_icmp .ne 19, 3) := dGX12_401.2.2.2.2.2
theorem dGX12_402 : decode cX12_owed 49 = .ok (.aload_n 0, 1) ∧ decode cX12_owed 50 = .ok (.getfield 55, 3) ∧ decode cX12_owed 53 = .ok (.bipush 8, 2) ∧ decode cX12_owed 55 = .ok (.iload 4, 2) ∧ decode cX12_owed 57 = .ok (.imul, 1) ∧ decode cX12_owed 58 = .ok (.iload 5, 2) := by decide +kernel
theorem dX12_owed_49 : decode cX12_owed 49 = .ok (.aload_n 0, 1) := dGX12_402.1
theorem dX12_owed_50 : decode cX12_owed 50 = .ok (.getfield 55, 3) := dGX12_402.2.1
theorem dX12_owed_53 : decode cX12_owed 53 = .ok (.bipush 8, 2) := dGX12_402.2.2.1
theorem dX12_owed_55 : decode cX12_owed 55 = .ok (.iload 4, 2) := dGX12_402.2.2.2.1
theorem dX12_owed_57 : decode cX12_owed 57 = .ok (.imul, 1) := dGX12_402.2.2.2.2.1
theorem dX12_owed_58 : decode cX12_owed 58 = .ok (.iload 5, 2) := dGX12_402.2.2.2.2.2
theorem dGX12_403 : decode cX12_owed 60 = .ok (.iadd, 1) ∧ decode cX12_owed 61 = .ok (.iaload, 1) ∧ decode cX12_owed 62 = .ok (.goto 4, 3) ∧ decode cX12_owed 65 = .ok (.iconst 0, 1) ∧ decode cX12_owed 66 = .ok (.iadd, 1) ∧ decode cX12_owed 67 = .ok (.istore_n 3, 1) := by decide +kernel
theorem dX12_owed_60 : decode cX12_owed 60 = .ok (.iadd, 1) := dGX12_403.1
theorem dX12_owed_61 : decode cX12_owed 61 = .ok (.iaload, 1) := dGX12_403.2.1
theorem dX12_owed_62 : decode cX12_owed 62 = .ok (.goto 4, 3) := dGX12_403.2.2.1
theorem dX12_owed_65 : decode cX12_owed 65 = .ok (.iconst 0, 1) := dGX12_403.2.2.2.1
theorem dX12_owed_66 : decode cX12_owed 66 = .ok (.iadd, 1) := dGX12_403.2.2.2.2.1
theorem dX12_owed_67 : decode cX12_owed 67 = .ok (.istore_n 3, 1) := dGX12_403.2.2.2.2.2
theorem dGX12_404 : decode cX12_owed 68 = .ok (.iinc 5 1, 3) ∧ decode cX12_owed 71 = .ok (.goto (-54), 3) ∧ decode cX12_owed 74 = .ok (.iinc 4 1, 3) ∧ decode cX12_owed 77 = .ok (.goto (-72), 3) ∧ decode cX12_owed 80 = .ok (.iload_n 3, 1) ∧ decode cX12_owed 81 = .ok (.ireturn, 1) := by decide +kernel
theorem dX12_owed_68 : decode cX12_owed 68 = .ok (.iinc 5 1, 3) := dGX12_404.1
theorem dX12_owed_71 : decode cX12_owed 71 = .ok (.goto (-54), 3) := dGX12_404.2.1
theorem dX12_owed_74 : decode cX12_owed 74 = .ok (.iinc 4 1, 3) := dGX12_404.2.2.1
theorem dX12_owed_77 : decode cX12_owed 77 = .ok (.goto (-72), 3) := dGX12_404.2.2.2.1
theorem dX12_owed_80 : decode cX12_owed 80 = .ok (.iload_n 3, 1) := dGX12_404.2.2.2.2.1
theorem dX12_owed_81 : decode cX12_owed 81 = .ok (.ireturn, 1) := dGX12_404.2.2.2.2.2
theorem dGX12_405 : decode cX12_apprenticeIs 0 = .ok (.aload_n 0, 1) ∧ decode cX12_apprenticeIs 1 = .ok (.iload_n 1, 1) ∧ decode cX12_apprenticeIs 2 = .ok (.invokevirtual 195, 3) ∧ decode cX12_apprenticeIs 5 = .ok (.ifCond .ne 5, 3) ∧ decode cX12_apprenticeIs 8 = .ok (.iconst (-1), 1) ∧ decode cX12_apprenticeIs 9 = .ok (.ireturn, 1) := by decide +kernel
theorem dX12_apprenticeIs_0 : decode cX12_apprenticeIs 0 = .ok (.aload_n 0, 1) := dGX12_405.1
theorem dX12_apprenticeIs_1 : decode cX12_apprenticeIs 1 = .ok (.iload_n 1, 1) := dGX12_405.2.1
theorem dX12_apprenticeIs_2 : decode cX12_apprenticeIs 2 = .ok (.invokevirtual 195, 3) := dGX12_405.2.2.1
theorem dX12_apprenticeIs_5 : decode cX12_apprenticeIs 5 = .ok (.ifCond .ne 5, 3) := dGX12_405.2.2.2.1
theorem dX12_apprenticeIs_8 : decode cX12_apprenticeIs 8 = .ok (.iconst (-1), 1) := dGX12_405.2.2.2.2.1
theorem dX12_apprenticeIs_9 : decode cX12_apprenticeIs 9 = .ok (.ireturn, 1) := dGX12_405.2.2.2.2.2
theorem dGX12_406 : decode cX12_apprenticeIs 10 = .ok (.iload_n 2, 1) ∧ decode cX12_apprenticeIs 11 = .ok (.i2l, 1) ∧ decode cX12_apprenticeIs 12 = .ok (.ldc2_w 410, 3) ∧ decode cX12_apprenticeIs 15 = .ok (.ldc2_w 412, 3) ∧ decode cX12_apprenticeIs 18 = .ok (.invokestatic 175, 3) ∧ decode cX12_apprenticeIs 21 = .ok (.ifCond .eq 17, 3) := by decide +kernel
theorem dX12_apprenticeIs_10 : decode cX12_apprenticeIs 10 = .ok (.iload_n 2, 1) := dGX12_406.1
theorem dX12_apprenticeIs_11 : decode cX12_apprenticeIs 11 = .ok (.i2l, 1) := dGX12_406.2.1
theorem dX12_apprenticeIs_12 : decode cX12_apprenticeIs 12 = .ok (.ldc2_w 410, 3) := dGX12_406.2.2.1
theorem dX12_apprenticeIs_15 : decode cX12_apprenticeIs 15 = .ok (.ldc2_w 412, 3) := dGX12_406.2.2.2.1
theorem dX12_apprenticeIs_18 : decode cX12_apprenticeIs 18 = .ok (.invokestatic 175, 3) := dGX12_406.2.2.2.2.1
theorem dX12_apprenticeIs_21 : decode cX12_apprenticeIs 21 = .ok (.ifCond .eq 17, 3) := dGX12_406.2.2.2.2.2
theorem dGX12_407 : decode cX12_apprenticeIs 24 = .ok (.aload_n 0, 1) ∧ decode cX12_apprenticeIs 25 = .ok (.getfield 33, 3) ∧ decode cX12_apprenticeIs 28 = .ok (.iconst 5, 1) ∧ decode cX12_apprenticeIs 29 = .ok (.iload_n 1, 1) ∧ decode cX12_apprenticeIs 30 = .ok (.imul, 1) ∧ decode cX12_apprenticeIs 31 = .ok (.iload_n 2, 1) := by decide +kernel
theorem dX12_apprenticeIs_24 : decode cX12_apprenticeIs 24 = .ok (.aload_n 0, 1) := dGX12_407.1
theorem dX12_apprenticeIs_25 : decode cX12_apprenticeIs 25 = .ok (.getfield 33, 3) := dGX12_407.2.1
theorem dX12_apprenticeIs_28 : decode cX12_apprenticeIs 28 = .ok (.iconst 5, 1) := dGX12_407.2.2.1
theorem dX12_apprenticeIs_29 : decode cX12_apprenticeIs 29 = .ok (.iload_n 1, 1) := dGX12_407.2.2.2.1
theorem dX12_apprenticeIs_30 : decode cX12_apprenticeIs 30 = .ok (.imul, 1) := dGX12_407.2.2.2.2.1
theorem dX12_apprenticeIs_31 : decode cX12_apprenticeIs 31 = .ok (.iload_n 2, 1) := dGX12_407.2.2.2.2.2
theorem dGX12_408 : decode cX12_apprenticeIs 32 = .ok (.iadd, 1) ∧ decode cX12_apprenticeIs 33 = .ok (.bipush 10, 2) ∧ decode cX12_apprenticeIs 35 = .ok (.isub, 1) ∧ decode cX12_apprenticeIs 36 = .ok (.iaload, 1) ∧ decode cX12_apprenticeIs 37 = .ok (.ireturn, 1) ∧ decode cX12_apprenticeIs 38 = .ok (.iload_n 2, 1) := by decide +kernel
theorem dX12_apprenticeIs_32 : decode cX12_apprenticeIs 32 = .ok (.iadd, 1) := dGX12_408.1
theorem dX12_apprenticeIs_33 : decode cX12_apprenticeIs 33 = .ok (.bipush 10, 2) := dGX12_408.2.1
theorem dX12_apprenticeIs_35 : decode cX12_apprenticeIs 35 = .ok (.isub, 1) := dGX12_408.2.2.1
theorem dX12_apprenticeIs_36 : decode cX12_apprenticeIs 36 = .ok (.iaload, 1) := dGX12_408.2.2.2.1
theorem dX12_apprenticeIs_37 : decode cX12_apprenticeIs 37 = .ok (.ireturn, 1) := dGX12_408.2.2.2.2.1
theorem dX12_apprenticeIs_38 : decode cX12_apprenticeIs 38 = .ok (.iload_n 2, 1) := dGX12_408.2.2.2.2.2
theorem dGX12_409 : decode cX12_apprenticeIs 39 = .ok (.tableswitch 76 0 4 #[33, 40, 47, 62, 69], 33) ∧ decode cX12_apprenticeIs 72 = .ok (.aload_n 0, 1) ∧ decode cX12_apprenticeIs 73 = .ok (.getfield 27, 3) ∧ decode cX12_apprenticeIs 76 = .ok (.iload_n 1, 1) ∧ decode cX12_apprenticeIs 77 = .ok (.iaload, 1) ∧ decode cX12_apprenticeIs 78 = .ok (.ireturn, 1) := by decide +kernel
theorem dX12_apprenticeIs_39 : decode cX12_apprenticeIs 39 = .ok (.tableswitch 76 0 4 #[33, 40, 47, 62, 69], 33) := dGX12_409.1
theorem dX12_apprenticeIs_72 : decode cX12_apprenticeIs 72 = .ok (.aload_n 0, 1) := dGX12_409.2.1
theorem dX12_apprenticeIs_73 : decode cX12_apprenticeIs 73 = .ok (.getfield 27, 3) := dGX12_409.2.2.1
theorem dX12_apprenticeIs_76 : decode cX12_apprenticeIs 76 = .ok (.iload_n 1, 1) := dGX12_409.2.2.2.1
theorem dX12_apprenticeIs_77 : decode cX12_apprenticeIs 77 = .ok (.iaload, 1) := dGX12_409.2.2.2.2.1
theorem dX12_apprenticeIs_78 : decode cX12_apprenticeIs 78 = .ok (.ireturn, 1) := dGX12_409.2.2.2.2.2
theorem dGX12_410 : decode cX12_apprenticeIs 79 = .ok (.aload_n 0, 1) ∧ decode cX12_apprenticeIs 80 = .ok (.getfield 30, 3) ∧ decode cX12_apprenticeIs 83 = .ok (.iload_n 1, 1) ∧ decode cX12_apprenticeIs 84 = .ok (.iaload, 1) ∧ decode cX12_apprenticeIs 85 = .ok (.ireturn, 1) ∧ decode cX12_apprenticeIs 86 = .ok (.aload_n 0, 1) := by decide +kernel
theorem dX12_apprenticeIs_79 : decode cX12_apprenticeIs 79 = .ok (.aload_n 0, 1) := dGX12_410.1
theorem dX12_apprenticeIs_80 : decode cX12_apprenticeIs 80 = .ok (.getfield 30, 3) := dGX12_410.2.1
theorem dX12_apprenticeIs_83 : decode cX12_apprenticeIs 83 = .ok (.iload_n 1, 1) := dGX12_410.2.2.1
theorem dX12_apprenticeIs_84 : decode cX12_apprenticeIs 84 = .ok (.iaload, 1) := dGX12_410.2.2.2.1
theorem dX12_apprenticeIs_85 : decode cX12_apprenticeIs 85 = .ok (.ireturn, 1) := dGX12_410.2.2.2.2.1
theorem dX12_apprenticeIs_86 : decode cX12_apprenticeIs 86 = .ok (.aload_n 0, 1) := dGX12_410.2.2.2.2.2
theorem dGX12_411 : decode cX12_apprenticeIs 87 = .ok (.getfield 36, 3) ∧ decode cX12_apprenticeIs 90 = .ok (.iload_n 1, 1) ∧ decode cX12_apprenticeIs 91 = .ok (.baload, 1) ∧ decode cX12_apprenticeIs 92 = .ok (.ifCond .eq 7, 3) ∧ decode cX12_apprenticeIs 95 = .ok (.iconst 1, 1) ∧ decode cX12_apprenticeIs 96 = .ok (.goto 4, 3) := by decide +kernel
theorem dX12_apprenticeIs_87 : decode cX12_apprenticeIs 87 = .ok (.getfield 36, 3) := dGX12_411.1
theorem dX12_apprenticeIs_90 : decode cX12_apprenticeIs 90 = .ok (.iload_n 1, 1) := dGX12_411.2.1
theorem dX12_apprenticeIs_91 : decode cX12_apprenticeIs 91 = .ok (.baload, 1) := dGX12_411.2.2.1
theorem dX12_apprenticeIs_92 : decode cX12_apprenticeIs 92 = .ok (.ifCond .eq 7, 3) := dGX12_411.2.2.2.1
theorem dX12_apprenticeIs_95 : decode cX12_apprenticeIs 95 = .ok (.iconst 1, 1) := dGX12_411.2.2.2.2.1
theorem dX12_apprenticeIs_96 : decode cX12_apprenticeIs 96 = .ok (.goto 4, 3) := dGX12_411.2.2.2.2.2
theorem dGX12_412 : decode cX12_apprenticeIs 99 = .ok (.iconst 0, 1) ∧ decode cX12_apprenticeIs 100 = .ok (.ireturn, 1) ∧ decode cX12_apprenticeIs 101 = .ok (.aload_n 0, 1) ∧ decode cX12_apprenticeIs 102 = .ok (.iload_n 1, 1) ∧ decode cX12_apprenticeIs 103 = .ok (.iconst (-1), 1) ∧ decode cX12_apprenticeIs 104 = .ok (.invokevirtual 414, 3) := by decide +kernel
theorem dX12_apprenticeIs_99 : decode cX12_apprenticeIs 99 = .ok (.iconst 0, 1) := dGX12_412.1
theorem dX12_apprenticeIs_100 : decode cX12_apprenticeIs 100 = .ok (.ireturn, 1) := dGX12_412.2.1
theorem dX12_apprenticeIs_101 : decode cX12_apprenticeIs 101 = .ok (.aload_n 0, 1) := dGX12_412.2.2.1
theorem dX12_apprenticeIs_102 : decode cX12_apprenticeIs 102 = .ok (.iload_n 1, 1) := dGX12_412.2.2.2.1
theorem dX12_apprenticeIs_103 : decode cX12_apprenticeIs 103 = .ok (.iconst (-1), 1) := dGX12_412.2.2.2.2.1
theorem dX12_apprenticeIs_104 : decode cX12_apprenticeIs 104 = .ok (.invokevirtual 414, 3) := dGX12_412.2.2.2.2.2
theorem dGX12_413 : decode cX12_apprenticeIs 107 = .ok (.ireturn, 1) ∧ decode cX12_apprenticeIs 108 = .ok (.aload_n 0, 1) ∧ decode cX12_apprenticeIs 109 = .ok (.getfield 40, 3) ∧ decode cX12_apprenticeIs 112 = .ok (.iload_n 1, 1) ∧ decode cX12_apprenticeIs 113 = .ok (.iaload, 1) ∧ decode cX12_apprenticeIs 114 = .ok (.ireturn, 1) := by decide +kernel
theorem dX12_apprenticeIs_107 : decode cX12_apprenticeIs 107 = .ok (.ireturn, 1) := dGX12_413.1
theorem dX12_apprenticeIs_108 : decode cX12_apprenticeIs 108 = .ok (.aload_n 0, 1) := dGX12_413.2.1
theorem dX12_apprenticeIs_109 : decode cX12_apprenticeIs 109 = .ok (.getfield 40, 3) := dGX12_413.2.2.1
theorem dX12_apprenticeIs_112 : decode cX12_apprenticeIs 112 = .ok (.iload_n 1, 1) := dGX12_413.2.2.2.1
theorem dX12_apprenticeIs_113 : decode cX12_apprenticeIs 113 = .ok (.iaload, 1) := dGX12_413.2.2.2.2.1
theorem dX12_apprenticeIs_114 : decode cX12_apprenticeIs 114 = .ok (.ireturn, 1) := dGX12_413.2.2.2.2.2
theorem dGX12_414 : decode cX12_apprenticeIs 115 = .ok (.iconst (-1), 1) ∧ decode cX12_apprenticeIs 116 = .ok (.ireturn, 1) ∧ decode cX12_masterIs 0 = .ok (.aload_n 0, 1) ∧ decode cX12_masterIs 1 = .ok (.iload_n 1, 1) ∧ decode cX12_masterIs 2 = .ok (.invokevirtual 201, 3) ∧ decode cX12_masterIs 5 = .ok (.ifCond .ne 5, 3) := by decide +kernel
theorem dX12_apprenticeIs_115 : decode cX12_apprenticeIs 115 = .ok (.iconst (-1), 1) := dGX12_414.1
theorem dX12_apprenticeIs_116 : decode cX12_apprenticeIs 116 = .ok (.ireturn, 1) := dGX12_414.2.1
theorem dX12_masterIs_0 : decode cX12_masterIs 0 = .ok (.aload_n 0, 1) := dGX12_414.2.2.1
theorem dX12_masterIs_1 : decode cX12_masterIs 1 = .ok (.iload_n 1, 1) := dGX12_414.2.2.2.1
theorem dX12_masterIs_2 : decode cX12_masterIs 2 = .ok (.invokevirtual 201, 3) := dGX12_414.2.2.2.2.1
theorem dX12_masterIs_5 : decode cX12_masterIs 5 = .ok (.ifCond .ne 5, 3) := dGX12_414.2.2.2.2.2
theorem dGX12_415 : decode cX12_masterIs 8 = .ok (.iconst (-1), 1) ∧ decode cX12_masterIs 9 = .ok (.ireturn, 1) ∧ decode cX12_masterIs 10 = .ok (.iload_n 2, 1) ∧ decode cX12_masterIs 11 = .ok (.tableswitch 76 0 4 #[33, 40, 47, 62, 69], 33) ∧ decode cX12_masterIs 44 = .ok (.aload_n 0, 1) ∧ decode cX12_masterIs 45 = .ok (.getfield 46, 3) := by decide +kernel
theorem dX12_masterIs_8 : decode cX12_masterIs 8 = .ok (.iconst (-1), 1) := dGX12_415.1
theorem dX12_masterIs_9 : decode cX12_masterIs 9 = .ok (.ireturn, 1) := dGX12_415.2.1
theorem dX12_masterIs_10 : decode cX12_masterIs 10 = .ok (.iload_n 2, 1) := dGX12_415.2.2.1
theorem dX12_masterIs_11 : decode cX12_masterIs 11 = .ok (.tableswitch 76 0 4 #[33, 40, 47, 62, 69], 33) := dGX12_415.2.2.2.1
theorem dX12_masterIs_44 : decode cX12_masterIs 44 = .ok (.aload_n 0, 1) := dGX12_415.2.2.2.2.1
theorem dX12_masterIs_45 : decode cX12_masterIs 45 = .ok (.getfield 46, 3) := dGX12_415.2.2.2.2.2
theorem dGX12_416 : decode cX12_masterIs 48 = .ok (.iload_n 1, 1) ∧ decode cX12_masterIs 49 = .ok (.iaload, 1) ∧ decode cX12_masterIs 50 = .ok (.ireturn, 1) ∧ decode cX12_masterIs 51 = .ok (.aload_n 0, 1) ∧ decode cX12_masterIs 52 = .ok (.getfield 43, 3) ∧ decode cX12_masterIs 55 = .ok (.iload_n 1, 1) := by decide +kernel
theorem dX12_masterIs_48 : decode cX12_masterIs 48 = .ok (.iload_n 1, 1) := dGX12_416.1
theorem dX12_masterIs_49 : decode cX12_masterIs 49 = .ok (.iaload, 1) := dGX12_416.2.1
theorem dX12_masterIs_50 : decode cX12_masterIs 50 = .ok (.ireturn, 1) := dGX12_416.2.2.1
theorem dX12_masterIs_51 : decode cX12_masterIs 51 = .ok (.aload_n 0, 1) := dGX12_416.2.2.2.1
theorem dX12_masterIs_52 : decode cX12_masterIs 52 = .ok (.getfield 43, 3) := dGX12_416.2.2.2.2.1
theorem dX12_masterIs_55 : decode cX12_masterIs 55 = .ok (.iload_n 1, 1) := dGX12_416.2.2.2.2.2
theorem dGX12_417 : decode cX12_masterIs 56 = .ok (.iaload, 1) ∧ decode cX12_masterIs 57 = .ok (.ireturn, 1) ∧ decode cX12_masterIs 58 = .ok (.aload_n 0, 1) ∧ decode cX12_masterIs 59 = .ok (.getfield 49, 3) ∧ decode cX12_masterIs 62 = .ok (.iload_n 1, 1) ∧ decode cX12_masterIs 63 = .ok (.baload, 1) := by decide +kernel
theorem dX12_masterIs_56 : decode cX12_masterIs 56 = .ok (.iaload, 1) := dGX12_417.1
theorem dX12_masterIs_57 : decode cX12_masterIs 57 = .ok (.ireturn, 1) := dGX12_417.2.1
theorem dX12_masterIs_58 : decode cX12_masterIs 58 = .ok (.aload_n 0, 1) := dGX12_417.2.2.1
theorem dX12_masterIs_59 : decode cX12_masterIs 59 = .ok (.getfield 49, 3) := dGX12_417.2.2.2.1
theorem dX12_masterIs_62 : decode cX12_masterIs 62 = .ok (.iload_n 1, 1) := dGX12_417.2.2.2.2.1
theorem dX12_masterIs_63 : decode cX12_masterIs 63 = .ok (.baload, 1) := dGX12_417.2.2.2.2.2
theorem dGX12_418 : decode cX12_masterIs 64 = .ok (.ifCond .eq 7, 3) ∧ decode cX12_masterIs 67 = .ok (.iconst 1, 1) ∧ decode cX12_masterIs 68 = .ok (.goto 4, 3) ∧ decode cX12_masterIs 71 = .ok (.iconst 0, 1) ∧ decode cX12_masterIs 72 = .ok (.ireturn, 1) ∧ decode cX12_masterIs 73 = .ok (.aload_n 0, 1) := by decide +kernel
theorem dX12_masterIs_64 : decode cX12_masterIs 64 = .ok (.ifCond .eq 7, 3) := dGX12_418.1
theorem dX12_masterIs_67 : decode cX12_masterIs 67 = .ok (.iconst 1, 1) := dGX12_418.2.1
theorem dX12_masterIs_68 : decode cX12_masterIs 68 = .ok (.goto 4, 3) := dGX12_418.2.2.1
theorem dX12_masterIs_71 : decode cX12_masterIs 71 = .ok (.iconst 0, 1) := dGX12_418.2.2.2.1
theorem dX12_masterIs_72 : decode cX12_masterIs 72 = .ok (.ireturn, 1) := dGX12_418.2.2.2.2.1
theorem dX12_masterIs_73 : decode cX12_masterIs 73 = .ok (.aload_n 0, 1) := dGX12_418.2.2.2.2.2
theorem dGX12_419 : decode cX12_masterIs 74 = .ok (.iconst (-1), 1) ∧ decode cX12_masterIs 75 = .ok (.iload_n 1, 1) ∧ decode cX12_masterIs 76 = .ok (.invokevirtual 414, 3) ∧ decode cX12_masterIs 79 = .ok (.ireturn, 1) ∧ decode cX12_masterIs 80 = .ok (.aload_n 0, 1) ∧ decode cX12_masterIs 81 = .ok (.getfield 52, 3) := by decide +kernel
theorem dX12_masterIs_74 : decode cX12_masterIs 74 = .ok (.iconst (-1), 1) := dGX12_419.1
theorem dX12_masterIs_75 : decode cX12_masterIs 75 = .ok (.iload_n 1, 1) := dGX12_419.2.1
theorem dX12_masterIs_76 : decode cX12_masterIs 76 = .ok (.invokevirtual 414, 3) := dGX12_419.2.2.1
theorem dX12_masterIs_79 : decode cX12_masterIs 79 = .ok (.ireturn, 1) := dGX12_419.2.2.2.1
theorem dX12_masterIs_80 : decode cX12_masterIs 80 = .ok (.aload_n 0, 1) := dGX12_419.2.2.2.2.1
theorem dX12_masterIs_81 : decode cX12_masterIs 81 = .ok (.getfield 52, 3) := dGX12_419.2.2.2.2.2
theorem dGX12_420 : decode cX12_masterIs 84 = .ok (.iload_n 1, 1) ∧ decode cX12_masterIs 85 = .ok (.iaload, 1) ∧ decode cX12_masterIs 86 = .ok (.ireturn, 1) ∧ decode cX12_masterIs 87 = .ok (.iconst (-1), 1) ∧ decode cX12_masterIs 88 = .ok (.ireturn, 1) ∧ decode cX12_setsAside 0 = .ok (.iconst 0, 1) := by decide +kernel
theorem dX12_masterIs_84 : decode cX12_masterIs 84 = .ok (.iload_n 1, 1) := dGX12_420.1
theorem dX12_masterIs_85 : decode cX12_masterIs 85 = .ok (.iaload, 1) := dGX12_420.2.1
theorem dX12_masterIs_86 : decode cX12_masterIs 86 = .ok (.ireturn, 1) := dGX12_420.2.2.1
theorem dX12_masterIs_87 : decode cX12_masterIs 87 = .ok (.iconst (-1), 1) := dGX12_420.2.2.2.1
theorem dX12_masterIs_88 : decode cX12_masterIs 88 = .ok (.ireturn, 1) := dGX12_420.2.2.2.2.1
theorem dX12_setsAside_0 : decode cX12_setsAside 0 = .ok (.iconst 0, 1) := dGX12_420.2.2.2.2.2
theorem dGX12_421 : decode cX12_setsAside 1 = .ok (.istore_n 2, 1) ∧ decode cX12_setsAside 2 = .ok (.iload_n 2, 1) ∧ decode cX12_setsAside 3 = .ok (.bipush 10, 2) ∧ decode cX12_setsAside 5 = .ok (.if_icmp .ge 60, 3) ∧ decode cX12_setsAside 8 = .ok (.aload_n 0, 1) ∧ decode cX12_setsAside 9 = .ok (.getfield 109, 3) := by decide +kernel
theorem dX12_setsAside_1 : decode cX12_setsAside 1 = .ok (.istore_n 2, 1) := dGX12_421.1
theorem dX12_setsAside_2 : decode cX12_setsAside 2 = .ok (.iload_n 2, 1) := dGX12_421.2.1
theorem dX12_setsAside_3 : decode cX12_setsAside 3 = .ok (.bipush 10, 2) := dGX12_421.2.2.1
theorem dX12_setsAside_5 : decode cX12_setsAside 5 = .ok (.if_icmp .ge 60, 3) := dGX12_421.2.2.2.1
theorem dX12_setsAside_8 : decode cX12_setsAside 8 = .ok (.aload_n 0, 1) := dGX12_421.2.2.2.2.1
theorem dX12_setsAside_9 : decode cX12_setsAside 9 = .ok (.getfield 109, 3) := dGX12_421.2.2.2.2.2
theorem dGX12_422 : decode cX12_setsAside 12 = .ok (.bipush 10, 2) ∧ decode cX12_setsAside 14 = .ok (.iload_n 1, 1) ∧ decode cX12_setsAside 15 = .ok (.imul, 1) ∧ decode cX12_setsAside 16 = .ok (.iload_n 2, 1) ∧ decode cX12_setsAside 17 = .ok (.iadd, 1) ∧ decode cX12_setsAside 18 = .ok (.aload_n 0, 1) := by decide +kernel
theorem dX12_setsAside_12 : decode cX12_setsAside 12 = .ok (.bipush 10, 2) := dGX12_422.1
theorem dX12_setsAside_14 : decode cX12_setsAside 14 = .ok (.iload_n 1, 1) := dGX12_422.2.1
theorem dX12_setsAside_15 : decode cX12_setsAside 15 = .ok (.imul, 1) := dGX12_422.2.2.1
theorem dX12_setsAside_16 : decode cX12_setsAside 16 = .ok (.iload_n 2, 1) := dGX12_422.2.2.2.1
theorem dX12_setsAside_17 : decode cX12_setsAside 17 = .ok (.iadd, 1) := dGX12_422.2.2.2.2.1
theorem dX12_setsAside_18 : decode cX12_setsAside 18 = .ok (.aload_n 0, 1) := dGX12_422.2.2.2.2.2
theorem dGX12_423 : decode cX12_setsAside 19 = .ok (.getfield 17, 3) ∧ decode cX12_setsAside 22 = .ok (.iload_n 2, 1) ∧ decode cX12_setsAside 23 = .ok (.iaload, 1) ∧ decode cX12_setsAside 24 = .ok (.iastore, 1) ∧ decode cX12_setsAside 25 = .ok (.aload_n 0, 1) ∧ decode cX12_setsAside 26 = .ok (.getfield 112, 3) := by decide +kernel
theorem dX12_setsAside_19 : decode cX12_setsAside 19 = .ok (.getfield 17, 3) := dGX12_423.1
theorem dX12_setsAside_22 : decode cX12_setsAside 22 = .ok (.iload_n 2, 1) := dGX12_423.2.1
theorem dX12_setsAside_23 : decode cX12_setsAside 23 = .ok (.iaload, 1) := dGX12_423.2.2.1
theorem dX12_setsAside_24 : decode cX12_setsAside 24 = .ok (.iastore, 1) := dGX12_423.2.2.2.1
theorem dX12_setsAside_25 : decode cX12_setsAside 25 = .ok (.aload_n 0, 1) := dGX12_423.2.2.2.2.1
theorem dX12_setsAside_26 : decode cX12_setsAside 26 = .ok (.getfield 112, 3) := dGX12_423.2.2.2.2.2
theorem dGX12_424 : decode cX12_setsAside 29 = .ok (.bipush 10, 2) ∧ decode cX12_setsAside 31 = .ok (.iload_n 1, 1) ∧ decode cX12_setsAside 32 = .ok (.imul, 1) ∧ decode cX12_setsAside 33 = .ok (.iload_n 2, 1) ∧ decode cX12_setsAside 34 = .ok (.iadd, 1) ∧ decode cX12_setsAside 35 = .ok (.aload_n 0, 1) := by decide +kernel
theorem dX12_setsAside_29 : decode cX12_setsAside 29 = .ok (.bipush 10, 2) := dGX12_424.1
theorem dX12_setsAside_31 : decode cX12_setsAside 31 = .ok (.iload_n 1, 1) := dGX12_424.2.1
theorem dX12_setsAside_32 : decode cX12_setsAside 32 = .ok (.imul, 1) := dGX12_424.2.2.1
theorem dX12_setsAside_33 : decode cX12_setsAside 33 = .ok (.iload_n 2, 1) := dGX12_424.2.2.2.1
theorem dX12_setsAside_34 : decode cX12_setsAside 34 = .ok (.iadd, 1) := dGX12_424.2.2.2.2.1
theorem dX12_setsAside_35 : decode cX12_setsAside 35 = .ok (.aload_n 0, 1) := dGX12_424.2.2.2.2.2
theorem dGX12_425 : decode cX12_setsAside 36 = .ok (.getfield 21, 3) ∧ decode cX12_setsAside 39 = .ok (.iload_n 2, 1) ∧ decode cX12_setsAside 40 = .ok (.iaload, 1) ∧ decode cX12_setsAside 41 = .ok (.iastore, 1) ∧ decode cX12_setsAside 42 = .ok (.aload_n 0, 1) ∧ decode cX12_setsAside 43 = .ok (.getfield 115, 3) := by decide +kernel
theorem dX12_setsAside_36 : decode cX12_setsAside 36 = .ok (.getfield 21, 3) := dGX12_425.1
theorem dX12_setsAside_39 : decode cX12_setsAside 39 = .ok (.iload_n 2, 1) := dGX12_425.2.1
theorem dX12_setsAside_40 : decode cX12_setsAside 40 = .ok (.iaload, 1) := dGX12_425.2.2.1
theorem dX12_setsAside_41 : decode cX12_setsAside 41 = .ok (.iastore, 1) := dGX12_425.2.2.2.1
theorem dX12_setsAside_42 : decode cX12_setsAside 42 = .ok (.aload_n 0, 1) := dGX12_425.2.2.2.2.1
theorem dX12_setsAside_43 : decode cX12_setsAside 43 = .ok (.getfield 115, 3) := dGX12_425.2.2.2.2.2
theorem dGX12_426 : decode cX12_setsAside 46 = .ok (.bipush 10, 2) ∧ decode cX12_setsAside 48 = .ok (.iload_n 1, 1) ∧ decode cX12_setsAside 49 = .ok (.imul, 1) ∧ decode cX12_setsAside 50 = .ok (.iload_n 2, 1) ∧ decode cX12_setsAside 51 = .ok (.iadd, 1) ∧ decode cX12_setsAside 52 = .ok (.aload_n 0, 1) := by decide +kernel
theorem dX12_setsAside_46 : decode cX12_setsAside 46 = .ok (.bipush 10, 2) := dGX12_426.1
theorem dX12_setsAside_48 : decode cX12_setsAside 48 = .ok (.iload_n 1, 1) := dGX12_426.2.1
theorem dX12_setsAside_49 : decode cX12_setsAside 49 = .ok (.imul, 1) := dGX12_426.2.2.1
theorem dX12_setsAside_50 : decode cX12_setsAside 50 = .ok (.iload_n 2, 1) := dGX12_426.2.2.2.1
theorem dX12_setsAside_51 : decode cX12_setsAside 51 = .ok (.iadd, 1) := dGX12_426.2.2.2.2.1
theorem dX12_setsAside_52 : decode cX12_setsAside 52 = .ok (.aload_n 0, 1) := dGX12_426.2.2.2.2.2
theorem dGX12_427 : decode cX12_setsAside 53 = .ok (.getfield 24, 3) ∧ decode cX12_setsAside 56 = .ok (.iload_n 2, 1) ∧ decode cX12_setsAside 57 = .ok (.iaload, 1) ∧ decode cX12_setsAside 58 = .ok (.iastore, 1) ∧ decode cX12_setsAside 59 = .ok (.iinc 2 1, 3) ∧ decode cX12_setsAside 62 = .ok (.goto (-60), 3) := by decide +kernel
theorem dX12_setsAside_53 : decode cX12_setsAside 53 = .ok (.getfield 24, 3) := dGX12_427.1
theorem dX12_setsAside_56 : decode cX12_setsAside 56 = .ok (.iload_n 2, 1) := dGX12_427.2.1
theorem dX12_setsAside_57 : decode cX12_setsAside 57 = .ok (.iaload, 1) := dGX12_427.2.2.1
theorem dX12_setsAside_58 : decode cX12_setsAside 58 = .ok (.iastore, 1) := dGX12_427.2.2.2.1
theorem dX12_setsAside_59 : decode cX12_setsAside 59 = .ok (.iinc 2 1, 3) := dGX12_427.2.2.2.2.1
theorem dX12_setsAside_62 : decode cX12_setsAside 62 = .ok (.goto (-60), 3) := dGX12_427.2.2.2.2.2
theorem dGX12_428 : decode cX12_setsAside 65 = .ok (.iconst 0, 1) ∧ decode cX12_setsAside 66 = .ok (.istore_n 2, 1) ∧ decode cX12_setsAside 67 = .ok (.iload_n 2, 1) ∧ decode cX12_setsAside 68 = .ok (.bipush 8, 2) ∧ decode cX12_setsAside 70 = .ok (.if_icmp .ge 145, 3) ∧ decode cX12_setsAside 73 = .ok (.aload_n 0, 1) := by decide +kernel
theorem dX12_setsAside_65 : decode cX12_setsAside 65 = .ok (.iconst 0, 1) := dGX12_428.1
theorem dX12_setsAside_66 : decode cX12_setsAside 66 = .ok (.istore_n 2, 1) := dGX12_428.2.1
theorem dX12_setsAside_67 : decode cX12_setsAside 67 = .ok (.iload_n 2, 1) := dGX12_428.2.2.1
theorem dX12_setsAside_68 : decode cX12_setsAside 68 = .ok (.bipush 8, 2) := dGX12_428.2.2.2.1
theorem dX12_setsAside_70 : decode cX12_setsAside 70 = .ok (.if_icmp .ge 145, 3) := dGX12_428.2.2.2.2.1
theorem dX12_setsAside_73 : decode cX12_setsAside 73 = .ok (.aload_n 0, 1) := dGX12_428.2.2.2.2.2
theorem dGX12_429 : decode cX12_setsAside 74 = .ok (.getfield 118, 3) ∧ decode cX12_setsAside 77 = .ok (.bipush 8, 2) ∧ decode cX12_setsAside 79 = .ok (.iload_n 1, 1) ∧ decode cX12_setsAside 80 = .ok (.imul, 1) ∧ decode cX12_setsAside 81 = .ok (.iload_n 2, 1) ∧ decode cX12_setsAside 82 = .ok (.iadd, 1) := by decide +kernel
theorem dX12_setsAside_74 : decode cX12_setsAside 74 = .ok (.getfield 118, 3) := dGX12_429.1
theorem dX12_setsAside_77 : decode cX12_setsAside 77 = .ok (.bipush 8, 2) := dGX12_429.2.1
theorem dX12_setsAside_79 : decode cX12_setsAside 79 = .ok (.iload_n 1, 1) := dGX12_429.2.2.1
theorem dX12_setsAside_80 : decode cX12_setsAside 80 = .ok (.imul, 1) := dGX12_429.2.2.2.1
theorem dX12_setsAside_81 : decode cX12_setsAside 81 = .ok (.iload_n 2, 1) := dGX12_429.2.2.2.2.1
theorem dX12_setsAside_82 : decode cX12_setsAside 82 = .ok (.iadd, 1) := dGX12_429.2.2.2.2.2
theorem dGX12_430 : decode cX12_setsAside 83 = .ok (.aload_n 0, 1) ∧ decode cX12_setsAside 84 = .ok (.getfield 27, 3) ∧ decode cX12_setsAside 87 = .ok (.iload_n 2, 1) ∧ decode cX12_setsAside 88 = .ok (.iaload, 1) ∧ decode cX12_setsAside 89 = .ok (.iastore, 1) ∧ decode cX12_setsAside 90 = .ok (.aload_n 0, 1) := by decide +kernel
theorem dX12_setsAside_83 : decode cX12_setsAside 83 = .ok (.aload_n 0, 1) := dGX12_430.1
theorem dX12_setsAside_84 : decode cX12_setsAside 84 = .ok (.getfield 27, 3) := dGX12_430.2.1
theorem dX12_setsAside_87 : decode cX12_setsAside 87 = .ok (.iload_n 2, 1) := dGX12_430.2.2.1
theorem dX12_setsAside_88 : decode cX12_setsAside 88 = .ok (.iaload, 1) := dGX12_430.2.2.2.1
theorem dX12_setsAside_89 : decode cX12_setsAside 89 = .ok (.iastore, 1) := dGX12_430.2.2.2.2.1
theorem dX12_setsAside_90 : decode cX12_setsAside 90 = .ok (.aload_n 0, 1) := dGX12_430.2.2.2.2.2
theorem dGX12_431 : decode cX12_setsAside 91 = .ok (.getfield 121, 3) ∧ decode cX12_setsAside 94 = .ok (.bipush 8, 2) ∧ decode cX12_setsAside 96 = .ok (.iload_n 1, 1) ∧ decode cX12_setsAside 97 = .ok (.imul, 1) ∧ decode cX12_setsAside 98 = .ok (.iload_n 2, 1) ∧ decode cX12_setsAside 99 = .ok (.iadd, 1) := by decide +kernel
theorem dX12_setsAside_91 : decode cX12_setsAside 91 = .ok (.getfield 121, 3) := dGX12_431.1
theorem dX12_setsAside_94 : decode cX12_setsAside 94 = .ok (.bipush 8, 2) := dGX12_431.2.1
theorem dX12_setsAside_96 : decode cX12_setsAside 96 = .ok (.iload_n 1, 1) := dGX12_431.2.2.1
theorem dX12_setsAside_97 : decode cX12_setsAside 97 = .ok (.imul, 1) := dGX12_431.2.2.2.1
theorem dX12_setsAside_98 : decode cX12_setsAside 98 = .ok (.iload_n 2, 1) := dGX12_431.2.2.2.2.1
theorem dX12_setsAside_99 : decode cX12_setsAside 99 = .ok (.iadd, 1) := dGX12_431.2.2.2.2.2
theorem dGX12_432 : decode cX12_setsAside 100 = .ok (.aload_n 0, 1) ∧ decode cX12_setsAside 101 = .ok (.getfield 30, 3) ∧ decode cX12_setsAside 104 = .ok (.iload_n 2, 1) ∧ decode cX12_setsAside 105 = .ok (.iaload, 1) ∧ decode cX12_setsAside 106 = .ok (.iastore, 1) ∧ decode cX12_setsAside 107 = .ok (.aload_n 0, 1) := by decide +kernel
theorem dX12_setsAside_100 : decode cX12_setsAside 100 = .ok (.aload_n 0, 1) := dGX12_432.1
theorem dX12_setsAside_101 : decode cX12_setsAside 101 = .ok (.getfield 30, 3) := dGX12_432.2.1
theorem dX12_setsAside_104 : decode cX12_setsAside 104 = .ok (.iload_n 2, 1) := dGX12_432.2.2.1
theorem dX12_setsAside_105 : decode cX12_setsAside 105 = .ok (.iaload, 1) := dGX12_432.2.2.2.1
theorem dX12_setsAside_106 : decode cX12_setsAside 106 = .ok (.iastore, 1) := dGX12_432.2.2.2.2.1
theorem dX12_setsAside_107 : decode cX12_setsAside 107 = .ok (.aload_n 0, 1) := dGX12_432.2.2.2.2.2
theorem dGX12_433 : decode cX12_setsAside 108 = .ok (.getfield 127, 3) ∧ decode cX12_setsAside 111 = .ok (.bipush 8, 2) ∧ decode cX12_setsAside 113 = .ok (.iload_n 1, 1) ∧ decode cX12_setsAside 114 = .ok (.imul, 1) ∧ decode cX12_setsAside 115 = .ok (.iload_n 2, 1) ∧ decode cX12_setsAside 116 = .ok (.iadd, 1) := by decide +kernel
theorem dX12_setsAside_108 : decode cX12_setsAside 108 = .ok (.getfield 127, 3) := dGX12_433.1
theorem dX12_setsAside_111 : decode cX12_setsAside 111 = .ok (.bipush 8, 2) := dGX12_433.2.1
theorem dX12_setsAside_113 : decode cX12_setsAside 113 = .ok (.iload_n 1, 1) := dGX12_433.2.2.1
theorem dX12_setsAside_114 : decode cX12_setsAside 114 = .ok (.imul, 1) := dGX12_433.2.2.2.1
theorem dX12_setsAside_115 : decode cX12_setsAside 115 = .ok (.iload_n 2, 1) := dGX12_433.2.2.2.2.1
theorem dX12_setsAside_116 : decode cX12_setsAside 116 = .ok (.iadd, 1) := dGX12_433.2.2.2.2.2
theorem dGX12_434 : decode cX12_setsAside 117 = .ok (.aload_n 0, 1) ∧ decode cX12_setsAside 118 = .ok (.getfield 36, 3) ∧ decode cX12_setsAside 121 = .ok (.iload_n 2, 1) ∧ decode cX12_setsAside 122 = .ok (.baload, 1) ∧ decode cX12_setsAside 123 = .ok (.bastore, 1) ∧ decode cX12_setsAside 124 = .ok (.aload_n 0, 1) := by decide +kernel
theorem dX12_setsAside_117 : decode cX12_setsAside 117 = .ok (.aload_n 0, 1) := dGX12_434.1
theorem dX12_setsAside_118 : decode cX12_setsAside 118 = .ok (.getfield 36, 3) := dGX12_434.2.1
theorem dX12_setsAside_121 : decode cX12_setsAside 121 = .ok (.iload_n 2, 1) := dGX12_434.2.2.1
theorem dX12_setsAside_122 : decode cX12_setsAside 122 = .ok (.baload, 1) := dGX12_434.2.2.2.1
theorem dX12_setsAside_123 : decode cX12_setsAside 123 = .ok (.bastore, 1) := dGX12_434.2.2.2.2.1
theorem dX12_setsAside_124 : decode cX12_setsAside 124 = .ok (.aload_n 0, 1) := dGX12_434.2.2.2.2.2
theorem dGX12_435 : decode cX12_setsAside 125 = .ok (.getfield 130, 3) ∧ decode cX12_setsAside 128 = .ok (.bipush 8, 2) ∧ decode cX12_setsAside 130 = .ok (.iload_n 1, 1) ∧ decode cX12_setsAside 131 = .ok (.imul, 1) ∧ decode cX12_setsAside 132 = .ok (.iload_n 2, 1) ∧ decode cX12_setsAside 133 = .ok (.iadd, 1) := by decide +kernel
theorem dX12_setsAside_125 : decode cX12_setsAside 125 = .ok (.getfield 130, 3) := dGX12_435.1
theorem dX12_setsAside_128 : decode cX12_setsAside 128 = .ok (.bipush 8, 2) := dGX12_435.2.1
theorem dX12_setsAside_130 : decode cX12_setsAside 130 = .ok (.iload_n 1, 1) := dGX12_435.2.2.1
theorem dX12_setsAside_131 : decode cX12_setsAside 131 = .ok (.imul, 1) := dGX12_435.2.2.2.1
theorem dX12_setsAside_132 : decode cX12_setsAside 132 = .ok (.iload_n 2, 1) := dGX12_435.2.2.2.2.1
theorem dX12_setsAside_133 : decode cX12_setsAside 133 = .ok (.iadd, 1) := dGX12_435.2.2.2.2.2
theorem dGX12_436 : decode cX12_setsAside 134 = .ok (.aload_n 0, 1) ∧ decode cX12_setsAside 135 = .ok (.getfield 40, 3) ∧ decode cX12_setsAside 138 = .ok (.iload_n 2, 1) ∧ decode cX12_setsAside 139 = .ok (.iaload, 1) ∧ decode cX12_setsAside 140 = .ok (.iastore, 1) ∧ decode cX12_setsAside 141 = .ok (.aload_n 0, 1) := by decide +kernel
theorem dX12_setsAside_134 : decode cX12_setsAside 134 = .ok (.aload_n 0, 1) := dGX12_436.1
theorem dX12_setsAside_135 : decode cX12_setsAside 135 = .ok (.getfield 40, 3) := dGX12_436.2.1
theorem dX12_setsAside_138 : decode cX12_setsAside 138 = .ok (.iload_n 2, 1) := dGX12_436.2.2.1
theorem dX12_setsAside_139 : decode cX12_setsAside 139 = .ok (.iaload, 1) := dGX12_436.2.2.2.1
theorem dX12_setsAside_140 : decode cX12_setsAside 140 = .ok (.iastore, 1) := dGX12_436.2.2.2.2.1
theorem dX12_setsAside_141 : decode cX12_setsAside 141 = .ok (.aload_n 0, 1) := dGX12_436.2.2.2.2.2
theorem dGX12_437 : decode cX12_setsAside 142 = .ok (.getfield 133, 3) ∧ decode cX12_setsAside 145 = .ok (.bipush 8, 2) ∧ decode cX12_setsAside 147 = .ok (.iload_n 1, 1) ∧ decode cX12_setsAside 148 = .ok (.imul, 1) ∧ decode cX12_setsAside 149 = .ok (.iload_n 2, 1) ∧ decode cX12_setsAside 150 = .ok (.iadd, 1) := by decide +kernel
theorem dX12_setsAside_142 : decode cX12_setsAside 142 = .ok (.getfield 133, 3) := dGX12_437.1
theorem dX12_setsAside_145 : decode cX12_setsAside 145 = .ok (.bipush 8, 2) := dGX12_437.2.1
theorem dX12_setsAside_147 : decode cX12_setsAside 147 = .ok (.iload_n 1, 1) := dGX12_437.2.2.1
theorem dX12_setsAside_148 : decode cX12_setsAside 148 = .ok (.imul, 1) := dGX12_437.2.2.2.1
theorem dX12_setsAside_149 : decode cX12_setsAside 149 = .ok (.iload_n 2, 1) := dGX12_437.2.2.2.2.1
theorem dX12_setsAside_150 : decode cX12_setsAside 150 = .ok (.iadd, 1) := dGX12_437.2.2.2.2.2
theorem dGX12_438 : decode cX12_setsAside 151 = .ok (.aload_n 0, 1) ∧ decode cX12_setsAside 152 = .ok (.getfield 43, 3) ∧ decode cX12_setsAside 155 = .ok (.iload_n 2, 1) ∧ decode cX12_setsAside 156 = .ok (.iaload, 1) ∧ decode cX12_setsAside 157 = .ok (.iastore, 1) ∧ decode cX12_setsAside 158 = .ok (.aload_n 0, 1) := by decide +kernel
theorem dX12_setsAside_151 : decode cX12_setsAside 151 = .ok (.aload_n 0, 1) := dGX12_438.1
theorem dX12_setsAside_152 : decode cX12_setsAside 152 = .ok (.getfield 43, 3) := dGX12_438.2.1
theorem dX12_setsAside_155 : decode cX12_setsAside 155 = .ok (.iload_n 2, 1) := dGX12_438.2.2.1
theorem dX12_setsAside_156 : decode cX12_setsAside 156 = .ok (.iaload, 1) := dGX12_438.2.2.2.1
theorem dX12_setsAside_157 : decode cX12_setsAside 157 = .ok (.iastore, 1) := dGX12_438.2.2.2.2.1
theorem dX12_setsAside_158 : decode cX12_setsAside 158 = .ok (.aload_n 0, 1) := dGX12_438.2.2.2.2.2
theorem dGX12_439 : decode cX12_setsAside 159 = .ok (.getfield 136, 3) ∧ decode cX12_setsAside 162 = .ok (.bipush 8, 2) ∧ decode cX12_setsAside 164 = .ok (.iload_n 1, 1) ∧ decode cX12_setsAside 165 = .ok (.imul, 1) ∧ decode cX12_setsAside 166 = .ok (.iload_n 2, 1) ∧ decode cX12_setsAside 167 = .ok (.iadd, 1) := by decide +kernel
theorem dX12_setsAside_159 : decode cX12_setsAside 159 = .ok (.getfield 136, 3) := dGX12_439.1
theorem dX12_setsAside_162 : decode cX12_setsAside 162 = .ok (.bipush 8, 2) := dGX12_439.2.1
theorem dX12_setsAside_164 : decode cX12_setsAside 164 = .ok (.iload_n 1, 1) := dGX12_439.2.2.1
theorem dX12_setsAside_165 : decode cX12_setsAside 165 = .ok (.imul, 1) := dGX12_439.2.2.2.1
theorem dX12_setsAside_166 : decode cX12_setsAside 166 = .ok (.iload_n 2, 1) := dGX12_439.2.2.2.2.1
theorem dX12_setsAside_167 : decode cX12_setsAside 167 = .ok (.iadd, 1) := dGX12_439.2.2.2.2.2
theorem dGX12_440 : decode cX12_setsAside 168 = .ok (.aload_n 0, 1) ∧ decode cX12_setsAside 169 = .ok (.getfield 46, 3) ∧ decode cX12_setsAside 172 = .ok (.iload_n 2, 1) ∧ decode cX12_setsAside 173 = .ok (.iaload, 1) ∧ decode cX12_setsAside 174 = .ok (.iastore, 1) ∧ decode cX12_setsAside 175 = .ok (.aload_n 0, 1) := by decide +kernel
theorem dX12_setsAside_168 : decode cX12_setsAside 168 = .ok (.aload_n 0, 1) := dGX12_440.1
theorem dX12_setsAside_169 : decode cX12_setsAside 169 = .ok (.getfield 46, 3) := dGX12_440.2.1
theorem dX12_setsAside_172 : decode cX12_setsAside 172 = .ok (.iload_n 2, 1) := dGX12_440.2.2.1
theorem dX12_setsAside_173 : decode cX12_setsAside 173 = .ok (.iaload, 1) := dGX12_440.2.2.2.1
theorem dX12_setsAside_174 : decode cX12_setsAside 174 = .ok (.iastore, 1) := dGX12_440.2.2.2.2.1
theorem dX12_setsAside_175 : decode cX12_setsAside 175 = .ok (.aload_n 0, 1) := dGX12_440.2.2.2.2.2
theorem dGX12_441 : decode cX12_setsAside 176 = .ok (.getfield 139, 3) ∧ decode cX12_setsAside 179 = .ok (.bipush 8, 2) ∧ decode cX12_setsAside 181 = .ok (.iload_n 1, 1) ∧ decode cX12_setsAside 182 = .ok (.imul, 1) ∧ decode cX12_setsAside 183 = .ok (.iload_n 2, 1) ∧ decode cX12_setsAside 184 = .ok (.iadd, 1) := by decide +kernel
theorem dX12_setsAside_176 : decode cX12_setsAside 176 = .ok (.getfield 139, 3) := dGX12_441.1
theorem dX12_setsAside_179 : decode cX12_setsAside 179 = .ok (.bipush 8, 2) := dGX12_441.2.1
theorem dX12_setsAside_181 : decode cX12_setsAside 181 = .ok (.iload_n 1, 1) := dGX12_441.2.2.1
theorem dX12_setsAside_182 : decode cX12_setsAside 182 = .ok (.imul, 1) := dGX12_441.2.2.2.1
theorem dX12_setsAside_183 : decode cX12_setsAside 183 = .ok (.iload_n 2, 1) := dGX12_441.2.2.2.2.1
theorem dX12_setsAside_184 : decode cX12_setsAside 184 = .ok (.iadd, 1) := dGX12_441.2.2.2.2.2
theorem dGX12_442 : decode cX12_setsAside 185 = .ok (.aload_n 0, 1) ∧ decode cX12_setsAside 186 = .ok (.getfield 49, 3) ∧ decode cX12_setsAside 189 = .ok (.iload_n 2, 1) ∧ decode cX12_setsAside 190 = .ok (.baload, 1) ∧ decode cX12_setsAside 191 = .ok (.bastore, 1) ∧ decode cX12_setsAside 192 = .ok (.aload_n 0, 1) := by decide +kernel
theorem dX12_setsAside_185 : decode cX12_setsAside 185 = .ok (.aload_n 0, 1) := dGX12_442.1
theorem dX12_setsAside_186 : decode cX12_setsAside 186 = .ok (.getfield 49, 3) := dGX12_442.2.1
theorem dX12_setsAside_189 : decode cX12_setsAside 189 = .ok (.iload_n 2, 1) := dGX12_442.2.2.1
theorem dX12_setsAside_190 : decode cX12_setsAside 190 = .ok (.baload, 1) := dGX12_442.2.2.2.1
theorem dX12_setsAside_191 : decode cX12_setsAside 191 = .ok (.bastore, 1) := dGX12_442.2.2.2.2.1
theorem dX12_setsAside_192 : decode cX12_setsAside 192 = .ok (.aload_n 0, 1) := dGX12_442.2.2.2.2.2
theorem dGX12_443 : decode cX12_setsAside 193 = .ok (.getfield 142, 3) ∧ decode cX12_setsAside 196 = .ok (.bipush 8, 2) ∧ decode cX12_setsAside 198 = .ok (.iload_n 1, 1) ∧ decode cX12_setsAside 199 = .ok (.imul, 1) ∧ decode cX12_setsAside 200 = .ok (.iload_n 2, 1) ∧ decode cX12_setsAside 201 = .ok (.iadd, 1) := by decide +kernel
theorem dX12_setsAside_193 : decode cX12_setsAside 193 = .ok (.getfield 142, 3) := dGX12_443.1
theorem dX12_setsAside_196 : decode cX12_setsAside 196 = .ok (.bipush 8, 2) := dGX12_443.2.1
theorem dX12_setsAside_198 : decode cX12_setsAside 198 = .ok (.iload_n 1, 1) := dGX12_443.2.2.1
theorem dX12_setsAside_199 : decode cX12_setsAside 199 = .ok (.imul, 1) := dGX12_443.2.2.2.1
theorem dX12_setsAside_200 : decode cX12_setsAside 200 = .ok (.iload_n 2, 1) := dGX12_443.2.2.2.2.1
theorem dX12_setsAside_201 : decode cX12_setsAside 201 = .ok (.iadd, 1) := dGX12_443.2.2.2.2.2
theorem dGX12_444 : decode cX12_setsAside 202 = .ok (.aload_n 0, 1) ∧ decode cX12_setsAside 203 = .ok (.getfield 52, 3) ∧ decode cX12_setsAside 206 = .ok (.iload_n 2, 1) ∧ decode cX12_setsAside 207 = .ok (.iaload, 1) ∧ decode cX12_setsAside 208 = .ok (.iastore, 1) ∧ decode cX12_setsAside 209 = .ok (.iinc 2 1, 3) := by decide +kernel
theorem dX12_setsAside_202 : decode cX12_setsAside 202 = .ok (.aload_n 0, 1) := dGX12_444.1
theorem dX12_setsAside_203 : decode cX12_setsAside 203 = .ok (.getfield 52, 3) := dGX12_444.2.1
theorem dX12_setsAside_206 : decode cX12_setsAside 206 = .ok (.iload_n 2, 1) := dGX12_444.2.2.1
theorem dX12_setsAside_207 : decode cX12_setsAside 207 = .ok (.iaload, 1) := dGX12_444.2.2.2.1
theorem dX12_setsAside_208 : decode cX12_setsAside 208 = .ok (.iastore, 1) := dGX12_444.2.2.2.2.1
theorem dX12_setsAside_209 : decode cX12_setsAside 209 = .ok (.iinc 2 1, 3) := dGX12_444.2.2.2.2.2
theorem dGX12_445 : decode cX12_setsAside 212 = .ok (.goto (-145), 3) ∧ decode cX12_setsAside 215 = .ok (.iconst 0, 1) ∧ decode cX12_setsAside 216 = .ok (.istore_n 2, 1) ∧ decode cX12_setsAside 217 = .ok (.iload_n 2, 1) ∧ decode cX12_setsAside 218 = .ok (.bipush 40, 2) ∧ decode cX12_setsAside 220 = .ok (.if_icmp .ge 26, 3) := by decide +kernel
theorem dX12_setsAside_212 : decode cX12_setsAside 212 = .ok (.goto (-145), 3) := dGX12_445.1
theorem dX12_setsAside_215 : decode cX12_setsAside 215 = .ok (.iconst 0, 1) := dGX12_445.2.1
theorem dX12_setsAside_216 : decode cX12_setsAside 216 = .ok (.istore_n 2, 1) := dGX12_445.2.2.1
theorem dX12_setsAside_217 : decode cX12_setsAside 217 = .ok (.iload_n 2, 1) := dGX12_445.2.2.2.1
theorem dX12_setsAside_218 : decode cX12_setsAside 218 = .ok (.bipush 40, 2) := dGX12_445.2.2.2.2.1
theorem dX12_setsAside_220 : decode cX12_setsAside 220 = .ok (.if_icmp .ge 26, 3) := dGX12_445.2.2.2.2.2
theorem dGX12_446 : decode cX12_setsAside 223 = .ok (.aload_n 0, 1) ∧ decode cX12_setsAside 224 = .ok (.getfield 124, 3) ∧ decode cX12_setsAside 227 = .ok (.bipush 40, 2) ∧ decode cX12_setsAside 229 = .ok (.iload_n 1, 1) ∧ decode cX12_setsAside 230 = .ok (.imul, 1) ∧ decode cX12_setsAside 231 = .ok (.iload_n 2, 1) := by decide +kernel
theorem dX12_setsAside_223 : decode cX12_setsAside 223 = .ok (.aload_n 0, 1) := dGX12_446.1
theorem dX12_setsAside_224 : decode cX12_setsAside 224 = .ok (.getfield 124, 3) := dGX12_446.2.1
theorem dX12_setsAside_227 : decode cX12_setsAside 227 = .ok (.bipush 40, 2) := dGX12_446.2.2.1
theorem dX12_setsAside_229 : decode cX12_setsAside 229 = .ok (.iload_n 1, 1) := dGX12_446.2.2.2.1
theorem dX12_setsAside_230 : decode cX12_setsAside 230 = .ok (.imul, 1) := dGX12_446.2.2.2.2.1
theorem dX12_setsAside_231 : decode cX12_setsAside 231 = .ok (.iload_n 2, 1) := dGX12_446.2.2.2.2.2
theorem dGX12_447 : decode cX12_setsAside 232 = .ok (.iadd, 1) ∧ decode cX12_setsAside 233 = .ok (.aload_n 0, 1) ∧ decode cX12_setsAside 234 = .ok (.getfield 33, 3) ∧ decode cX12_setsAside 237 = .ok (.iload_n 2, 1) ∧ decode cX12_setsAside 238 = .ok (.iaload, 1) ∧ decode cX12_setsAside 239 = .ok (.iastore, 1) := by decide +kernel
theorem dX12_setsAside_232 : decode cX12_setsAside 232 = .ok (.iadd, 1) := dGX12_447.1
theorem dX12_setsAside_233 : decode cX12_setsAside 233 = .ok (.aload_n 0, 1) := dGX12_447.2.1
theorem dX12_setsAside_234 : decode cX12_setsAside 234 = .ok (.getfield 33, 3) := dGX12_447.2.2.1
theorem dX12_setsAside_237 : decode cX12_setsAside 237 = .ok (.iload_n 2, 1) := dGX12_447.2.2.2.1
theorem dX12_setsAside_238 : decode cX12_setsAside 238 = .ok (.iaload, 1) := dGX12_447.2.2.2.2.1
theorem dX12_setsAside_239 : decode cX12_setsAside 239 = .ok (.iastore, 1) := dGX12_447.2.2.2.2.2
theorem dGX12_448 : decode cX12_setsAside 240 = .ok (.iinc 2 1, 3) ∧ decode cX12_setsAside 243 = .ok (.goto (-26), 3) ∧ decode cX12_setsAside 246 = .ok (.iconst 0, 1) ∧ decode cX12_setsAside 247 = .ok (.istore_n 2, 1) ∧ decode cX12_setsAside 248 = .ok (.iload_n 2, 1) ∧ decode cX12_setsAside 249 = .ok (.bipush 64, 2) := by decide +kernel
theorem dX12_setsAside_240 : decode cX12_setsAside 240 = .ok (.iinc 2 1, 3) := dGX12_448.1
theorem dX12_setsAside_243 : decode cX12_setsAside 243 = .ok (.goto (-26), 3) := dGX12_448.2.1
theorem dX12_setsAside_246 : decode cX12_setsAside 246 = .ok (.iconst 0, 1) := dGX12_448.2.2.1
theorem dX12_setsAside_247 : decode cX12_setsAside 247 = .ok (.istore_n 2, 1) := dGX12_448.2.2.2.1
theorem dX12_setsAside_248 : decode cX12_setsAside 248 = .ok (.iload_n 2, 1) := dGX12_448.2.2.2.2.1
theorem dX12_setsAside_249 : decode cX12_setsAside 249 = .ok (.bipush 64, 2) := dGX12_448.2.2.2.2.2
theorem dGX12_449 : decode cX12_setsAside 251 = .ok (.if_icmp .ge 43, 3) ∧ decode cX12_setsAside 254 = .ok (.aload_n 0, 1) ∧ decode cX12_setsAside 255 = .ok (.getfield 145, 3) ∧ decode cX12_setsAside 258 = .ok (.bipush 64, 2) ∧ decode cX12_setsAside 260 = .ok (.iload_n 1, 1) ∧ decode cX12_setsAside 261 = .ok (.imul, 1) := by decide +kernel
theorem dX12_setsAside_251 : decode cX12_setsAside 251 = .ok (.if_icmp .ge 43, 3) := dGX12_449.1
theorem dX12_setsAside_254 : decode cX12_setsAside 254 = .ok (.aload_n 0, 1) := dGX12_449.2.1
theorem dX12_setsAside_255 : decode cX12_setsAside 255 = .ok (.getfield 145, 3) := dGX12_449.2.2.1
theorem dX12_setsAside_258 : decode cX12_setsAside 258 = .ok (.bipush 64, 2) := dGX12_449.2.2.2.1
theorem dX12_setsAside_260 : decode cX12_setsAside 260 = .ok (.iload_n 1, 1) := dGX12_449.2.2.2.2.1
theorem dX12_setsAside_261 : decode cX12_setsAside 261 = .ok (.imul, 1) := dGX12_449.2.2.2.2.2
theorem dGX12_450 : decode cX12_setsAside 262 = .ok (.iload_n 2, 1) ∧ decode cX12_setsAside 263 = .ok (.iadd, 1) ∧ decode cX12_setsAside 264 = .ok (.aload_n 0, 1) ∧ decode cX12_setsAside 265 = .ok (.getfield 55, 3) ∧ decode cX12_setsAside 268 = .ok (.iload_n 2, 1) ∧ decode cX12_setsAside 269 = .ok (.iaload, 1) := by decide +kernel
theorem dX12_setsAside_262 : decode cX12_setsAside 262 = .ok (.iload_n 2, 1) := dGX12_450.1
theorem dX12_setsAside_263 : decode cX12_setsAside 263 = .ok (.iadd, 1) := dGX12_450.2.1
theorem dX12_setsAside_264 : decode cX12_setsAside 264 = .ok (.aload_n 0, 1) := dGX12_450.2.2.1
theorem dX12_setsAside_265 : decode cX12_setsAside 265 = .ok (.getfield 55, 3) := dGX12_450.2.2.2.1
theorem dX12_setsAside_268 : decode cX12_setsAside 268 = .ok (.iload_n 2, 1) := dGX12_450.2.2.2.2.1
theorem dX12_setsAside_269 : decode cX12_setsAside 269 = .ok (.iaload, 1) := dGX12_450.2.2.2.2.2
theorem dGX12_451 : decode cX12_setsAside 270 = .ok (.iastore, 1) ∧ decode cX12_setsAside 271 = .ok (.aload_n 0, 1) ∧ decode cX12_setsAside 272 = .ok (.getfield 148, 3) ∧ decode cX12_setsAside 275 = .ok (.bipush 64, 2) ∧ decode cX12_setsAside 277 = .ok (.iload_n 1, 1) ∧ decode cX12_setsAside 278 = .ok (.imul, 1) := by decide +kernel
theorem dX12_setsAside_270 : decode cX12_setsAside 270 = .ok (.iastore, 1) := dGX12_451.1
theorem dX12_setsAside_271 : decode cX12_setsAside 271 = .ok (.aload_n 0, 1) := dGX12_451.2.1
theorem dX12_setsAside_272 : decode cX12_setsAside 272 = .ok (.getfield 148, 3) := dGX12_451.2.2.1
theorem dX12_setsAside_275 : decode cX12_setsAside 275 = .ok (.bipush 64, 2) := dGX12_451.2.2.2.1
theorem dX12_setsAside_277 : decode cX12_setsAside 277 = .ok (.iload_n 1, 1) := dGX12_451.2.2.2.2.1
theorem dX12_setsAside_278 : decode cX12_setsAside 278 = .ok (.imul, 1) := dGX12_451.2.2.2.2.2
theorem dGX12_452 : decode cX12_setsAside 279 = .ok (.iload_n 2, 1) ∧ decode cX12_setsAside 280 = .ok (.iadd, 1) ∧ decode cX12_setsAside 281 = .ok (.aload_n 0, 1) ∧ decode cX12_setsAside 282 = .ok (.getfield 58, 3) ∧ decode cX12_setsAside 285 = .ok (.iload_n 2, 1) ∧ decode cX12_setsAside 286 = .ok (.iaload, 1) := by decide +kernel
theorem dX12_setsAside_279 : decode cX12_setsAside 279 = .ok (.iload_n 2, 1) := dGX12_452.1
theorem dX12_setsAside_280 : decode cX12_setsAside 280 = .ok (.iadd, 1) := dGX12_452.2.1
theorem dX12_setsAside_281 : decode cX12_setsAside 281 = .ok (.aload_n 0, 1) := dGX12_452.2.2.1
theorem dX12_setsAside_282 : decode cX12_setsAside 282 = .ok (.getfield 58, 3) := dGX12_452.2.2.2.1
theorem dX12_setsAside_285 : decode cX12_setsAside 285 = .ok (.iload_n 2, 1) := dGX12_452.2.2.2.2.1
theorem dX12_setsAside_286 : decode cX12_setsAside 286 = .ok (.iaload, 1) := dGX12_452.2.2.2.2.2
theorem dGX12_453 : decode cX12_setsAside 287 = .ok (.iastore, 1) ∧ decode cX12_setsAside 288 = .ok (.iinc 2 1, 3) ∧ decode cX12_setsAside 291 = .ok (.goto (-43), 3) ∧ decode cX12_setsAside 294 = .ok (.iconst 0, 1) ∧ decode cX12_setsAside 295 = .ok (.istore_n 2, 1) ∧ decode cX12_setsAside 296 = .ok (.iload_n 2, 1) := by decide +kernel
theorem dX12_setsAside_287 : decode cX12_setsAside 287 = .ok (.iastore, 1) := dGX12_453.1
theorem dX12_setsAside_288 : decode cX12_setsAside 288 = .ok (.iinc 2 1, 3) := dGX12_453.2.1
theorem dX12_setsAside_291 : decode cX12_setsAside 291 = .ok (.goto (-43), 3) := dGX12_453.2.2.1
theorem dX12_setsAside_294 : decode cX12_setsAside 294 = .ok (.iconst 0, 1) := dGX12_453.2.2.2.1
theorem dX12_setsAside_295 : decode cX12_setsAside 295 = .ok (.istore_n 2, 1) := dGX12_453.2.2.2.2.1
theorem dX12_setsAside_296 : decode cX12_setsAside 296 = .ok (.iload_n 2, 1) := dGX12_453.2.2.2.2.2
theorem dGX12_454 : decode cX12_setsAside 297 = .ok (.bipush 100, 2) ∧ decode cX12_setsAside 299 = .ok (.if_icmp .ge 26, 3) ∧ decode cX12_setsAside 302 = .ok (.aload_n 0, 1) ∧ decode cX12_setsAside 303 = .ok (.getfield 151, 3) ∧ decode cX12_setsAside 306 = .ok (.bipush 100, 2) ∧ decode cX12_setsAside 308 = .ok (.iload_n 1, 1) := by decide +kernel
theorem dX12_setsAside_297 : decode cX12_setsAside 297 = .ok (.bipush 100, 2) := dGX12_454.1
theorem dX12_setsAside_299 : decode cX12_setsAside 299 = .ok (.if_icmp .ge 26, 3) := dGX12_454.2.1
theorem dX12_setsAside_302 : decode cX12_setsAside 302 = .ok (.aload_n 0, 1) := dGX12_454.2.2.1
theorem dX12_setsAside_303 : decode cX12_setsAside 303 = .ok (.getfield 151, 3) := dGX12_454.2.2.2.1
theorem dX12_setsAside_306 : decode cX12_setsAside 306 = .ok (.bipush 100, 2) := dGX12_454.2.2.2.2.1
theorem dX12_setsAside_308 : decode cX12_setsAside 308 = .ok (.iload_n 1, 1) := dGX12_454.2.2.2.2.2
theorem dGX12_455 : decode cX12_setsAside 309 = .ok (.imul, 1) ∧ decode cX12_setsAside 310 = .ok (.iload_n 2, 1) ∧ decode cX12_setsAside 311 = .ok (.iadd, 1) ∧ decode cX12_setsAside 312 = .ok (.aload_n 0, 1) ∧ decode cX12_setsAside 313 = .ok (.getfield 61, 3) ∧ decode cX12_setsAside 316 = .ok (.iload_n 2, 1) := by decide +kernel
theorem dX12_setsAside_309 : decode cX12_setsAside 309 = .ok (.imul, 1) := dGX12_455.1
theorem dX12_setsAside_310 : decode cX12_setsAside 310 = .ok (.iload_n 2, 1) := dGX12_455.2.1
theorem dX12_setsAside_311 : decode cX12_setsAside 311 = .ok (.iadd, 1) := dGX12_455.2.2.1
theorem dX12_setsAside_312 : decode cX12_setsAside 312 = .ok (.aload_n 0, 1) := dGX12_455.2.2.2.1
theorem dX12_setsAside_313 : decode cX12_setsAside 313 = .ok (.getfield 61, 3) := dGX12_455.2.2.2.2.1
theorem dX12_setsAside_316 : decode cX12_setsAside 316 = .ok (.iload_n 2, 1) := dGX12_455.2.2.2.2.2
theorem dGX12_456 : decode cX12_setsAside 317 = .ok (.baload, 1) ∧ decode cX12_setsAside 318 = .ok (.bastore, 1) ∧ decode cX12_setsAside 319 = .ok (.iinc 2 1, 3) ∧ decode cX12_setsAside 322 = .ok (.goto (-26), 3) ∧ decode cX12_setsAside 325 = .ok (.aload_n 0, 1) ∧ decode cX12_setsAside 326 = .ok (.getfield 154, 3) := by decide +kernel
theorem dX12_setsAside_317 : decode cX12_setsAside 317 = .ok (.baload, 1) := dGX12_456.1
theorem dX12_setsAside_318 : decode cX12_setsAside 318 = .ok (.bastore, 1) := dGX12_456.2.1
theorem dX12_setsAside_319 : decode cX12_setsAside 319 = .ok (.iinc 2 1, 3) := dGX12_456.2.2.1
theorem dX12_setsAside_322 : decode cX12_setsAside 322 = .ok (.goto (-26), 3) := dGX12_456.2.2.2.1
theorem dX12_setsAside_325 : decode cX12_setsAside 325 = .ok (.aload_n 0, 1) := dGX12_456.2.2.2.2.1
theorem dX12_setsAside_326 : decode cX12_setsAside 326 = .ok (.getfield 154, 3) := dGX12_456.2.2.2.2.2
theorem dGX12_457 : decode cX12_setsAside 329 = .ok (.bipush 6, 2) ∧ decode cX12_setsAside 331 = .ok (.iload_n 1, 1) ∧ decode cX12_setsAside 332 = .ok (.imul, 1) ∧ decode cX12_setsAside 333 = .ok (.aload_n 0, 1) ∧ decode cX12_setsAside 334 = .ok (.getfield 172, 3) ∧ decode cX12_setsAside 337 = .ok (.iastore, 1) := by decide +kernel
theorem dX12_setsAside_329 : decode cX12_setsAside 329 = .ok (.bipush 6, 2) := dGX12_457.1
theorem dX12_setsAside_331 : decode cX12_setsAside 331 = .ok (.iload_n 1, 1) := dGX12_457.2.1
theorem dX12_setsAside_332 : decode cX12_setsAside 332 = .ok (.imul, 1) := dGX12_457.2.2.1
theorem dX12_setsAside_333 : decode cX12_setsAside 333 = .ok (.aload_n 0, 1) := dGX12_457.2.2.2.1
theorem dX12_setsAside_334 : decode cX12_setsAside 334 = .ok (.getfield 172, 3) := dGX12_457.2.2.2.2.1
theorem dX12_setsAside_337 : decode cX12_setsAside 337 = .ok (.iastore, 1) := dGX12_457.2.2.2.2.2
theorem dGX12_458 : decode cX12_setsAside 338 = .ok (.aload_n 0, 1) ∧ decode cX12_setsAside 339 = .ok (.getfield 154, 3) ∧ decode cX12_setsAside 342 = .ok (.bipush 6, 2) ∧ decode cX12_setsAside 344 = .ok (.iload_n 1, 1) ∧ decode cX12_setsAside 345 = .ok (.imul, 1) ∧ decode cX12_setsAside 346 = .ok (.iconst 1, 1) := by decide +kernel
theorem dX12_setsAside_338 : decode cX12_setsAside 338 = .ok (.aload_n 0, 1) := dGX12_458.1
theorem dX12_setsAside_339 : decode cX12_setsAside 339 = .ok (.getfield 154, 3) := dGX12_458.2.1
theorem dX12_setsAside_342 : decode cX12_setsAside 342 = .ok (.bipush 6, 2) := dGX12_458.2.2.1
theorem dX12_setsAside_344 : decode cX12_setsAside 344 = .ok (.iload_n 1, 1) := dGX12_458.2.2.2.1
theorem dX12_setsAside_345 : decode cX12_setsAside 345 = .ok (.imul, 1) := dGX12_458.2.2.2.2.1
theorem dX12_setsAside_346 : decode cX12_setsAside 346 = .ok (.iconst 1, 1) := dGX12_458.2.2.2.2.2
theorem dGX12_459 : decode cX12_setsAside 347 = .ok (.iadd, 1) ∧ decode cX12_setsAside 348 = .ok (.aload_n 0, 1) ∧ decode cX12_setsAside 349 = .ok (.getfield 179, 3) ∧ decode cX12_setsAside 352 = .ok (.iastore, 1) ∧ decode cX12_setsAside 353 = .ok (.aload_n 0, 1) ∧ decode cX12_setsAside 354 = .ok (.getfield 154, 3) := by decide +kernel
theorem dX12_setsAside_347 : decode cX12_setsAside 347 = .ok (.iadd, 1) := dGX12_459.1
theorem dX12_setsAside_348 : decode cX12_setsAside 348 = .ok (.aload_n 0, 1) := dGX12_459.2.1
theorem dX12_setsAside_349 : decode cX12_setsAside 349 = .ok (.getfield 179, 3) := dGX12_459.2.2.1
theorem dX12_setsAside_352 : decode cX12_setsAside 352 = .ok (.iastore, 1) := dGX12_459.2.2.2.1
theorem dX12_setsAside_353 : decode cX12_setsAside 353 = .ok (.aload_n 0, 1) := dGX12_459.2.2.2.2.1
theorem dX12_setsAside_354 : decode cX12_setsAside 354 = .ok (.getfield 154, 3) := dGX12_459.2.2.2.2.2
theorem dGX12_460 : decode cX12_setsAside 357 = .ok (.bipush 6, 2) ∧ decode cX12_setsAside 359 = .ok (.iload_n 1, 1) ∧ decode cX12_setsAside 360 = .ok (.imul, 1) ∧ decode cX12_setsAside 361 = .ok (.iconst 2, 1) ∧ decode cX12_setsAside 362 = .ok (.iadd, 1) ∧ decode cX12_setsAside 363 = .ok (.aload_n 0, 1) := by decide +kernel
theorem dX12_setsAside_357 : decode cX12_setsAside 357 = .ok (.bipush 6, 2) := dGX12_460.1
theorem dX12_setsAside_359 : decode cX12_setsAside 359 = .ok (.iload_n 1, 1) := dGX12_460.2.1
theorem dX12_setsAside_360 : decode cX12_setsAside 360 = .ok (.imul, 1) := dGX12_460.2.2.1
theorem dX12_setsAside_361 : decode cX12_setsAside 361 = .ok (.iconst 2, 1) := dGX12_460.2.2.2.1
theorem dX12_setsAside_362 : decode cX12_setsAside 362 = .ok (.iadd, 1) := dGX12_460.2.2.2.2.1
theorem dX12_setsAside_363 : decode cX12_setsAside 363 = .ok (.aload_n 0, 1) := dGX12_460.2.2.2.2.2
theorem dGX12_461 : decode cX12_setsAside 364 = .ok (.getfield 182, 3) ∧ decode cX12_setsAside 367 = .ok (.iastore, 1) ∧ decode cX12_setsAside 368 = .ok (.aload_n 0, 1) ∧ decode cX12_setsAside 369 = .ok (.getfield 154, 3) ∧ decode cX12_setsAside 372 = .ok (.bipush 6, 2) ∧ decode cX12_setsAside 374 = .ok (.iload_n 1, 1) := by decide +kernel
theorem dX12_setsAside_364 : decode cX12_setsAside 364 = .ok (.getfield 182, 3) := dGX12_461.1
theorem dX12_setsAside_367 : decode cX12_setsAside 367 = .ok (.iastore, 1) := dGX12_461.2.1
theorem dX12_setsAside_368 : decode cX12_setsAside 368 = .ok (.aload_n 0, 1) := dGX12_461.2.2.1
theorem dX12_setsAside_369 : decode cX12_setsAside 369 = .ok (.getfield 154, 3) := dGX12_461.2.2.2.1
theorem dX12_setsAside_372 : decode cX12_setsAside 372 = .ok (.bipush 6, 2) := dGX12_461.2.2.2.2.1
theorem dX12_setsAside_374 : decode cX12_setsAside 374 = .ok (.iload_n 1, 1) := dGX12_461.2.2.2.2.2
theorem dGX12_462 : decode cX12_setsAside 375 = .ok (.imul, 1) ∧ decode cX12_setsAside 376 = .ok (.iconst 3, 1) ∧ decode cX12_setsAside 377 = .ok (.iadd, 1) ∧ decode cX12_setsAside 378 = .ok (.aload_n 0, 1) ∧ decode cX12_setsAside 379 = .ok (.getfield 334, 3) ∧ decode cX12_setsAside 382 = .ok (.iastore, 1) := by decide +kernel
theorem dX12_setsAside_375 : decode cX12_setsAside 375 = .ok (.imul, 1) := dGX12_462.1
theorem dX12_setsAside_376 : decode cX12_setsAside 376 = .ok (.iconst 3, 1) := dGX12_462.2.1
theorem dX12_setsAside_377 : decode cX12_setsAside 377 = .ok (.iadd, 1) := dGX12_462.2.2.1
theorem dX12_setsAside_378 : decode cX12_setsAside 378 = .ok (.aload_n 0, 1) := dGX12_462.2.2.2.1
theorem dX12_setsAside_379 : decode cX12_setsAside 379 = .ok (.getfield 334, 3) := dGX12_462.2.2.2.2.1
theorem dX12_setsAside_382 : decode cX12_setsAside 382 = .ok (.iastore, 1) := dGX12_462.2.2.2.2.2
theorem dGX12_463 : decode cX12_setsAside 383 = .ok (.aload_n 0, 1) ∧ decode cX12_setsAside 384 = .ok (.getfield 154, 3) ∧ decode cX12_setsAside 387 = .ok (.bipush 6, 2) ∧ decode cX12_setsAside 389 = .ok (.iload_n 1, 1) ∧ decode cX12_setsAside 390 = .ok (.imul, 1) ∧ decode cX12_setsAside 391 = .ok (.iconst 4, 1) := by decide +kernel
theorem dX12_setsAside_383 : decode cX12_setsAside 383 = .ok (.aload_n 0, 1) := dGX12_463.1
theorem dX12_setsAside_384 : decode cX12_setsAside 384 = .ok (.getfield 154, 3) := dGX12_463.2.1
theorem dX12_setsAside_387 : decode cX12_setsAside 387 = .ok (.bipush 6, 2) := dGX12_463.2.2.1
theorem dX12_setsAside_389 : decode cX12_setsAside 389 = .ok (.iload_n 1, 1) := dGX12_463.2.2.2.1
theorem dX12_setsAside_390 : decode cX12_setsAside 390 = .ok (.imul, 1) := dGX12_463.2.2.2.2.1
theorem dX12_setsAside_391 : decode cX12_setsAside 391 = .ok (.iconst 4, 1) := dGX12_463.2.2.2.2.2
theorem dGX12_464 : decode cX12_setsAside 392 = .ok (.iadd, 1) ∧ decode cX12_setsAside 393 = .ok (.aload_n 0, 1) ∧ decode cX12_setsAside 394 = .ok (.getfield 13, 3) ∧ decode cX12_setsAside 397 = .ok (.iastore, 1) ∧ decode cX12_setsAside 398 = .ok (.aload_n 0, 1) ∧ decode cX12_setsAside 399 = .ok (.getfield 154, 3) := by decide +kernel
theorem dX12_setsAside_392 : decode cX12_setsAside 392 = .ok (.iadd, 1) := dGX12_464.1
theorem dX12_setsAside_393 : decode cX12_setsAside 393 = .ok (.aload_n 0, 1) := dGX12_464.2.1
theorem dX12_setsAside_394 : decode cX12_setsAside 394 = .ok (.getfield 13, 3) := dGX12_464.2.2.1
theorem dX12_setsAside_397 : decode cX12_setsAside 397 = .ok (.iastore, 1) := dGX12_464.2.2.2.1
theorem dX12_setsAside_398 : decode cX12_setsAside 398 = .ok (.aload_n 0, 1) := dGX12_464.2.2.2.2.1
theorem dX12_setsAside_399 : decode cX12_setsAside 399 = .ok (.getfield 154, 3) := dGX12_464.2.2.2.2.2
theorem dGX12_465 : decode cX12_setsAside 402 = .ok (.bipush 6, 2) ∧ decode cX12_setsAside 404 = .ok (.iload_n 1, 1) ∧ decode cX12_setsAside 405 = .ok (.imul, 1) ∧ decode cX12_setsAside 406 = .ok (.iconst 5, 1) ∧ decode cX12_setsAside 407 = .ok (.iadd, 1) ∧ decode cX12_setsAside 408 = .ok (.aload_n 0, 1) := by decide +kernel
theorem dX12_setsAside_402 : decode cX12_setsAside 402 = .ok (.bipush 6, 2) := dGX12_465.1
theorem dX12_setsAside_404 : decode cX12_setsAside 404 = .ok (.iload_n 1, 1) := dGX12_465.2.1
theorem dX12_setsAside_405 : decode cX12_setsAside 405 = .ok (.imul, 1) := dGX12_465.2.2.1
theorem dX12_setsAside_406 : decode cX12_setsAside 406 = .ok (.iconst 5, 1) := dGX12_465.2.2.2.1
theorem dX12_setsAside_407 : decode cX12_setsAside 407 = .ok (.iadd, 1) := dGX12_465.2.2.2.2.1
theorem dX12_setsAside_408 : decode cX12_setsAside 408 = .ok (.aload_n 0, 1) := dGX12_465.2.2.2.2.2
theorem dGX12_466 : decode cX12_setsAside 409 = .ok (.getfield 372, 3) ∧ decode cX12_setsAside 412 = .ok (.iastore, 1) ∧ decode cX12_setsAside 413 = .ok (.return_, 1) ∧ decode cX12_putsBack 0 = .ok (.iconst 0, 1) ∧ decode cX12_putsBack 1 = .ok (.istore_n 2, 1) ∧ decode cX12_putsBack 2 = .ok (.iload_n 2, 1) := by decide +kernel
theorem dX12_setsAside_409 : decode cX12_setsAside 409 = .ok (.getfield 372, 3) := dGX12_466.1
theorem dX12_setsAside_412 : decode cX12_setsAside 412 = .ok (.iastore, 1) := dGX12_466.2.1
theorem dX12_setsAside_413 : decode cX12_setsAside 413 = .ok (.return_, 1) := dGX12_466.2.2.1
theorem dX12_putsBack_0 : decode cX12_putsBack 0 = .ok (.iconst 0, 1) := dGX12_466.2.2.2.1
theorem dX12_putsBack_1 : decode cX12_putsBack 1 = .ok (.istore_n 2, 1) := dGX12_466.2.2.2.2.1
theorem dX12_putsBack_2 : decode cX12_putsBack 2 = .ok (.iload_n 2, 1) := dGX12_466.2.2.2.2.2
theorem dGX12_467 : decode cX12_putsBack 3 = .ok (.bipush 10, 2) ∧ decode cX12_putsBack 5 = .ok (.if_icmp .ge 60, 3) ∧ decode cX12_putsBack 8 = .ok (.aload_n 0, 1) ∧ decode cX12_putsBack 9 = .ok (.getfield 17, 3) ∧ decode cX12_putsBack 12 = .ok (.iload_n 2, 1) ∧ decode cX12_putsBack 13 = .ok (.aload_n 0, 1) := by decide +kernel
theorem dX12_putsBack_3 : decode cX12_putsBack 3 = .ok (.bipush 10, 2) := dGX12_467.1
theorem dX12_putsBack_5 : decode cX12_putsBack 5 = .ok (.if_icmp .ge 60, 3) := dGX12_467.2.1
theorem dX12_putsBack_8 : decode cX12_putsBack 8 = .ok (.aload_n 0, 1) := dGX12_467.2.2.1
theorem dX12_putsBack_9 : decode cX12_putsBack 9 = .ok (.getfield 17, 3) := dGX12_467.2.2.2.1
theorem dX12_putsBack_12 : decode cX12_putsBack 12 = .ok (.iload_n 2, 1) := dGX12_467.2.2.2.2.1
theorem dX12_putsBack_13 : decode cX12_putsBack 13 = .ok (.aload_n 0, 1) := dGX12_467.2.2.2.2.2
theorem dGX12_468 : decode cX12_putsBack 14 = .ok (.getfield 109, 3) ∧ decode cX12_putsBack 17 = .ok (.bipush 10, 2) ∧ decode cX12_putsBack 19 = .ok (.iload_n 1, 1) ∧ decode cX12_putsBack 20 = .ok (.imul, 1) ∧ decode cX12_putsBack 21 = .ok (.iload_n 2, 1) ∧ decode cX12_putsBack 22 = .ok (.iadd, 1) := by decide +kernel
theorem dX12_putsBack_14 : decode cX12_putsBack 14 = .ok (.getfield 109, 3) := dGX12_468.1
theorem dX12_putsBack_17 : decode cX12_putsBack 17 = .ok (.bipush 10, 2) := dGX12_468.2.1
theorem dX12_putsBack_19 : decode cX12_putsBack 19 = .ok (.iload_n 1, 1) := dGX12_468.2.2.1
theorem dX12_putsBack_20 : decode cX12_putsBack 20 = .ok (.imul, 1) := dGX12_468.2.2.2.1
theorem dX12_putsBack_21 : decode cX12_putsBack 21 = .ok (.iload_n 2, 1) := dGX12_468.2.2.2.2.1
theorem dX12_putsBack_22 : decode cX12_putsBack 22 = .ok (.iadd, 1) := dGX12_468.2.2.2.2.2
theorem dGX12_469 : decode cX12_putsBack 23 = .ok (.iaload, 1) ∧ decode cX12_putsBack 24 = .ok (.iastore, 1) ∧ decode cX12_putsBack 25 = .ok (.aload_n 0, 1) ∧ decode cX12_putsBack 26 = .ok (.getfield 21, 3) ∧ decode cX12_putsBack 29 = .ok (.iload_n 2, 1) ∧ decode cX12_putsBack 30 = .ok (.aload_n 0, 1) := by decide +kernel
theorem dX12_putsBack_23 : decode cX12_putsBack 23 = .ok (.iaload, 1) := dGX12_469.1
theorem dX12_putsBack_24 : decode cX12_putsBack 24 = .ok (.iastore, 1) := dGX12_469.2.1
theorem dX12_putsBack_25 : decode cX12_putsBack 25 = .ok (.aload_n 0, 1) := dGX12_469.2.2.1
theorem dX12_putsBack_26 : decode cX12_putsBack 26 = .ok (.getfield 21, 3) := dGX12_469.2.2.2.1
theorem dX12_putsBack_29 : decode cX12_putsBack 29 = .ok (.iload_n 2, 1) := dGX12_469.2.2.2.2.1
theorem dX12_putsBack_30 : decode cX12_putsBack 30 = .ok (.aload_n 0, 1) := dGX12_469.2.2.2.2.2
theorem dGX12_470 : decode cX12_putsBack 31 = .ok (.getfield 112, 3) ∧ decode cX12_putsBack 34 = .ok (.bipush 10, 2) ∧ decode cX12_putsBack 36 = .ok (.iload_n 1, 1) ∧ decode cX12_putsBack 37 = .ok (.imul, 1) ∧ decode cX12_putsBack 38 = .ok (.iload_n 2, 1) ∧ decode cX12_putsBack 39 = .ok (.iadd, 1) := by decide +kernel
theorem dX12_putsBack_31 : decode cX12_putsBack 31 = .ok (.getfield 112, 3) := dGX12_470.1
theorem dX12_putsBack_34 : decode cX12_putsBack 34 = .ok (.bipush 10, 2) := dGX12_470.2.1
theorem dX12_putsBack_36 : decode cX12_putsBack 36 = .ok (.iload_n 1, 1) := dGX12_470.2.2.1
theorem dX12_putsBack_37 : decode cX12_putsBack 37 = .ok (.imul, 1) := dGX12_470.2.2.2.1
theorem dX12_putsBack_38 : decode cX12_putsBack 38 = .ok (.iload_n 2, 1) := dGX12_470.2.2.2.2.1
theorem dX12_putsBack_39 : decode cX12_putsBack 39 = .ok (.iadd, 1) := dGX12_470.2.2.2.2.2
theorem dGX12_471 : decode cX12_putsBack 40 = .ok (.iaload, 1) ∧ decode cX12_putsBack 41 = .ok (.iastore, 1) ∧ decode cX12_putsBack 42 = .ok (.aload_n 0, 1) ∧ decode cX12_putsBack 43 = .ok (.getfield 24, 3) ∧ decode cX12_putsBack 46 = .ok (.iload_n 2, 1) ∧ decode cX12_putsBack 47 = .ok (.aload_n 0, 1) := by decide +kernel
theorem dX12_putsBack_40 : decode cX12_putsBack 40 = .ok (.iaload, 1) := dGX12_471.1
theorem dX12_putsBack_41 : decode cX12_putsBack 41 = .ok (.iastore, 1) := dGX12_471.2.1
theorem dX12_putsBack_42 : decode cX12_putsBack 42 = .ok (.aload_n 0, 1) := dGX12_471.2.2.1
theorem dX12_putsBack_43 : decode cX12_putsBack 43 = .ok (.getfield 24, 3) := dGX12_471.2.2.2.1
theorem dX12_putsBack_46 : decode cX12_putsBack 46 = .ok (.iload_n 2, 1) := dGX12_471.2.2.2.2.1
theorem dX12_putsBack_47 : decode cX12_putsBack 47 = .ok (.aload_n 0, 1) := dGX12_471.2.2.2.2.2
theorem dGX12_472 : decode cX12_putsBack 48 = .ok (.getfield 115, 3) ∧ decode cX12_putsBack 51 = .ok (.bipush 10, 2) ∧ decode cX12_putsBack 53 = .ok (.iload_n 1, 1) ∧ decode cX12_putsBack 54 = .ok (.imul, 1) ∧ decode cX12_putsBack 55 = .ok (.iload_n 2, 1) ∧ decode cX12_putsBack 56 = .ok (.iadd, 1) := by decide +kernel
theorem dX12_putsBack_48 : decode cX12_putsBack 48 = .ok (.getfield 115, 3) := dGX12_472.1
theorem dX12_putsBack_51 : decode cX12_putsBack 51 = .ok (.bipush 10, 2) := dGX12_472.2.1
theorem dX12_putsBack_53 : decode cX12_putsBack 53 = .ok (.iload_n 1, 1) := dGX12_472.2.2.1
theorem dX12_putsBack_54 : decode cX12_putsBack 54 = .ok (.imul, 1) := dGX12_472.2.2.2.1
theorem dX12_putsBack_55 : decode cX12_putsBack 55 = .ok (.iload_n 2, 1) := dGX12_472.2.2.2.2.1
theorem dX12_putsBack_56 : decode cX12_putsBack 56 = .ok (.iadd, 1) := dGX12_472.2.2.2.2.2
theorem dGX12_473 : decode cX12_putsBack 57 = .ok (.iaload, 1) ∧ decode cX12_putsBack 58 = .ok (.iastore, 1) ∧ decode cX12_putsBack 59 = .ok (.iinc 2 1, 3) ∧ decode cX12_putsBack 62 = .ok (.goto (-60), 3) ∧ decode cX12_putsBack 65 = .ok (.iconst 0, 1) ∧ decode cX12_putsBack 66 = .ok (.istore_n 2, 1) := by decide +kernel
theorem dX12_putsBack_57 : decode cX12_putsBack 57 = .ok (.iaload, 1) := dGX12_473.1
theorem dX12_putsBack_58 : decode cX12_putsBack 58 = .ok (.iastore, 1) := dGX12_473.2.1
theorem dX12_putsBack_59 : decode cX12_putsBack 59 = .ok (.iinc 2 1, 3) := dGX12_473.2.2.1
theorem dX12_putsBack_62 : decode cX12_putsBack 62 = .ok (.goto (-60), 3) := dGX12_473.2.2.2.1
theorem dX12_putsBack_65 : decode cX12_putsBack 65 = .ok (.iconst 0, 1) := dGX12_473.2.2.2.2.1
theorem dX12_putsBack_66 : decode cX12_putsBack 66 = .ok (.istore_n 2, 1) := dGX12_473.2.2.2.2.2
theorem dGX12_474 : decode cX12_putsBack 67 = .ok (.iload_n 2, 1) ∧ decode cX12_putsBack 68 = .ok (.bipush 8, 2) ∧ decode cX12_putsBack 70 = .ok (.if_icmp .ge 145, 3) ∧ decode cX12_putsBack 73 = .ok (.aload_n 0, 1) ∧ decode cX12_putsBack 74 = .ok (.getfield 27, 3) ∧ decode cX12_putsBack 77 = .ok (.iload_n 2, 1) := by decide +kernel
theorem dX12_putsBack_67 : decode cX12_putsBack 67 = .ok (.iload_n 2, 1) := dGX12_474.1
theorem dX12_putsBack_68 : decode cX12_putsBack 68 = .ok (.bipush 8, 2) := dGX12_474.2.1
theorem dX12_putsBack_70 : decode cX12_putsBack 70 = .ok (.if_icmp .ge 145, 3) := dGX12_474.2.2.1
theorem dX12_putsBack_73 : decode cX12_putsBack 73 = .ok (.aload_n 0, 1) := dGX12_474.2.2.2.1
theorem dX12_putsBack_74 : decode cX12_putsBack 74 = .ok (.getfield 27, 3) := dGX12_474.2.2.2.2.1
theorem dX12_putsBack_77 : decode cX12_putsBack 77 = .ok (.iload_n 2, 1) := dGX12_474.2.2.2.2.2
theorem dGX12_475 : decode cX12_putsBack 78 = .ok (.aload_n 0, 1) ∧ decode cX12_putsBack 79 = .ok (.getfield 118, 3) ∧ decode cX12_putsBack 82 = .ok (.bipush 8, 2) ∧ decode cX12_putsBack 84 = .ok (.iload_n 1, 1) ∧ decode cX12_putsBack 85 = .ok (.imul, 1) ∧ decode cX12_putsBack 86 = .ok (.iload_n 2, 1) := by decide +kernel
theorem dX12_putsBack_78 : decode cX12_putsBack 78 = .ok (.aload_n 0, 1) := dGX12_475.1
theorem dX12_putsBack_79 : decode cX12_putsBack 79 = .ok (.getfield 118, 3) := dGX12_475.2.1
theorem dX12_putsBack_82 : decode cX12_putsBack 82 = .ok (.bipush 8, 2) := dGX12_475.2.2.1
theorem dX12_putsBack_84 : decode cX12_putsBack 84 = .ok (.iload_n 1, 1) := dGX12_475.2.2.2.1
theorem dX12_putsBack_85 : decode cX12_putsBack 85 = .ok (.imul, 1) := dGX12_475.2.2.2.2.1
theorem dX12_putsBack_86 : decode cX12_putsBack 86 = .ok (.iload_n 2, 1) := dGX12_475.2.2.2.2.2
theorem dGX12_476 : decode cX12_putsBack 87 = .ok (.iadd, 1) ∧ decode cX12_putsBack 88 = .ok (.iaload, 1) ∧ decode cX12_putsBack 89 = .ok (.iastore, 1) ∧ decode cX12_putsBack 90 = .ok (.aload_n 0, 1) ∧ decode cX12_putsBack 91 = .ok (.getfield 30, 3) ∧ decode cX12_putsBack 94 = .ok (.iload_n 2, 1) := by decide +kernel
theorem dX12_putsBack_87 : decode cX12_putsBack 87 = .ok (.iadd, 1) := dGX12_476.1
theorem dX12_putsBack_88 : decode cX12_putsBack 88 = .ok (.iaload, 1) := dGX12_476.2.1
theorem dX12_putsBack_89 : decode cX12_putsBack 89 = .ok (.iastore, 1) := dGX12_476.2.2.1
theorem dX12_putsBack_90 : decode cX12_putsBack 90 = .ok (.aload_n 0, 1) := dGX12_476.2.2.2.1
theorem dX12_putsBack_91 : decode cX12_putsBack 91 = .ok (.getfield 30, 3) := dGX12_476.2.2.2.2.1
theorem dX12_putsBack_94 : decode cX12_putsBack 94 = .ok (.iload_n 2, 1) := dGX12_476.2.2.2.2.2
theorem dGX12_477 : decode cX12_putsBack 95 = .ok (.aload_n 0, 1) ∧ decode cX12_putsBack 96 = .ok (.getfield 121, 3) ∧ decode cX12_putsBack 99 = .ok (.bipush 8, 2) ∧ decode cX12_putsBack 101 = .ok (.iload_n 1, 1) ∧ decode cX12_putsBack 102 = .ok (.imul, 1) ∧ decode cX12_putsBack 103 = .ok (.iload_n 2, 1) := by decide +kernel
theorem dX12_putsBack_95 : decode cX12_putsBack 95 = .ok (.aload_n 0, 1) := dGX12_477.1
theorem dX12_putsBack_96 : decode cX12_putsBack 96 = .ok (.getfield 121, 3) := dGX12_477.2.1
theorem dX12_putsBack_99 : decode cX12_putsBack 99 = .ok (.bipush 8, 2) := dGX12_477.2.2.1
theorem dX12_putsBack_101 : decode cX12_putsBack 101 = .ok (.iload_n 1, 1) := dGX12_477.2.2.2.1
theorem dX12_putsBack_102 : decode cX12_putsBack 102 = .ok (.imul, 1) := dGX12_477.2.2.2.2.1
theorem dX12_putsBack_103 : decode cX12_putsBack 103 = .ok (.iload_n 2, 1) := dGX12_477.2.2.2.2.2
theorem dGX12_478 : decode cX12_putsBack 104 = .ok (.iadd, 1) ∧ decode cX12_putsBack 105 = .ok (.iaload, 1) ∧ decode cX12_putsBack 106 = .ok (.iastore, 1) ∧ decode cX12_putsBack 107 = .ok (.aload_n 0, 1) ∧ decode cX12_putsBack 108 = .ok (.getfield 36, 3) ∧ decode cX12_putsBack 111 = .ok (.iload_n 2, 1) := by decide +kernel
theorem dX12_putsBack_104 : decode cX12_putsBack 104 = .ok (.iadd, 1) := dGX12_478.1
theorem dX12_putsBack_105 : decode cX12_putsBack 105 = .ok (.iaload, 1) := dGX12_478.2.1
theorem dX12_putsBack_106 : decode cX12_putsBack 106 = .ok (.iastore, 1) := dGX12_478.2.2.1
theorem dX12_putsBack_107 : decode cX12_putsBack 107 = .ok (.aload_n 0, 1) := dGX12_478.2.2.2.1
theorem dX12_putsBack_108 : decode cX12_putsBack 108 = .ok (.getfield 36, 3) := dGX12_478.2.2.2.2.1
theorem dX12_putsBack_111 : decode cX12_putsBack 111 = .ok (.iload_n 2, 1) := dGX12_478.2.2.2.2.2
theorem dGX12_479 : decode cX12_putsBack 112 = .ok (.aload_n 0, 1) ∧ decode cX12_putsBack 113 = .ok (.getfield 127, 3) ∧ decode cX12_putsBack 116 = .ok (.bipush 8, 2) ∧ decode cX12_putsBack 118 = .ok (.iload_n 1, 1) ∧ decode cX12_putsBack 119 = .ok (.imul, 1) ∧ decode cX12_putsBack 120 = .ok (.iload_n 2, 1) := by decide +kernel
theorem dX12_putsBack_112 : decode cX12_putsBack 112 = .ok (.aload_n 0, 1) := dGX12_479.1
theorem dX12_putsBack_113 : decode cX12_putsBack 113 = .ok (.getfield 127, 3) := dGX12_479.2.1
theorem dX12_putsBack_116 : decode cX12_putsBack 116 = .ok (.bipush 8, 2) := dGX12_479.2.2.1
theorem dX12_putsBack_118 : decode cX12_putsBack 118 = .ok (.iload_n 1, 1) := dGX12_479.2.2.2.1
theorem dX12_putsBack_119 : decode cX12_putsBack 119 = .ok (.imul, 1) := dGX12_479.2.2.2.2.1
theorem dX12_putsBack_120 : decode cX12_putsBack 120 = .ok (.iload_n 2, 1) := dGX12_479.2.2.2.2.2
theorem dGX12_480 : decode cX12_putsBack 121 = .ok (.iadd, 1) ∧ decode cX12_putsBack 122 = .ok (.baload, 1) ∧ decode cX12_putsBack 123 = .ok (.bastore, 1) ∧ decode cX12_putsBack 124 = .ok (.aload_n 0, 1) ∧ decode cX12_putsBack 125 = .ok (.getfield 40, 3) ∧ decode cX12_putsBack 128 = .ok (.iload_n 2, 1) := by decide +kernel
theorem dX12_putsBack_121 : decode cX12_putsBack 121 = .ok (.iadd, 1) := dGX12_480.1
theorem dX12_putsBack_122 : decode cX12_putsBack 122 = .ok (.baload, 1) := dGX12_480.2.1
theorem dX12_putsBack_123 : decode cX12_putsBack 123 = .ok (.bastore, 1) := dGX12_480.2.2.1
theorem dX12_putsBack_124 : decode cX12_putsBack 124 = .ok (.aload_n 0, 1) := dGX12_480.2.2.2.1
theorem dX12_putsBack_125 : decode cX12_putsBack 125 = .ok (.getfield 40, 3) := dGX12_480.2.2.2.2.1
theorem dX12_putsBack_128 : decode cX12_putsBack 128 = .ok (.iload_n 2, 1) := dGX12_480.2.2.2.2.2
theorem dGX12_481 : decode cX12_putsBack 129 = .ok (.aload_n 0, 1) ∧ decode cX12_putsBack 130 = .ok (.getfield 130, 3) ∧ decode cX12_putsBack 133 = .ok (.bipush 8, 2) ∧ decode cX12_putsBack 135 = .ok (.iload_n 1, 1) ∧ decode cX12_putsBack 136 = .ok (.imul, 1) ∧ decode cX12_putsBack 137 = .ok (.iload_n 2, 1) := by decide +kernel
theorem dX12_putsBack_129 : decode cX12_putsBack 129 = .ok (.aload_n 0, 1) := dGX12_481.1
theorem dX12_putsBack_130 : decode cX12_putsBack 130 = .ok (.getfield 130, 3) := dGX12_481.2.1
theorem dX12_putsBack_133 : decode cX12_putsBack 133 = .ok (.bipush 8, 2) := dGX12_481.2.2.1
theorem dX12_putsBack_135 : decode cX12_putsBack 135 = .ok (.iload_n 1, 1) := dGX12_481.2.2.2.1
theorem dX12_putsBack_136 : decode cX12_putsBack 136 = .ok (.imul, 1) := dGX12_481.2.2.2.2.1
theorem dX12_putsBack_137 : decode cX12_putsBack 137 = .ok (.iload_n 2, 1) := dGX12_481.2.2.2.2.2
theorem dGX12_482 : decode cX12_putsBack 138 = .ok (.iadd, 1) ∧ decode cX12_putsBack 139 = .ok (.iaload, 1) ∧ decode cX12_putsBack 140 = .ok (.iastore, 1) ∧ decode cX12_putsBack 141 = .ok (.aload_n 0, 1) ∧ decode cX12_putsBack 142 = .ok (.getfield 43, 3) ∧ decode cX12_putsBack 145 = .ok (.iload_n 2, 1) := by decide +kernel
theorem dX12_putsBack_138 : decode cX12_putsBack 138 = .ok (.iadd, 1) := dGX12_482.1
theorem dX12_putsBack_139 : decode cX12_putsBack 139 = .ok (.iaload, 1) := dGX12_482.2.1
theorem dX12_putsBack_140 : decode cX12_putsBack 140 = .ok (.iastore, 1) := dGX12_482.2.2.1
theorem dX12_putsBack_141 : decode cX12_putsBack 141 = .ok (.aload_n 0, 1) := dGX12_482.2.2.2.1
theorem dX12_putsBack_142 : decode cX12_putsBack 142 = .ok (.getfield 43, 3) := dGX12_482.2.2.2.2.1
theorem dX12_putsBack_145 : decode cX12_putsBack 145 = .ok (.iload_n 2, 1) := dGX12_482.2.2.2.2.2
theorem dGX12_483 : decode cX12_putsBack 146 = .ok (.aload_n 0, 1) ∧ decode cX12_putsBack 147 = .ok (.getfield 133, 3) ∧ decode cX12_putsBack 150 = .ok (.bipush 8, 2) ∧ decode cX12_putsBack 152 = .ok (.iload_n 1, 1) ∧ decode cX12_putsBack 153 = .ok (.imul, 1) ∧ decode cX12_putsBack 154 = .ok (.iload_n 2, 1) := by decide +kernel
theorem dX12_putsBack_146 : decode cX12_putsBack 146 = .ok (.aload_n 0, 1) := dGX12_483.1
theorem dX12_putsBack_147 : decode cX12_putsBack 147 = .ok (.getfield 133, 3) := dGX12_483.2.1
theorem dX12_putsBack_150 : decode cX12_putsBack 150 = .ok (.bipush 8, 2) := dGX12_483.2.2.1
theorem dX12_putsBack_152 : decode cX12_putsBack 152 = .ok (.iload_n 1, 1) := dGX12_483.2.2.2.1
theorem dX12_putsBack_153 : decode cX12_putsBack 153 = .ok (.imul, 1) := dGX12_483.2.2.2.2.1
theorem dX12_putsBack_154 : decode cX12_putsBack 154 = .ok (.iload_n 2, 1) := dGX12_483.2.2.2.2.2
theorem dGX12_484 : decode cX12_putsBack 155 = .ok (.iadd, 1) ∧ decode cX12_putsBack 156 = .ok (.iaload, 1) ∧ decode cX12_putsBack 157 = .ok (.iastore, 1) ∧ decode cX12_putsBack 158 = .ok (.aload_n 0, 1) ∧ decode cX12_putsBack 159 = .ok (.getfield 46, 3) ∧ decode cX12_putsBack 162 = .ok (.iload_n 2, 1) := by decide +kernel
theorem dX12_putsBack_155 : decode cX12_putsBack 155 = .ok (.iadd, 1) := dGX12_484.1
theorem dX12_putsBack_156 : decode cX12_putsBack 156 = .ok (.iaload, 1) := dGX12_484.2.1
theorem dX12_putsBack_157 : decode cX12_putsBack 157 = .ok (.iastore, 1) := dGX12_484.2.2.1
theorem dX12_putsBack_158 : decode cX12_putsBack 158 = .ok (.aload_n 0, 1) := dGX12_484.2.2.2.1
theorem dX12_putsBack_159 : decode cX12_putsBack 159 = .ok (.getfield 46, 3) := dGX12_484.2.2.2.2.1
theorem dX12_putsBack_162 : decode cX12_putsBack 162 = .ok (.iload_n 2, 1) := dGX12_484.2.2.2.2.2
theorem dGX12_485 : decode cX12_putsBack 163 = .ok (.aload_n 0, 1) ∧ decode cX12_putsBack 164 = .ok (.getfield 136, 3) ∧ decode cX12_putsBack 167 = .ok (.bipush 8, 2) ∧ decode cX12_putsBack 169 = .ok (.iload_n 1, 1) ∧ decode cX12_putsBack 170 = .ok (.imul, 1) ∧ decode cX12_putsBack 171 = .ok (.iload_n 2, 1) := by decide +kernel
theorem dX12_putsBack_163 : decode cX12_putsBack 163 = .ok (.aload_n 0, 1) := dGX12_485.1
theorem dX12_putsBack_164 : decode cX12_putsBack 164 = .ok (.getfield 136, 3) := dGX12_485.2.1
theorem dX12_putsBack_167 : decode cX12_putsBack 167 = .ok (.bipush 8, 2) := dGX12_485.2.2.1
theorem dX12_putsBack_169 : decode cX12_putsBack 169 = .ok (.iload_n 1, 1) := dGX12_485.2.2.2.1
theorem dX12_putsBack_170 : decode cX12_putsBack 170 = .ok (.imul, 1) := dGX12_485.2.2.2.2.1
theorem dX12_putsBack_171 : decode cX12_putsBack 171 = .ok (.iload_n 2, 1) := dGX12_485.2.2.2.2.2
theorem dGX12_486 : decode cX12_putsBack 172 = .ok (.iadd, 1) ∧ decode cX12_putsBack 173 = .ok (.iaload, 1) ∧ decode cX12_putsBack 174 = .ok (.iastore, 1) ∧ decode cX12_putsBack 175 = .ok (.aload_n 0, 1) ∧ decode cX12_putsBack 176 = .ok (.getfield 49, 3) ∧ decode cX12_putsBack 179 = .ok (.iload_n 2, 1) := by decide +kernel
theorem dX12_putsBack_172 : decode cX12_putsBack 172 = .ok (.iadd, 1) := dGX12_486.1
theorem dX12_putsBack_173 : decode cX12_putsBack 173 = .ok (.iaload, 1) := dGX12_486.2.1
theorem dX12_putsBack_174 : decode cX12_putsBack 174 = .ok (.iastore, 1) := dGX12_486.2.2.1
theorem dX12_putsBack_175 : decode cX12_putsBack 175 = .ok (.aload_n 0, 1) := dGX12_486.2.2.2.1
theorem dX12_putsBack_176 : decode cX12_putsBack 176 = .ok (.getfield 49, 3) := dGX12_486.2.2.2.2.1
theorem dX12_putsBack_179 : decode cX12_putsBack 179 = .ok (.iload_n 2, 1) := dGX12_486.2.2.2.2.2
theorem dGX12_487 : decode cX12_putsBack 180 = .ok (.aload_n 0, 1) ∧ decode cX12_putsBack 181 = .ok (.getfield 139, 3) ∧ decode cX12_putsBack 184 = .ok (.bipush 8, 2) ∧ decode cX12_putsBack 186 = .ok (.iload_n 1, 1) ∧ decode cX12_putsBack 187 = .ok (.imul, 1) ∧ decode cX12_putsBack 188 = .ok (.iload_n 2, 1) := by decide +kernel
theorem dX12_putsBack_180 : decode cX12_putsBack 180 = .ok (.aload_n 0, 1) := dGX12_487.1
theorem dX12_putsBack_181 : decode cX12_putsBack 181 = .ok (.getfield 139, 3) := dGX12_487.2.1
theorem dX12_putsBack_184 : decode cX12_putsBack 184 = .ok (.bipush 8, 2) := dGX12_487.2.2.1
theorem dX12_putsBack_186 : decode cX12_putsBack 186 = .ok (.iload_n 1, 1) := dGX12_487.2.2.2.1
theorem dX12_putsBack_187 : decode cX12_putsBack 187 = .ok (.imul, 1) := dGX12_487.2.2.2.2.1
theorem dX12_putsBack_188 : decode cX12_putsBack 188 = .ok (.iload_n 2, 1) := dGX12_487.2.2.2.2.2
theorem dGX12_488 : decode cX12_putsBack 189 = .ok (.iadd, 1) ∧ decode cX12_putsBack 190 = .ok (.baload, 1) ∧ decode cX12_putsBack 191 = .ok (.bastore, 1) ∧ decode cX12_putsBack 192 = .ok (.aload_n 0, 1) ∧ decode cX12_putsBack 193 = .ok (.getfield 52, 3) ∧ decode cX12_putsBack 196 = .ok (.iload_n 2, 1) := by decide +kernel
theorem dX12_putsBack_189 : decode cX12_putsBack 189 = .ok (.iadd, 1) := dGX12_488.1
theorem dX12_putsBack_190 : decode cX12_putsBack 190 = .ok (.baload, 1) := dGX12_488.2.1
theorem dX12_putsBack_191 : decode cX12_putsBack 191 = .ok (.bastore, 1) := dGX12_488.2.2.1
theorem dX12_putsBack_192 : decode cX12_putsBack 192 = .ok (.aload_n 0, 1) := dGX12_488.2.2.2.1
theorem dX12_putsBack_193 : decode cX12_putsBack 193 = .ok (.getfield 52, 3) := dGX12_488.2.2.2.2.1
theorem dX12_putsBack_196 : decode cX12_putsBack 196 = .ok (.iload_n 2, 1) := dGX12_488.2.2.2.2.2
theorem dGX12_489 : decode cX12_putsBack 197 = .ok (.aload_n 0, 1) ∧ decode cX12_putsBack 198 = .ok (.getfield 142, 3) ∧ decode cX12_putsBack 201 = .ok (.bipush 8, 2) ∧ decode cX12_putsBack 203 = .ok (.iload_n 1, 1) ∧ decode cX12_putsBack 204 = .ok (.imul, 1) ∧ decode cX12_putsBack 205 = .ok (.iload_n 2, 1) := by decide +kernel
theorem dX12_putsBack_197 : decode cX12_putsBack 197 = .ok (.aload_n 0, 1) := dGX12_489.1
theorem dX12_putsBack_198 : decode cX12_putsBack 198 = .ok (.getfield 142, 3) := dGX12_489.2.1
theorem dX12_putsBack_201 : decode cX12_putsBack 201 = .ok (.bipush 8, 2) := dGX12_489.2.2.1
theorem dX12_putsBack_203 : decode cX12_putsBack 203 = .ok (.iload_n 1, 1) := dGX12_489.2.2.2.1
theorem dX12_putsBack_204 : decode cX12_putsBack 204 = .ok (.imul, 1) := dGX12_489.2.2.2.2.1
theorem dX12_putsBack_205 : decode cX12_putsBack 205 = .ok (.iload_n 2, 1) := dGX12_489.2.2.2.2.2
theorem dGX12_490 : decode cX12_putsBack 206 = .ok (.iadd, 1) ∧ decode cX12_putsBack 207 = .ok (.iaload, 1) ∧ decode cX12_putsBack 208 = .ok (.iastore, 1) ∧ decode cX12_putsBack 209 = .ok (.iinc 2 1, 3) ∧ decode cX12_putsBack 212 = .ok (.goto (-145), 3) ∧ decode cX12_putsBack 215 = .ok (.iconst 0, 1) := by decide +kernel
theorem dX12_putsBack_206 : decode cX12_putsBack 206 = .ok (.iadd, 1) := dGX12_490.1
theorem dX12_putsBack_207 : decode cX12_putsBack 207 = .ok (.iaload, 1) := dGX12_490.2.1
theorem dX12_putsBack_208 : decode cX12_putsBack 208 = .ok (.iastore, 1) := dGX12_490.2.2.1
theorem dX12_putsBack_209 : decode cX12_putsBack 209 = .ok (.iinc 2 1, 3) := dGX12_490.2.2.2.1
theorem dX12_putsBack_212 : decode cX12_putsBack 212 = .ok (.goto (-145), 3) := dGX12_490.2.2.2.2.1
theorem dX12_putsBack_215 : decode cX12_putsBack 215 = .ok (.iconst 0, 1) := dGX12_490.2.2.2.2.2
theorem dGX12_491 : decode cX12_putsBack 216 = .ok (.istore_n 2, 1) ∧ decode cX12_putsBack 217 = .ok (.iload_n 2, 1) ∧ decode cX12_putsBack 218 = .ok (.bipush 40, 2) ∧ decode cX12_putsBack 220 = .ok (.if_icmp .ge 26, 3) ∧ decode cX12_putsBack 223 = .ok (.aload_n 0, 1) ∧ decode cX12_putsBack 224 = .ok (.getfield 33, 3) := by decide +kernel
theorem dX12_putsBack_216 : decode cX12_putsBack 216 = .ok (.istore_n 2, 1) := dGX12_491.1
theorem dX12_putsBack_217 : decode cX12_putsBack 217 = .ok (.iload_n 2, 1) := dGX12_491.2.1
theorem dX12_putsBack_218 : decode cX12_putsBack 218 = .ok (.bipush 40, 2) := dGX12_491.2.2.1
theorem dX12_putsBack_220 : decode cX12_putsBack 220 = .ok (.if_icmp .ge 26, 3) := dGX12_491.2.2.2.1
theorem dX12_putsBack_223 : decode cX12_putsBack 223 = .ok (.aload_n 0, 1) := dGX12_491.2.2.2.2.1
theorem dX12_putsBack_224 : decode cX12_putsBack 224 = .ok (.getfield 33, 3) := dGX12_491.2.2.2.2.2
theorem dGX12_492 : decode cX12_putsBack 227 = .ok (.iload_n 2, 1) ∧ decode cX12_putsBack 228 = .ok (.aload_n 0, 1) ∧ decode cX12_putsBack 229 = .ok (.getfield 124, 3) ∧ decode cX12_putsBack 232 = .ok (.bipush 40, 2) ∧ decode cX12_putsBack 234 = .ok (.iload_n 1, 1) ∧ decode cX12_putsBack 235 = .ok (.imul, 1) := by decide +kernel
theorem dX12_putsBack_227 : decode cX12_putsBack 227 = .ok (.iload_n 2, 1) := dGX12_492.1
theorem dX12_putsBack_228 : decode cX12_putsBack 228 = .ok (.aload_n 0, 1) := dGX12_492.2.1
theorem dX12_putsBack_229 : decode cX12_putsBack 229 = .ok (.getfield 124, 3) := dGX12_492.2.2.1
theorem dX12_putsBack_232 : decode cX12_putsBack 232 = .ok (.bipush 40, 2) := dGX12_492.2.2.2.1
theorem dX12_putsBack_234 : decode cX12_putsBack 234 = .ok (.iload_n 1, 1) := dGX12_492.2.2.2.2.1
theorem dX12_putsBack_235 : decode cX12_putsBack 235 = .ok (.imul, 1) := dGX12_492.2.2.2.2.2
theorem dGX12_493 : decode cX12_putsBack 236 = .ok (.iload_n 2, 1) ∧ decode cX12_putsBack 237 = .ok (.iadd, 1) ∧ decode cX12_putsBack 238 = .ok (.iaload, 1) ∧ decode cX12_putsBack 239 = .ok (.iastore, 1) ∧ decode cX12_putsBack 240 = .ok (.iinc 2 1, 3) ∧ decode cX12_putsBack 243 = .ok (.goto (-26), 3) := by decide +kernel
theorem dX12_putsBack_236 : decode cX12_putsBack 236 = .ok (.iload_n 2, 1) := dGX12_493.1
theorem dX12_putsBack_237 : decode cX12_putsBack 237 = .ok (.iadd, 1) := dGX12_493.2.1
theorem dX12_putsBack_238 : decode cX12_putsBack 238 = .ok (.iaload, 1) := dGX12_493.2.2.1
theorem dX12_putsBack_239 : decode cX12_putsBack 239 = .ok (.iastore, 1) := dGX12_493.2.2.2.1
theorem dX12_putsBack_240 : decode cX12_putsBack 240 = .ok (.iinc 2 1, 3) := dGX12_493.2.2.2.2.1
theorem dX12_putsBack_243 : decode cX12_putsBack 243 = .ok (.goto (-26), 3) := dGX12_493.2.2.2.2.2
theorem dGX12_494 : decode cX12_putsBack 246 = .ok (.iconst 0, 1) ∧ decode cX12_putsBack 247 = .ok (.istore_n 2, 1) ∧ decode cX12_putsBack 248 = .ok (.iload_n 2, 1) ∧ decode cX12_putsBack 249 = .ok (.bipush 64, 2) ∧ decode cX12_putsBack 251 = .ok (.if_icmp .ge 43, 3) ∧ decode cX12_putsBack 254 = .ok (.aload_n 0, 1) := by decide +kernel
theorem dX12_putsBack_246 : decode cX12_putsBack 246 = .ok (.iconst 0, 1) := dGX12_494.1
theorem dX12_putsBack_247 : decode cX12_putsBack 247 = .ok (.istore_n 2, 1) := dGX12_494.2.1
theorem dX12_putsBack_248 : decode cX12_putsBack 248 = .ok (.iload_n 2, 1) := dGX12_494.2.2.1
theorem dX12_putsBack_249 : decode cX12_putsBack 249 = .ok (.bipush 64, 2) := dGX12_494.2.2.2.1
theorem dX12_putsBack_251 : decode cX12_putsBack 251 = .ok (.if_icmp .ge 43, 3) := dGX12_494.2.2.2.2.1
theorem dX12_putsBack_254 : decode cX12_putsBack 254 = .ok (.aload_n 0, 1) := dGX12_494.2.2.2.2.2
theorem dGX12_495 : decode cX12_putsBack 255 = .ok (.getfield 55, 3) ∧ decode cX12_putsBack 258 = .ok (.iload_n 2, 1) ∧ decode cX12_putsBack 259 = .ok (.aload_n 0, 1) ∧ decode cX12_putsBack 260 = .ok (.getfield 145, 3) ∧ decode cX12_putsBack 263 = .ok (.bipush 64, 2) ∧ decode cX12_putsBack 265 = .ok (.iload_n 1, 1) := by decide +kernel
theorem dX12_putsBack_255 : decode cX12_putsBack 255 = .ok (.getfield 55, 3) := dGX12_495.1
theorem dX12_putsBack_258 : decode cX12_putsBack 258 = .ok (.iload_n 2, 1) := dGX12_495.2.1
theorem dX12_putsBack_259 : decode cX12_putsBack 259 = .ok (.aload_n 0, 1) := dGX12_495.2.2.1
theorem dX12_putsBack_260 : decode cX12_putsBack 260 = .ok (.getfield 145, 3) := dGX12_495.2.2.2.1
theorem dX12_putsBack_263 : decode cX12_putsBack 263 = .ok (.bipush 64, 2) := dGX12_495.2.2.2.2.1
theorem dX12_putsBack_265 : decode cX12_putsBack 265 = .ok (.iload_n 1, 1) := dGX12_495.2.2.2.2.2
theorem dGX12_496 : decode cX12_putsBack 266 = .ok (.imul, 1) ∧ decode cX12_putsBack 267 = .ok (.iload_n 2, 1) ∧ decode cX12_putsBack 268 = .ok (.iadd, 1) ∧ decode cX12_putsBack 269 = .ok (.iaload, 1) ∧ decode cX12_putsBack 270 = .ok (.iastore, 1) ∧ decode cX12_putsBack 271 = .ok (.aload_n 0, 1) := by decide +kernel
theorem dX12_putsBack_266 : decode cX12_putsBack 266 = .ok (.imul, 1) := dGX12_496.1
theorem dX12_putsBack_267 : decode cX12_putsBack 267 = .ok (.iload_n 2, 1) := dGX12_496.2.1
theorem dX12_putsBack_268 : decode cX12_putsBack 268 = .ok (.iadd, 1) := dGX12_496.2.2.1
theorem dX12_putsBack_269 : decode cX12_putsBack 269 = .ok (.iaload, 1) := dGX12_496.2.2.2.1
theorem dX12_putsBack_270 : decode cX12_putsBack 270 = .ok (.iastore, 1) := dGX12_496.2.2.2.2.1
theorem dX12_putsBack_271 : decode cX12_putsBack 271 = .ok (.aload_n 0, 1) := dGX12_496.2.2.2.2.2
theorem dGX12_497 : decode cX12_putsBack 272 = .ok (.getfield 58, 3) ∧ decode cX12_putsBack 275 = .ok (.iload_n 2, 1) ∧ decode cX12_putsBack 276 = .ok (.aload_n 0, 1) ∧ decode cX12_putsBack 277 = .ok (.getfield 148, 3) ∧ decode cX12_putsBack 280 = .ok (.bipush 64, 2) ∧ decode cX12_putsBack 282 = .ok (.iload_n 1, 1) := by decide +kernel
theorem dX12_putsBack_272 : decode cX12_putsBack 272 = .ok (.getfield 58, 3) := dGX12_497.1
theorem dX12_putsBack_275 : decode cX12_putsBack 275 = .ok (.iload_n 2, 1) := dGX12_497.2.1
theorem dX12_putsBack_276 : decode cX12_putsBack 276 = .ok (.aload_n 0, 1) := dGX12_497.2.2.1
theorem dX12_putsBack_277 : decode cX12_putsBack 277 = .ok (.getfield 148, 3) := dGX12_497.2.2.2.1
theorem dX12_putsBack_280 : decode cX12_putsBack 280 = .ok (.bipush 64, 2) := dGX12_497.2.2.2.2.1
theorem dX12_putsBack_282 : decode cX12_putsBack 282 = .ok (.iload_n 1, 1) := dGX12_497.2.2.2.2.2
theorem dGX12_498 : decode cX12_putsBack 283 = .ok (.imul, 1) ∧ decode cX12_putsBack 284 = .ok (.iload_n 2, 1) ∧ decode cX12_putsBack 285 = .ok (.iadd, 1) ∧ decode cX12_putsBack 286 = .ok (.iaload, 1) ∧ decode cX12_putsBack 287 = .ok (.iastore, 1) ∧ decode cX12_putsBack 288 = .ok (.iinc 2 1, 3) := by decide +kernel
theorem dX12_putsBack_283 : decode cX12_putsBack 283 = .ok (.imul, 1) := dGX12_498.1
theorem dX12_putsBack_284 : decode cX12_putsBack 284 = .ok (.iload_n 2, 1) := dGX12_498.2.1
theorem dX12_putsBack_285 : decode cX12_putsBack 285 = .ok (.iadd, 1) := dGX12_498.2.2.1
theorem dX12_putsBack_286 : decode cX12_putsBack 286 = .ok (.iaload, 1) := dGX12_498.2.2.2.1
theorem dX12_putsBack_287 : decode cX12_putsBack 287 = .ok (.iastore, 1) := dGX12_498.2.2.2.2.1
theorem dX12_putsBack_288 : decode cX12_putsBack 288 = .ok (.iinc 2 1, 3) := dGX12_498.2.2.2.2.2
theorem dGX12_499 : decode cX12_putsBack 291 = .ok (.goto (-43), 3) ∧ decode cX12_putsBack 294 = .ok (.iconst 0, 1) ∧ decode cX12_putsBack 295 = .ok (.istore_n 2, 1) ∧ decode cX12_putsBack 296 = .ok (.iload_n 2, 1) ∧ decode cX12_putsBack 297 = .ok (.bipush 100, 2) ∧ decode cX12_putsBack 299 = .ok (.if_icmp .ge 26, 3) := by decide +kernel
theorem dX12_putsBack_291 : decode cX12_putsBack 291 = .ok (.goto (-43), 3) := dGX12_499.1
theorem dX12_putsBack_294 : decode cX12_putsBack 294 = .ok (.iconst 0, 1) := dGX12_499.2.1
theorem dX12_putsBack_295 : decode cX12_putsBack 295 = .ok (.istore_n 2, 1) := dGX12_499.2.2.1
theorem dX12_putsBack_296 : decode cX12_putsBack 296 = .ok (.iload_n 2, 1) := dGX12_499.2.2.2.1
theorem dX12_putsBack_297 : decode cX12_putsBack 297 = .ok (.bipush 100, 2) := dGX12_499.2.2.2.2.1
theorem dX12_putsBack_299 : decode cX12_putsBack 299 = .ok (.if_icmp .ge 26, 3) := dGX12_499.2.2.2.2.2
theorem dGX12_500 : decode cX12_putsBack 302 = .ok (.aload_n 0, 1) ∧ decode cX12_putsBack 303 = .ok (.getfield 61, 3) ∧ decode cX12_putsBack 306 = .ok (.iload_n 2, 1) ∧ decode cX12_putsBack 307 = .ok (.aload_n 0, 1) ∧ decode cX12_putsBack 308 = .ok (.getfield 151, 3) ∧ decode cX12_putsBack 311 = .ok (.bipush 100, 2) := by decide +kernel
theorem dX12_putsBack_302 : decode cX12_putsBack 302 = .ok (.aload_n 0, 1) := dGX12_500.1
theorem dX12_putsBack_303 : decode cX12_putsBack 303 = .ok (.getfield 61, 3) := dGX12_500.2.1
theorem dX12_putsBack_306 : decode cX12_putsBack 306 = .ok (.iload_n 2, 1) := dGX12_500.2.2.1
theorem dX12_putsBack_307 : decode cX12_putsBack 307 = .ok (.aload_n 0, 1) := dGX12_500.2.2.2.1
theorem dX12_putsBack_308 : decode cX12_putsBack 308 = .ok (.getfield 151, 3) := dGX12_500.2.2.2.2.1
theorem dX12_putsBack_311 : decode cX12_putsBack 311 = .ok (.bipush 100, 2) := dGX12_500.2.2.2.2.2
theorem dGX12_501 : decode cX12_putsBack 313 = .ok (.iload_n 1, 1) ∧ decode cX12_putsBack 314 = .ok (.imul, 1) ∧ decode cX12_putsBack 315 = .ok (.iload_n 2, 1) ∧ decode cX12_putsBack 316 = .ok (.iadd, 1) ∧ decode cX12_putsBack 317 = .ok (.baload, 1) ∧ decode cX12_putsBack 318 = .ok (.bastore, 1) := by decide +kernel
theorem dX12_putsBack_313 : decode cX12_putsBack 313 = .ok (.iload_n 1, 1) := dGX12_501.1
theorem dX12_putsBack_314 : decode cX12_putsBack 314 = .ok (.imul, 1) := dGX12_501.2.1
theorem dX12_putsBack_315 : decode cX12_putsBack 315 = .ok (.iload_n 2, 1) := dGX12_501.2.2.1
theorem dX12_putsBack_316 : decode cX12_putsBack 316 = .ok (.iadd, 1) := dGX12_501.2.2.2.1
theorem dX12_putsBack_317 : decode cX12_putsBack 317 = .ok (.baload, 1) := dGX12_501.2.2.2.2.1
theorem dX12_putsBack_318 : decode cX12_putsBack 318 = .ok (.bastore, 1) := dGX12_501.2.2.2.2.2
theorem dGX12_502 : decode cX12_putsBack 319 = .ok (.iinc 2 1, 3) ∧ decode cX12_putsBack 322 = .ok (.goto (-26), 3) ∧ decode cX12_putsBack 325 = .ok (.aload_n 0, 1) ∧ decode cX12_putsBack 326 = .ok (.aload_n 0, 1) ∧ decode cX12_putsBack 327 = .ok (.getfield 154, 3) ∧ decode cX12_putsBack 330 = .ok (.bipush 6, 2) := by decide +kernel
theorem dX12_putsBack_319 : decode cX12_putsBack 319 = .ok (.iinc 2 1, 3) := dGX12_502.1
theorem dX12_putsBack_322 : decode cX12_putsBack 322 = .ok (.goto (-26), 3) := dGX12_502.2.1
theorem dX12_putsBack_325 : decode cX12_putsBack 325 = .ok (.aload_n 0, 1) := dGX12_502.2.2.1
theorem dX12_putsBack_326 : decode cX12_putsBack 326 = .ok (.aload_n 0, 1) := dGX12_502.2.2.2.1
theorem dX12_putsBack_327 : decode cX12_putsBack 327 = .ok (.getfield 154, 3) := dGX12_502.2.2.2.2.1
theorem dX12_putsBack_330 : decode cX12_putsBack 330 = .ok (.bipush 6, 2) := dGX12_502.2.2.2.2.2
theorem dGX12_503 : decode cX12_putsBack 332 = .ok (.iload_n 1, 1) ∧ decode cX12_putsBack 333 = .ok (.imul, 1) ∧ decode cX12_putsBack 334 = .ok (.iaload, 1) ∧ decode cX12_putsBack 335 = .ok (.putfield 172, 3) ∧ decode cX12_putsBack 338 = .ok (.aload_n 0, 1) ∧ decode cX12_putsBack 339 = .ok (.aload_n 0, 1) := by decide +kernel
theorem dX12_putsBack_332 : decode cX12_putsBack 332 = .ok (.iload_n 1, 1) := dGX12_503.1
theorem dX12_putsBack_333 : decode cX12_putsBack 333 = .ok (.imul, 1) := dGX12_503.2.1
theorem dX12_putsBack_334 : decode cX12_putsBack 334 = .ok (.iaload, 1) := dGX12_503.2.2.1
theorem dX12_putsBack_335 : decode cX12_putsBack 335 = .ok (.putfield 172, 3) := dGX12_503.2.2.2.1
theorem dX12_putsBack_338 : decode cX12_putsBack 338 = .ok (.aload_n 0, 1) := dGX12_503.2.2.2.2.1
theorem dX12_putsBack_339 : decode cX12_putsBack 339 = .ok (.aload_n 0, 1) := dGX12_503.2.2.2.2.2
theorem dGX12_504 : decode cX12_putsBack 340 = .ok (.getfield 154, 3) ∧ decode cX12_putsBack 343 = .ok (.bipush 6, 2) ∧ decode cX12_putsBack 345 = .ok (.iload_n 1, 1) ∧ decode cX12_putsBack 346 = .ok (.imul, 1) ∧ decode cX12_putsBack 347 = .ok (.iconst 1, 1) ∧ decode cX12_putsBack 348 = .ok (.iadd, 1) := by decide +kernel
theorem dX12_putsBack_340 : decode cX12_putsBack 340 = .ok (.getfield 154, 3) := dGX12_504.1
theorem dX12_putsBack_343 : decode cX12_putsBack 343 = .ok (.bipush 6, 2) := dGX12_504.2.1
theorem dX12_putsBack_345 : decode cX12_putsBack 345 = .ok (.iload_n 1, 1) := dGX12_504.2.2.1
theorem dX12_putsBack_346 : decode cX12_putsBack 346 = .ok (.imul, 1) := dGX12_504.2.2.2.1
theorem dX12_putsBack_347 : decode cX12_putsBack 347 = .ok (.iconst 1, 1) := dGX12_504.2.2.2.2.1
theorem dX12_putsBack_348 : decode cX12_putsBack 348 = .ok (.iadd, 1) := dGX12_504.2.2.2.2.2
theorem dGX12_505 : decode cX12_putsBack 349 = .ok (.iaload, 1) ∧ decode cX12_putsBack 350 = .ok (.putfield 179, 3) ∧ decode cX12_putsBack 353 = .ok (.aload_n 0, 1) ∧ decode cX12_putsBack 354 = .ok (.aload_n 0, 1) ∧ decode cX12_putsBack 355 = .ok (.getfield 154, 3) ∧ decode cX12_putsBack 358 = .ok (.bipush 6, 2) := by decide +kernel
theorem dX12_putsBack_349 : decode cX12_putsBack 349 = .ok (.iaload, 1) := dGX12_505.1
theorem dX12_putsBack_350 : decode cX12_putsBack 350 = .ok (.putfield 179, 3) := dGX12_505.2.1
theorem dX12_putsBack_353 : decode cX12_putsBack 353 = .ok (.aload_n 0, 1) := dGX12_505.2.2.1
theorem dX12_putsBack_354 : decode cX12_putsBack 354 = .ok (.aload_n 0, 1) := dGX12_505.2.2.2.1
theorem dX12_putsBack_355 : decode cX12_putsBack 355 = .ok (.getfield 154, 3) := dGX12_505.2.2.2.2.1
theorem dX12_putsBack_358 : decode cX12_putsBack 358 = .ok (.bipush 6, 2) := dGX12_505.2.2.2.2.2
theorem dGX12_506 : decode cX12_putsBack 360 = .ok (.iload_n 1, 1) ∧ decode cX12_putsBack 361 = .ok (.imul, 1) ∧ decode cX12_putsBack 362 = .ok (.iconst 2, 1) ∧ decode cX12_putsBack 363 = .ok (.iadd, 1) ∧ decode cX12_putsBack 364 = .ok (.iaload, 1) ∧ decode cX12_putsBack 365 = .ok (.putfield 182, 3) := by decide +kernel
theorem dX12_putsBack_360 : decode cX12_putsBack 360 = .ok (.iload_n 1, 1) := dGX12_506.1
theorem dX12_putsBack_361 : decode cX12_putsBack 361 = .ok (.imul, 1) := dGX12_506.2.1
theorem dX12_putsBack_362 : decode cX12_putsBack 362 = .ok (.iconst 2, 1) := dGX12_506.2.2.1
theorem dX12_putsBack_363 : decode cX12_putsBack 363 = .ok (.iadd, 1) := dGX12_506.2.2.2.1
theorem dX12_putsBack_364 : decode cX12_putsBack 364 = .ok (.iaload, 1) := dGX12_506.2.2.2.2.1
theorem dX12_putsBack_365 : decode cX12_putsBack 365 = .ok (.putfield 182, 3) := dGX12_506.2.2.2.2.2
theorem dGX12_507 : decode cX12_putsBack 368 = .ok (.aload_n 0, 1) ∧ decode cX12_putsBack 369 = .ok (.aload_n 0, 1) ∧ decode cX12_putsBack 370 = .ok (.getfield 154, 3) ∧ decode cX12_putsBack 373 = .ok (.bipush 6, 2) ∧ decode cX12_putsBack 375 = .ok (.iload_n 1, 1) ∧ decode cX12_putsBack 376 = .ok (.imul, 1) := by decide +kernel
theorem dX12_putsBack_368 : decode cX12_putsBack 368 = .ok (.aload_n 0, 1) := dGX12_507.1
theorem dX12_putsBack_369 : decode cX12_putsBack 369 = .ok (.aload_n 0, 1) := dGX12_507.2.1
theorem dX12_putsBack_370 : decode cX12_putsBack 370 = .ok (.getfield 154, 3) := dGX12_507.2.2.1
theorem dX12_putsBack_373 : decode cX12_putsBack 373 = .ok (.bipush 6, 2) := dGX12_507.2.2.2.1
theorem dX12_putsBack_375 : decode cX12_putsBack 375 = .ok (.iload_n 1, 1) := dGX12_507.2.2.2.2.1
theorem dX12_putsBack_376 : decode cX12_putsBack 376 = .ok (.imul, 1) := dGX12_507.2.2.2.2.2
theorem dGX12_508 : decode cX12_putsBack 377 = .ok (.iconst 3, 1) ∧ decode cX12_putsBack 378 = .ok (.iadd, 1) ∧ decode cX12_putsBack 379 = .ok (.iaload, 1) ∧ decode cX12_putsBack 380 = .ok (.putfield 334, 3) ∧ decode cX12_putsBack 383 = .ok (.aload_n 0, 1) ∧ decode cX12_putsBack 384 = .ok (.aload_n 0, 1) := by decide +kernel
theorem dX12_putsBack_377 : decode cX12_putsBack 377 = .ok (.iconst 3, 1) := dGX12_508.1
theorem dX12_putsBack_378 : decode cX12_putsBack 378 = .ok (.iadd, 1) := dGX12_508.2.1
theorem dX12_putsBack_379 : decode cX12_putsBack 379 = .ok (.iaload, 1) := dGX12_508.2.2.1
theorem dX12_putsBack_380 : decode cX12_putsBack 380 = .ok (.putfield 334, 3) := dGX12_508.2.2.2.1
theorem dX12_putsBack_383 : decode cX12_putsBack 383 = .ok (.aload_n 0, 1) := dGX12_508.2.2.2.2.1
theorem dX12_putsBack_384 : decode cX12_putsBack 384 = .ok (.aload_n 0, 1) := dGX12_508.2.2.2.2.2
theorem dGX12_509 : decode cX12_putsBack 385 = .ok (.getfield 154, 3) ∧ decode cX12_putsBack 388 = .ok (.bipush 6, 2) ∧ decode cX12_putsBack 390 = .ok (.iload_n 1, 1) ∧ decode cX12_putsBack 391 = .ok (.imul, 1) ∧ decode cX12_putsBack 392 = .ok (.iconst 4, 1) ∧ decode cX12_putsBack 393 = .ok (.iadd, 1) := by decide +kernel
theorem dX12_putsBack_385 : decode cX12_putsBack 385 = .ok (.getfield 154, 3) := dGX12_509.1
theorem dX12_putsBack_388 : decode cX12_putsBack 388 = .ok (.bipush 6, 2) := dGX12_509.2.1
theorem dX12_putsBack_390 : decode cX12_putsBack 390 = .ok (.iload_n 1, 1) := dGX12_509.2.2.1
theorem dX12_putsBack_391 : decode cX12_putsBack 391 = .ok (.imul, 1) := dGX12_509.2.2.2.1
theorem dX12_putsBack_392 : decode cX12_putsBack 392 = .ok (.iconst 4, 1) := dGX12_509.2.2.2.2.1
theorem dX12_putsBack_393 : decode cX12_putsBack 393 = .ok (.iadd, 1) := dGX12_509.2.2.2.2.2
theorem dGX12_510 : decode cX12_putsBack 394 = .ok (.iaload, 1) ∧ decode cX12_putsBack 395 = .ok (.putfield 13, 3) ∧ decode cX12_putsBack 398 = .ok (.aload_n 0, 1) ∧ decode cX12_putsBack 399 = .ok (.aload_n 0, 1) ∧ decode cX12_putsBack 400 = .ok (.getfield 154, 3) ∧ decode cX12_putsBack 403 = .ok (.bipush 6, 2) := by decide +kernel
theorem dX12_putsBack_394 : decode cX12_putsBack 394 = .ok (.iaload, 1) := dGX12_510.1
theorem dX12_putsBack_395 : decode cX12_putsBack 395 = .ok (.putfield 13, 3) := dGX12_510.2.1
theorem dX12_putsBack_398 : decode cX12_putsBack 398 = .ok (.aload_n 0, 1) := dGX12_510.2.2.1
theorem dX12_putsBack_399 : decode cX12_putsBack 399 = .ok (.aload_n 0, 1) := dGX12_510.2.2.2.1
theorem dX12_putsBack_400 : decode cX12_putsBack 400 = .ok (.getfield 154, 3) := dGX12_510.2.2.2.2.1
theorem dX12_putsBack_403 : decode cX12_putsBack 403 = .ok (.bipush 6, 2) := dGX12_510.2.2.2.2.2
theorem dGX12_511 : decode cX12_putsBack 405 = .ok (.iload_n 1, 1) ∧ decode cX12_putsBack 406 = .ok (.imul, 1) ∧ decode cX12_putsBack 407 = .ok (.iconst 5, 1) ∧ decode cX12_putsBack 408 = .ok (.iadd, 1) ∧ decode cX12_putsBack 409 = .ok (.iaload, 1) ∧ decode cX12_putsBack 410 = .ok (.putfield 372, 3) := by decide +kernel
theorem dX12_putsBack_405 : decode cX12_putsBack 405 = .ok (.iload_n 1, 1) := dGX12_511.1
theorem dX12_putsBack_406 : decode cX12_putsBack 406 = .ok (.imul, 1) := dGX12_511.2.1
theorem dX12_putsBack_407 : decode cX12_putsBack 407 = .ok (.iconst 5, 1) := dGX12_511.2.2.1
theorem dX12_putsBack_408 : decode cX12_putsBack 408 = .ok (.iadd, 1) := dGX12_511.2.2.2.1
theorem dX12_putsBack_409 : decode cX12_putsBack 409 = .ok (.iaload, 1) := dGX12_511.2.2.2.2.1
theorem dX12_putsBack_410 : decode cX12_putsBack 410 = .ok (.putfield 372, 3) := dGX12_511.2.2.2.2.2
theorem dGX12_512 : decode cX12_putsBack 413 = .ok (.return_, 1) ∧ decode cX12_allSlates 0 = .ok (.iconst 0, 1) ∧ decode cX12_allSlates 1 = .ok (.istore_n 1, 1) ∧ decode cX12_allSlates 2 = .ok (.iconst 0, 1) ∧ decode cX12_allSlates 3 = .ok (.istore_n 2, 1) ∧ decode cX12_allSlates 4 = .ok (.iload_n 2, 1) := by decide +kernel
theorem dX12_putsBack_413 : decode cX12_putsBack 413 = .ok (.return_, 1) := dGX12_512.1
theorem dX12_allSlates_0 : decode cX12_allSlates 0 = .ok (.iconst 0, 1) := dGX12_512.2.1
theorem dX12_allSlates_1 : decode cX12_allSlates 1 = .ok (.istore_n 1, 1) := dGX12_512.2.2.1
theorem dX12_allSlates_2 : decode cX12_allSlates 2 = .ok (.iconst 0, 1) := dGX12_512.2.2.2.1
theorem dX12_allSlates_3 : decode cX12_allSlates 3 = .ok (.istore_n 2, 1) := dGX12_512.2.2.2.2.1
theorem dX12_allSlates_4 : decode cX12_allSlates 4 = .ok (.iload_n 2, 1) := dGX12_512.2.2.2.2.2
theorem dGX12_513 : decode cX12_allSlates 5 = .ok (.aload_n 0, 1) ∧ decode cX12_allSlates 6 = .ok (.getfield 172, 3) ∧ decode cX12_allSlates 9 = .ok (.if_icmp .ge 18, 3) ∧ decode cX12_allSlates 12 = .ok (.iload_n 1, 1) ∧ decode cX12_allSlates 13 = .ok (.aload_n 0, 1) ∧ decode cX12_allSlates 14 = .ok (.getfield 21, 3) := by decide +kernel
theorem dX12_allSlates_5 : decode cX12_allSlates 5 = .ok (.aload_n 0, 1) := dGX12_513.1
theorem dX12_allSlates_6 : decode cX12_allSlates 6 = .ok (.getfield 172, 3) := dGX12_513.2.1
theorem dX12_allSlates_9 : decode cX12_allSlates 9 = .ok (.if_icmp .ge 18, 3) := dGX12_513.2.2.1
theorem dX12_allSlates_12 : decode cX12_allSlates 12 = .ok (.iload_n 1, 1) := dGX12_513.2.2.2.1
theorem dX12_allSlates_13 : decode cX12_allSlates 13 = .ok (.aload_n 0, 1) := dGX12_513.2.2.2.2.1
theorem dX12_allSlates_14 : decode cX12_allSlates 14 = .ok (.getfield 21, 3) := dGX12_513.2.2.2.2.2
theorem dGX12_514 : decode cX12_allSlates 17 = .ok (.iload_n 2, 1) ∧ decode cX12_allSlates 18 = .ok (.iaload, 1) ∧ decode cX12_allSlates 19 = .ok (.iadd, 1) ∧ decode cX12_allSlates 20 = .ok (.istore_n 1, 1) ∧ decode cX12_allSlates 21 = .ok (.iinc 2 1, 3) ∧ decode cX12_allSlates 24 = .ok (.goto (-20), 3) := by decide +kernel
theorem dX12_allSlates_17 : decode cX12_allSlates 17 = .ok (.iload_n 2, 1) := dGX12_514.1
theorem dX12_allSlates_18 : decode cX12_allSlates 18 = .ok (.iaload, 1) := dGX12_514.2.1
theorem dX12_allSlates_19 : decode cX12_allSlates 19 = .ok (.iadd, 1) := dGX12_514.2.2.1
theorem dX12_allSlates_20 : decode cX12_allSlates 20 = .ok (.istore_n 1, 1) := dGX12_514.2.2.2.1
theorem dX12_allSlates_21 : decode cX12_allSlates 21 = .ok (.iinc 2 1, 3) := dGX12_514.2.2.2.2.1
theorem dX12_allSlates_24 : decode cX12_allSlates 24 = .ok (.goto (-20), 3) := dGX12_514.2.2.2.2.2
theorem dGX12_515 : decode cX12_allSlates 27 = .ok (.iload_n 1, 1) ∧ decode cX12_allSlates 28 = .ok (.ireturn, 1) ∧ decode cX12_allBruises 0 = .ok (.iconst 0, 1) ∧ decode cX12_allBruises 1 = .ok (.istore_n 1, 1) ∧ decode cX12_allBruises 2 = .ok (.iconst 0, 1) ∧ decode cX12_allBruises 3 = .ok (.istore_n 2, 1) := by decide +kernel
theorem dX12_allSlates_27 : decode cX12_allSlates 27 = .ok (.iload_n 1, 1) := dGX12_515.1
theorem dX12_allSlates_28 : decode cX12_allSlates 28 = .ok (.ireturn, 1) := dGX12_515.2.1
theorem dX12_allBruises_0 : decode cX12_allBruises 0 = .ok (.iconst 0, 1) := dGX12_515.2.2.1
theorem dX12_allBruises_1 : decode cX12_allBruises 1 = .ok (.istore_n 1, 1) := dGX12_515.2.2.2.1
theorem dX12_allBruises_2 : decode cX12_allBruises 2 = .ok (.iconst 0, 1) := dGX12_515.2.2.2.2.1
theorem dX12_allBruises_3 : decode cX12_allBruises 3 = .ok (.istore_n 2, 1) := dGX12_515.2.2.2.2.2
theorem dGX12_516 : decode cX12_allBruises 4 = .ok (.iload_n 2, 1) ∧ decode cX12_allBruises 5 = .ok (.aload_n 0, 1) ∧ decode cX12_allBruises 6 = .ok (.getfield 182, 3) ∧ decode cX12_allBruises 9 = .ok (.if_icmp .ge 18, 3) ∧ decode cX12_allBruises 12 = .ok (.iload_n 1, 1) ∧ decode cX12_allBruises 13 = .ok (.aload_n 0, 1) := by decide +kernel
theorem dX12_allBruises_4 : decode cX12_allBruises 4 = .ok (.iload_n 2, 1) := dGX12_516.1
theorem dX12_allBruises_5 : decode cX12_allBruises 5 = .ok (.aload_n 0, 1) := dGX12_516.2.1
theorem dX12_allBruises_6 : decode cX12_allBruises 6 = .ok (.getfield 182, 3) := dGX12_516.2.2.1
theorem dX12_allBruises_9 : decode cX12_allBruises 9 = .ok (.if_icmp .ge 18, 3) := dGX12_516.2.2.2.1
theorem dX12_allBruises_12 : decode cX12_allBruises 12 = .ok (.iload_n 1, 1) := dGX12_516.2.2.2.2.1
theorem dX12_allBruises_13 : decode cX12_allBruises 13 = .ok (.aload_n 0, 1) := dGX12_516.2.2.2.2.2
theorem dGX12_517 : decode cX12_allBruises 14 = .ok (.getfield 52, 3) ∧ decode cX12_allBruises 17 = .ok (.iload_n 2, 1) ∧ decode cX12_allBruises 18 = .ok (.iaload, 1) ∧ decode cX12_allBruises 19 = .ok (.iadd, 1) ∧ decode cX12_allBruises 20 = .ok (.istore_n 1, 1) ∧ decode cX12_allBruises 21 = .ok (.iinc 2 1, 3) := by decide +kernel
theorem dX12_allBruises_14 : decode cX12_allBruises 14 = .ok (.getfield 52, 3) := dGX12_517.1
theorem dX12_allBruises_17 : decode cX12_allBruises 17 = .ok (.iload_n 2, 1) := dGX12_517.2.1
theorem dX12_allBruises_18 : decode cX12_allBruises 18 = .ok (.iaload, 1) := dGX12_517.2.2.1
theorem dX12_allBruises_19 : decode cX12_allBruises 19 = .ok (.iadd, 1) := dGX12_517.2.2.2.1
theorem dX12_allBruises_20 : decode cX12_allBruises 20 = .ok (.istore_n 1, 1) := dGX12_517.2.2.2.2.1
theorem dX12_allBruises_21 : decode cX12_allBruises 21 = .ok (.iinc 2 1, 3) := dGX12_517.2.2.2.2.2
theorem dGX12_518 : decode cX12_allBruises 24 = .ok (.goto (-20), 3) ∧ decode cX12_allBruises 27 = .ok (.iload_n 1, 1) ∧ decode cX12_allBruises 28 = .ok (.ireturn, 1) ∧ decode cX12_tried 0 = .ok (.iload_n 1, 1) ∧ decode cX12_tried 1 = .ok (.invokestatic 398, 3) ∧ decode cX12_tried 4 = .ok (.ifCond .eq 37, 3) := by decide +kernel
theorem dX12_allBruises_24 : decode cX12_allBruises 24 = .ok (.goto (-20), 3) := dGX12_518.1
theorem dX12_allBruises_27 : decode cX12_allBruises 27 = .ok (.iload_n 1, 1) := dGX12_518.2.1
theorem dX12_allBruises_28 : decode cX12_allBruises 28 = .ok (.ireturn, 1) := dGX12_518.2.2.1
theorem dX12_tried_0 : decode cX12_tried 0 = .ok (.iload_n 1, 1) := dGX12_518.2.2.2.1
theorem dX12_tried_1 : decode cX12_tried 1 = .ok (.invokestatic 398, 3) := dGX12_518.2.2.2.2.1
theorem dX12_tried_4 : decode cX12_tried 4 = .ok (.ifCond .eq 37, 3) := dGX12_518.2.2.2.2.2
theorem dGX12_519 : decode cX12_tried 7 = .ok (.iload_n 2, 1) ∧ decode cX12_tried 8 = .ok (.i2l, 1) ∧ decode cX12_tried 9 = .ok (.lconst 0, 1) ∧ decode cX12_tried 10 = .ok (.ldc2_w 417, 3) ∧ decode cX12_tried 13 = .ok (.invokestatic 175, 3) ∧ decode cX12_tried 16 = .ok (.ifCond .ne 27, 3) := by decide +kernel
theorem dX12_tried_7 : decode cX12_tried 7 = .ok (.iload_n 2, 1) := dGX12_519.1
theorem dX12_tried_8 : decode cX12_tried 8 = .ok (.i2l, 1) := dGX12_519.2.1
theorem dX12_tried_9 : decode cX12_tried 9 = .ok (.lconst 0, 1) := dGX12_519.2.2.1
theorem dX12_tried_10 : decode cX12_tried 10 = .ok (.ldc2_w 417, 3) := dGX12_519.2.2.2.1
theorem dX12_tried_13 : decode cX12_tried 13 = .ok (.invokestatic 175, 3) := dGX12_519.2.2.2.2.1
theorem dX12_tried_16 : decode cX12_tried 16 = .ok (.ifCond .ne 27, 3) := dGX12_519.2.2.2.2.2
theorem dGX12_520 : decode cX12_tried 19 = .ok (.aload_n 0, 1) ∧ decode cX12_tried 20 = .ok (.iload_n 2, 1) ∧ decode cX12_tried 21 = .ok (.bipush 10, 2) ∧ decode cX12_tried 23 = .ok (.isub, 1) ∧ decode cX12_tried 24 = .ok (.invokevirtual 198, 3) ∧ decode cX12_tried 27 = .ok (.ifCond .ne 16, 3) := by decide +kernel
theorem dX12_tried_19 : decode cX12_tried 19 = .ok (.aload_n 0, 1) := dGX12_520.1
theorem dX12_tried_20 : decode cX12_tried 20 = .ok (.iload_n 2, 1) := dGX12_520.2.1
theorem dX12_tried_21 : decode cX12_tried 21 = .ok (.bipush 10, 2) := dGX12_520.2.2.1
theorem dX12_tried_23 : decode cX12_tried 23 = .ok (.isub, 1) := dGX12_520.2.2.2.1
theorem dX12_tried_24 : decode cX12_tried 24 = .ok (.invokevirtual 198, 3) := dGX12_520.2.2.2.2.1
theorem dX12_tried_27 : decode cX12_tried 27 = .ok (.ifCond .ne 16, 3) := dGX12_520.2.2.2.2.2
theorem dGX12_521 : decode cX12_tried 30 = .ok (.aload_n 0, 1) ∧ decode cX12_tried 31 = .ok (.iload_n 2, 1) ∧ decode cX12_tried 32 = .ok (.bipush 20, 2) ∧ decode cX12_tried 34 = .ok (.isub, 1) ∧ decode cX12_tried 35 = .ok (.invokevirtual 201, 3) ∧ decode cX12_tried 38 = .ok (.ifCond .ne 5, 3) := by decide +kernel
theorem dX12_tried_30 : decode cX12_tried 30 = .ok (.aload_n 0, 1) := dGX12_521.1
theorem dX12_tried_31 : decode cX12_tried 31 = .ok (.iload_n 2, 1) := dGX12_521.2.1
theorem dX12_tried_32 : decode cX12_tried 32 = .ok (.bipush 20, 2) := dGX12_521.2.2.1
theorem dX12_tried_34 : decode cX12_tried 34 = .ok (.isub, 1) := dGX12_521.2.2.2.1
theorem dX12_tried_35 : decode cX12_tried 35 = .ok (.invokevirtual 201, 3) := dGX12_521.2.2.2.2.1
theorem dX12_tried_38 : decode cX12_tried 38 = .ok (.ifCond .ne 5, 3) := dGX12_521.2.2.2.2.2
theorem dGX12_522 : decode cX12_tried 41 = .ok (.iconst (-1), 1) ∧ decode cX12_tried 42 = .ok (.ireturn, 1) ∧ decode cX12_tried 43 = .ok (.aload_n 0, 1) ∧ decode cX12_tried 44 = .ok (.iconst 0, 1) ∧ decode cX12_tried 45 = .ok (.invokevirtual 419, 3) ∧ decode cX12_tried 48 = .ok (.aload_n 0, 1) := by decide +kernel
theorem dX12_tried_41 : decode cX12_tried 41 = .ok (.iconst (-1), 1) := dGX12_522.1
theorem dX12_tried_42 : decode cX12_tried 42 = .ok (.ireturn, 1) := dGX12_522.2.1
theorem dX12_tried_43 : decode cX12_tried 43 = .ok (.aload_n 0, 1) := dGX12_522.2.2.1
theorem dX12_tried_44 : decode cX12_tried 44 = .ok (.iconst 0, 1) := dGX12_522.2.2.2.1
theorem dX12_tried_45 : decode cX12_tried 45 = .ok (.invokevirtual 419, 3) := dGX12_522.2.2.2.2.1
theorem dX12_tried_48 : decode cX12_tried 48 = .ok (.aload_n 0, 1) := dGX12_522.2.2.2.2.2
theorem dGX12_523 : decode cX12_tried 49 = .ok (.iconst 0, 1) ∧ decode cX12_tried 50 = .ok (.putfield 366, 3) ∧ decode cX12_tried 53 = .ok (.aload_n 0, 1) ∧ decode cX12_tried 54 = .ok (.iload_n 1, 1) ∧ decode cX12_tried 55 = .ok (.invokevirtual 401, 3) ∧ decode cX12_tried 58 = .ok (.iload_n 2, 1) := by decide +kernel
theorem dX12_tried_49 : decode cX12_tried 49 = .ok (.iconst 0, 1) := dGX12_523.1
theorem dX12_tried_50 : decode cX12_tried 50 = .ok (.putfield 366, 3) := dGX12_523.2.1
theorem dX12_tried_53 : decode cX12_tried 53 = .ok (.aload_n 0, 1) := dGX12_523.2.2.1
theorem dX12_tried_54 : decode cX12_tried 54 = .ok (.iload_n 1, 1) := dGX12_523.2.2.2.1
theorem dX12_tried_55 : decode cX12_tried 55 = .ok (.invokevirtual 401, 3) := dGX12_523.2.2.2.2.1
theorem dX12_tried_58 : decode cX12_tried 58 = .ok (.iload_n 2, 1) := dGX12_523.2.2.2.2.2
theorem dGX12_524 : decode cX12_tried 59 = .ok (.ifCond .ne 10, 3) ∧ decode cX12_tried 62 = .ok (.aload_n 0, 1) ∧ decode cX12_tried 63 = .ok (.invokevirtual 422, 3) ∧ decode cX12_tried 66 = .ok (.goto 66, 3) ∧ decode cX12_tried 69 = .ok (.iload_n 2, 1) ∧ decode cX12_tried 70 = .ok (.iconst 1, 1) := by decide +kernel
theorem dX12_tried_59 : decode cX12_tried 59 = .ok (.ifCond .ne 10, 3) := dGX12_524.1
theorem dX12_tried_62 : decode cX12_tried 62 = .ok (.aload_n 0, 1) := dGX12_524.2.1
theorem dX12_tried_63 : decode cX12_tried 63 = .ok (.invokevirtual 422, 3) := dGX12_524.2.2.1
theorem dX12_tried_66 : decode cX12_tried 66 = .ok (.goto 66, 3) := dGX12_524.2.2.2.1
theorem dX12_tried_69 : decode cX12_tried 69 = .ok (.iload_n 2, 1) := dGX12_524.2.2.2.2.1
theorem dX12_tried_70 : decode cX12_tried 70 = .ok (.iconst 1, 1) := dGX12_524.2.2.2.2.2
theorem dGX12_525 : decode cX12_tried 71 = .ok (.if_icmp .ne 10, 3) ∧ decode cX12_tried 74 = .ok (.aload_n 0, 1) ∧ decode cX12_tried 75 = .ok (.getfield 366, 3) ∧ decode cX12_tried 78 = .ok (.goto 54, 3) ∧ decode cX12_tried 81 = .ok (.iload_n 2, 1) ∧ decode cX12_tried 82 = .ok (.iconst 2, 1) := by decide +kernel
theorem dX12_tried_71 : decode cX12_tried 71 = .ok (.if_icmp .ne 10, 3) := dGX12_525.1
theorem dX12_tried_74 : decode cX12_tried 74 = .ok (.aload_n 0, 1) := dGX12_525.2.1
theorem dX12_tried_75 : decode cX12_tried 75 = .ok (.getfield 366, 3) := dGX12_525.2.2.1
theorem dX12_tried_78 : decode cX12_tried 78 = .ok (.goto 54, 3) := dGX12_525.2.2.2.1
theorem dX12_tried_81 : decode cX12_tried 81 = .ok (.iload_n 2, 1) := dGX12_525.2.2.2.2.1
theorem dX12_tried_82 : decode cX12_tried 82 = .ok (.iconst 2, 1) := dGX12_525.2.2.2.2.2
theorem dGX12_526 : decode cX12_tried 83 = .ok (.if_icmp .ne 10, 3) ∧ decode cX12_tried 86 = .ok (.aload_n 0, 1) ∧ decode cX12_tried 87 = .ok (.invokevirtual 425, 3) ∧ decode cX12_tried 90 = .ok (.goto 42, 3) ∧ decode cX12_tried 93 = .ok (.iload_n 2, 1) ∧ decode cX12_tried 94 = .ok (.iconst 3, 1) := by decide +kernel
theorem dX12_tried_83 : decode cX12_tried 83 = .ok (.if_icmp .ne 10, 3) := dGX12_526.1
theorem dX12_tried_86 : decode cX12_tried 86 = .ok (.aload_n 0, 1) := dGX12_526.2.1
theorem dX12_tried_87 : decode cX12_tried 87 = .ok (.invokevirtual 425, 3) := dGX12_526.2.2.1
theorem dX12_tried_90 : decode cX12_tried 90 = .ok (.goto 42, 3) := dGX12_526.2.2.2.1
theorem dX12_tried_93 : decode cX12_tried 93 = .ok (.iload_n 2, 1) := dGX12_526.2.2.2.2.1
theorem dX12_tried_94 : decode cX12_tried 94 = .ok (.iconst 3, 1) := dGX12_526.2.2.2.2.2
theorem dGX12_527 : decode cX12_tried 95 = .ok (.if_icmp .ne 10, 3) ∧ decode cX12_tried 98 = .ok (.aload_n 0, 1) ∧ decode cX12_tried 99 = .ok (.getfield 372, 3) ∧ decode cX12_tried 102 = .ok (.goto 30, 3) ∧ decode cX12_tried 105 = .ok (.iload_n 2, 1) ∧ decode cX12_tried 106 = .ok (.bipush 20, 2) := by decide +kernel
theorem dX12_tried_95 : decode cX12_tried 95 = .ok (.if_icmp .ne 10, 3) := dGX12_527.1
theorem dX12_tried_98 : decode cX12_tried 98 = .ok (.aload_n 0, 1) := dGX12_527.2.1
theorem dX12_tried_99 : decode cX12_tried 99 = .ok (.getfield 372, 3) := dGX12_527.2.2.1
theorem dX12_tried_102 : decode cX12_tried 102 = .ok (.goto 30, 3) := dGX12_527.2.2.2.1
theorem dX12_tried_105 : decode cX12_tried 105 = .ok (.iload_n 2, 1) := dGX12_527.2.2.2.2.1
theorem dX12_tried_106 : decode cX12_tried 106 = .ok (.bipush 20, 2) := dGX12_527.2.2.2.2.2
theorem dGX12_528 : decode cX12_tried 108 = .ok (.if_icmp .ge 15, 3) ∧ decode cX12_tried 111 = .ok (.aload_n 0, 1) ∧ decode cX12_tried 112 = .ok (.getfield 21, 3) ∧ decode cX12_tried 115 = .ok (.iload_n 2, 1) ∧ decode cX12_tried 116 = .ok (.bipush 10, 2) ∧ decode cX12_tried 118 = .ok (.isub, 1) := by decide +kernel
theorem dX12_tried_108 : decode cX12_tried 108 = .ok (.if_icmp .ge 15, 3) := dGX12_528.1
theorem dX12_tried_111 : decode cX12_tried 111 = .ok (.aload_n 0, 1) := dGX12_528.2.1
theorem dX12_tried_112 : decode cX12_tried 112 = .ok (.getfield 21, 3) := dGX12_528.2.2.1
theorem dX12_tried_115 : decode cX12_tried 115 = .ok (.iload_n 2, 1) := dGX12_528.2.2.2.1
theorem dX12_tried_116 : decode cX12_tried 116 = .ok (.bipush 10, 2) := dGX12_528.2.2.2.2.1
theorem dX12_tried_118 : decode cX12_tried 118 = .ok (.isub, 1) := dGX12_528.2.2.2.2.2
theorem dGX12_529 : decode cX12_tried 119 = .ok (.iaload, 1) ∧ decode cX12_tried 120 = .ok (.goto 12, 3) ∧ decode cX12_tried 123 = .ok (.aload_n 0, 1) ∧ decode cX12_tried 124 = .ok (.getfield 52, 3) ∧ decode cX12_tried 127 = .ok (.iload_n 2, 1) ∧ decode cX12_tried 128 = .ok (.bipush 20, 2) := by decide +kernel
theorem dX12_tried_119 : decode cX12_tried 119 = .ok (.iaload, 1) := dGX12_529.1
theorem dX12_tried_120 : decode cX12_tried 120 = .ok (.goto 12, 3) := dGX12_529.2.1
theorem dX12_tried_123 : decode cX12_tried 123 = .ok (.aload_n 0, 1) := dGX12_529.2.2.1
theorem dX12_tried_124 : decode cX12_tried 124 = .ok (.getfield 52, 3) := dGX12_529.2.2.2.1
theorem dX12_tried_127 : decode cX12_tried 127 = .ok (.iload_n 2, 1) := dGX12_529.2.2.2.2.1
theorem dX12_tried_128 : decode cX12_tried 128 = .ok (.bipush 20, 2) := dGX12_529.2.2.2.2.2
theorem dGX12_530 : decode cX12_tried 130 = .ok (.isub, 1) ∧ decode cX12_tried 131 = .ok (.iaload, 1) ∧ decode cX12_tried 132 = .ok (.istore_n 3, 1) ∧ decode cX12_tried 133 = .ok (.aload_n 0, 1) ∧ decode cX12_tried 134 = .ok (.iconst 0, 1) ∧ decode cX12_tried 135 = .ok (.invokevirtual 428, 3) := by decide +kernel
theorem dX12_tried_130 : decode cX12_tried 130 = .ok (.isub, 1) := dGX12_530.1
theorem dX12_tried_131 : decode cX12_tried 131 = .ok (.iaload, 1) := dGX12_530.2.1
theorem dX12_tried_132 : decode cX12_tried 132 = .ok (.istore_n 3, 1) := dGX12_530.2.2.1
theorem dX12_tried_133 : decode cX12_tried 133 = .ok (.aload_n 0, 1) := dGX12_530.2.2.2.1
theorem dX12_tried_134 : decode cX12_tried 134 = .ok (.iconst 0, 1) := dGX12_530.2.2.2.2.1
theorem dX12_tried_135 : decode cX12_tried 135 = .ok (.invokevirtual 428, 3) := dGX12_530.2.2.2.2.2
theorem dGX12_531 : decode cX12_tried 138 = .ok (.iload_n 3, 1) ∧ decode cX12_tried 139 = .ok (.ireturn, 1) ∧ decode cX12_powerOf 0 = .ok (.iconst 1, 1) ∧ decode cX12_powerOf 1 = .ok (.istore_n 2, 1) ∧ decode cX12_powerOf 2 = .ok (.iconst 0, 1) ∧ decode cX12_powerOf 3 = .ok (.istore_n 3, 1) := by decide +kernel
theorem dX12_tried_138 : decode cX12_tried 138 = .ok (.iload_n 3, 1) := dGX12_531.1
theorem dX12_tried_139 : decode cX12_tried 139 = .ok (.ireturn, 1) := dGX12_531.2.1
theorem dX12_powerOf_0 : decode cX12_powerOf 0 = .ok (.iconst 1, 1) := dGX12_531.2.2.1
theorem dX12_powerOf_1 : decode cX12_powerOf 1 = .ok (.istore_n 2, 1) := dGX12_531.2.2.2.1
theorem dX12_powerOf_2 : decode cX12_powerOf 2 = .ok (.iconst 0, 1) := dGX12_531.2.2.2.2.1
theorem dX12_powerOf_3 : decode cX12_powerOf 3 = .ok (.istore_n 3, 1) := dGX12_531.2.2.2.2.2
theorem dGX12_532 : decode cX12_powerOf 4 = .ok (.iload_n 3, 1) ∧ decode cX12_powerOf 5 = .ok (.iload_n 1, 1) ∧ decode cX12_powerOf 6 = .ok (.if_icmp .ge 16, 3) ∧ decode cX12_powerOf 9 = .ok (.iload_n 2, 1) ∧ decode cX12_powerOf 10 = .ok (.aload_n 0, 1) ∧ decode cX12_powerOf 11 = .ok (.getfield 172, 3) := by decide +kernel
theorem dX12_powerOf_4 : decode cX12_powerOf 4 = .ok (.iload_n 3, 1) := dGX12_532.1
theorem dX12_powerOf_5 : decode cX12_powerOf 5 = .ok (.iload_n 1, 1) := dGX12_532.2.1
theorem dX12_powerOf_6 : decode cX12_powerOf 6 = .ok (.if_icmp .ge 16, 3) := dGX12_532.2.2.1
theorem dX12_powerOf_9 : decode cX12_powerOf 9 = .ok (.iload_n 2, 1) := dGX12_532.2.2.2.1
theorem dX12_powerOf_10 : decode cX12_powerOf 10 = .ok (.aload_n 0, 1) := dGX12_532.2.2.2.2.1
theorem dX12_powerOf_11 : decode cX12_powerOf 11 = .ok (.getfield 172, 3) := dGX12_532.2.2.2.2.2
theorem dGX12_533 : decode cX12_powerOf 14 = .ok (.imul, 1) ∧ decode cX12_powerOf 15 = .ok (.istore_n 2, 1) ∧ decode cX12_powerOf 16 = .ok (.iinc 3 1, 3) ∧ decode cX12_powerOf 19 = .ok (.goto (-15), 3) ∧ decode cX12_powerOf 22 = .ok (.iload_n 2, 1) ∧ decode cX12_powerOf 23 = .ok (.ireturn, 1) := by decide +kernel
theorem dX12_powerOf_14 : decode cX12_powerOf 14 = .ok (.imul, 1) := dGX12_533.1
theorem dX12_powerOf_15 : decode cX12_powerOf 15 = .ok (.istore_n 2, 1) := dGX12_533.2.1
theorem dX12_powerOf_16 : decode cX12_powerOf 16 = .ok (.iinc 3 1, 3) := dGX12_533.2.2.1
theorem dX12_powerOf_19 : decode cX12_powerOf 19 = .ok (.goto (-15), 3) := dGX12_533.2.2.2.1
theorem dX12_powerOf_22 : decode cX12_powerOf 22 = .ok (.iload_n 2, 1) := dGX12_533.2.2.2.2.1
theorem dX12_powerOf_23 : decode cX12_powerOf 23 = .ok (.ireturn, 1) := dGX12_533.2.2.2.2.2
theorem dGX12_534 : decode cX12_roofIn 0 = .ok (.iload_n 1, 1) ∧ decode cX12_roofIn 1 = .ok (.aload_n 0, 1) ∧ decode cX12_roofIn 2 = .ok (.iload_n 2, 1) ∧ decode cX12_roofIn 3 = .ok (.iconst 1, 1) ∧ decode cX12_roofIn 4 = .ok (.isub, 1) ∧ decode cX12_roofIn 5 = .ok (.iload_n 3, 1) := by decide +kernel
theorem dX12_roofIn_0 : decode cX12_roofIn 0 = .ok (.iload_n 1, 1) := dGX12_534.1
theorem dX12_roofIn_1 : decode cX12_roofIn 1 = .ok (.aload_n 0, 1) := dGX12_534.2.1
theorem dX12_roofIn_2 : decode cX12_roofIn 2 = .ok (.iload_n 2, 1) := dGX12_534.2.2.1
theorem dX12_roofIn_3 : decode cX12_roofIn 3 = .ok (.iconst 1, 1) := dGX12_534.2.2.2.1
theorem dX12_roofIn_4 : decode cX12_roofIn 4 = .ok (.isub, 1) := dGX12_534.2.2.2.2.1
theorem dX12_roofIn_5 : decode cX12_roofIn 5 = .ok (.iload_n 3, 1) := dGX12_534.2.2.2.2.2
theorem dGX12_535 : decode cX12_roofIn 6 = .ok (.isub, 1) ∧ decode cX12_roofIn 7 = .ok (.invokevirtual 431, 3) ∧ decode cX12_roofIn 10 = .ok (.idiv, 1) ∧ decode cX12_roofIn 11 = .ok (.aload_n 0, 1) ∧ decode cX12_roofIn 12 = .ok (.getfield 172, 3) ∧ decode cX12_roofIn 15 = .ok (.irem, 1) := by decide +kernel
theorem dX12_roofIn_6 : decode cX12_roofIn 6 = .ok (.isub, 1) := dGX12_535.1
theorem dX12_roofIn_7 : decode cX12_roofIn 7 = .ok (.invokevirtual 431, 3) := dGX12_535.2.1
theorem dX12_roofIn_10 : decode cX12_roofIn 10 = .ok (.idiv, 1) := dGX12_535.2.2.1
theorem dX12_roofIn_11 : decode cX12_roofIn 11 = .ok (.aload_n 0, 1) := dGX12_535.2.2.2.1
theorem dX12_roofIn_12 : decode cX12_roofIn 12 = .ok (.getfield 172, 3) := dGX12_535.2.2.2.2.1
theorem dX12_roofIn_15 : decode cX12_roofIn 15 = .ok (.irem, 1) := dGX12_535.2.2.2.2.2
theorem dGX12_536 : decode cX12_roofIn 16 = .ok (.ireturn, 1) ∧ decode cX12_fullIn 0 = .ok (.iconst 0, 1) ∧ decode cX12_fullIn 1 = .ok (.istore_n 3, 1) ∧ decode cX12_fullIn 2 = .ok (.iload_n 3, 1) ∧ decode cX12_fullIn 3 = .ok (.iload_n 2, 1) ∧ decode cX12_fullIn 4 = .ok (.if_icmp .gt 36, 3) := by decide +kernel
theorem dX12_roofIn_16 : decode cX12_roofIn 16 = .ok (.ireturn, 1) := dGX12_536.1
theorem dX12_fullIn_0 : decode cX12_fullIn 0 = .ok (.iconst 0, 1) := dGX12_536.2.1
theorem dX12_fullIn_1 : decode cX12_fullIn 1 = .ok (.istore_n 3, 1) := dGX12_536.2.2.1
theorem dX12_fullIn_2 : decode cX12_fullIn 2 = .ok (.iload_n 3, 1) := dGX12_536.2.2.2.1
theorem dX12_fullIn_3 : decode cX12_fullIn 3 = .ok (.iload_n 2, 1) := dGX12_536.2.2.2.2.1
theorem dX12_fullIn_4 : decode cX12_fullIn 4 = .ok (.if_icmp .gt 36, 3) := dGX12_536.2.2.2.2.2
theorem dGX12_537 : decode cX12_fullIn 7 = .ok (.aload_n 0, 1) ∧ decode cX12_fullIn 8 = .ok (.getfield 21, 3) ∧ decode cX12_fullIn 11 = .ok (.iload_n 1, 1) ∧ decode cX12_fullIn 12 = .ok (.iaload, 1) ∧ decode cX12_fullIn 13 = .ok (.aload_n 0, 1) ∧ decode cX12_fullIn 14 = .ok (.getfield 17, 3) := by decide +kernel
theorem dX12_fullIn_7 : decode cX12_fullIn 7 = .ok (.aload_n 0, 1) := dGX12_537.1
theorem dX12_fullIn_8 : decode cX12_fullIn 8 = .ok (.getfield 21, 3) := dGX12_537.2.1
theorem dX12_fullIn_11 : decode cX12_fullIn 11 = .ok (.iload_n 1, 1) := dGX12_537.2.2.1
theorem dX12_fullIn_12 : decode cX12_fullIn 12 = .ok (.iaload, 1) := dGX12_537.2.2.2.1
theorem dX12_fullIn_13 : decode cX12_fullIn 13 = .ok (.aload_n 0, 1) := dGX12_537.2.2.2.2.1
theorem dX12_fullIn_14 : decode cX12_fullIn 14 = .ok (.getfield 17, 3) := dGX12_537.2.2.2.2.2
theorem dGX12_538 : decode cX12_fullIn 17 = .ok (.iload_n 1, 1) ∧ decode cX12_fullIn 18 = .ok (.iaload, 1) ∧ decode cX12_fullIn 19 = .ok (.if_icmp .ne 5, 3) ∧ decode cX12_fullIn 22 = .ok (.iload_n 3, 1) ∧ decode cX12_fullIn 23 = .ok (.ireturn, 1) ∧ decode cX12_fullIn 24 = .ok (.iload_n 3, 1) := by decide +kernel
theorem dX12_fullIn_17 : decode cX12_fullIn 17 = .ok (.iload_n 1, 1) := dGX12_538.1
theorem dX12_fullIn_18 : decode cX12_fullIn 18 = .ok (.iaload, 1) := dGX12_538.2.1
theorem dX12_fullIn_19 : decode cX12_fullIn 19 = .ok (.if_icmp .ne 5, 3) := dGX12_538.2.2.1
theorem dX12_fullIn_22 : decode cX12_fullIn 22 = .ok (.iload_n 3, 1) := dGX12_538.2.2.2.1
theorem dX12_fullIn_23 : decode cX12_fullIn 23 = .ok (.ireturn, 1) := dGX12_538.2.2.2.2.1
theorem dX12_fullIn_24 : decode cX12_fullIn 24 = .ok (.iload_n 3, 1) := dGX12_538.2.2.2.2.2
theorem dGX12_539 : decode cX12_fullIn 25 = .ok (.iload_n 2, 1) ∧ decode cX12_fullIn 26 = .ok (.if_icmp .ge 8, 3) ∧ decode cX12_fullIn 29 = .ok (.aload_n 0, 1) ∧ decode cX12_fullIn 30 = .ok (.iconst 1, 1) ∧ decode cX12_fullIn 31 = .ok (.invokevirtual 401, 3) ∧ decode cX12_fullIn 34 = .ok (.iinc 3 1, 3) := by decide +kernel
theorem dX12_fullIn_25 : decode cX12_fullIn 25 = .ok (.iload_n 2, 1) := dGX12_539.1
theorem dX12_fullIn_26 : decode cX12_fullIn 26 = .ok (.if_icmp .ge 8, 3) := dGX12_539.2.1
theorem dX12_fullIn_29 : decode cX12_fullIn 29 = .ok (.aload_n 0, 1) := dGX12_539.2.2.1
theorem dX12_fullIn_30 : decode cX12_fullIn 30 = .ok (.iconst 1, 1) := dGX12_539.2.2.2.1
theorem dX12_fullIn_31 : decode cX12_fullIn 31 = .ok (.invokevirtual 401, 3) := dGX12_539.2.2.2.2.1
theorem dX12_fullIn_34 : decode cX12_fullIn 34 = .ok (.iinc 3 1, 3) := dGX12_539.2.2.2.2.2
theorem dGX12_540 : decode cX12_fullIn 37 = .ok (.goto (-35), 3) ∧ decode cX12_fullIn 40 = .ok (.ldc_w 434, 3) ∧ decode cX12_fullIn 43 = .ok (.ireturn, 1) ∧ decode cX12_findsSet 0 = .ok (.aload_n 0, 1) ∧ decode cX12_findsSet 1 = .ok (.iconst (-1), 1) ∧ decode cX12_findsSet 2 = .ok (.putfield 435, 3) := by decide +kernel
theorem dX12_fullIn_37 : decode cX12_fullIn 37 = .ok (.goto (-35), 3) := dGX12_540.1
theorem dX12_fullIn_40 : decode cX12_fullIn 40 = .ok (.ldc_w 434, 3) := dGX12_540.2.1
theorem dX12_fullIn_43 : decode cX12_fullIn 43 = .ok (.ireturn, 1) := dGX12_540.2.2.1
theorem dX12_findsSet_0 : decode cX12_findsSet 0 = .ok (.aload_n 0, 1) := dGX12_540.2.2.2.1
theorem dX12_findsSet_1 : decode cX12_findsSet 1 = .ok (.iconst (-1), 1) := dGX12_540.2.2.2.2.1
theorem dX12_findsSet_2 : decode cX12_findsSet 2 = .ok (.putfield 435, 3) := dGX12_540.2.2.2.2.2
theorem dGX12_541 : decode cX12_findsSet 5 = .ok (.aload_n 0, 1) ∧ decode cX12_findsSet 6 = .ok (.ldc_w 434, 3) ∧ decode cX12_findsSet 9 = .ok (.putfield 438, 3) ∧ decode cX12_findsSet 12 = .ok (.aload_n 0, 1) ∧ decode cX12_findsSet 13 = .ok (.ldc_w 434, 3) ∧ decode cX12_findsSet 16 = .ok (.putfield 441, 3) := by decide +kernel
theorem dX12_findsSet_5 : decode cX12_findsSet 5 = .ok (.aload_n 0, 1) := dGX12_541.1
theorem dX12_findsSet_6 : decode cX12_findsSet 6 = .ok (.ldc_w 434, 3) := dGX12_541.2.1
theorem dX12_findsSet_9 : decode cX12_findsSet 9 = .ok (.putfield 438, 3) := dGX12_541.2.2.1
theorem dX12_findsSet_12 : decode cX12_findsSet 12 = .ok (.aload_n 0, 1) := dGX12_541.2.2.2.1
theorem dX12_findsSet_13 : decode cX12_findsSet 13 = .ok (.ldc_w 434, 3) := dGX12_541.2.2.2.2.1
theorem dX12_findsSet_16 : decode cX12_findsSet 16 = .ok (.putfield 441, 3) := dGX12_541.2.2.2.2.2
theorem dGX12_542 : decode cX12_findsSet 19 = .ok (.aload_n 0, 1) ∧ decode cX12_findsSet 20 = .ok (.iload_n 1, 1) ∧ decode cX12_findsSet 21 = .ok (.invokevirtual 431, 3) ∧ decode cX12_findsSet 24 = .ok (.istore 4, 2) ∧ decode cX12_findsSet 26 = .ok (.iconst 0, 1) ∧ decode cX12_findsSet 27 = .ok (.istore 5, 2) := by decide +kernel
theorem dX12_findsSet_19 : decode cX12_findsSet 19 = .ok (.aload_n 0, 1) := dGX12_542.1
theorem dX12_findsSet_20 : decode cX12_findsSet 20 = .ok (.iload_n 1, 1) := dGX12_542.2.1
theorem dX12_findsSet_21 : decode cX12_findsSet 21 = .ok (.invokevirtual 431, 3) := dGX12_542.2.2.1
theorem dX12_findsSet_24 : decode cX12_findsSet 24 = .ok (.istore 4, 2) := dGX12_542.2.2.2.1
theorem dX12_findsSet_26 : decode cX12_findsSet 26 = .ok (.iconst 0, 1) := dGX12_542.2.2.2.2.1
theorem dX12_findsSet_27 : decode cX12_findsSet 27 = .ok (.istore 5, 2) := dGX12_542.2.2.2.2.2
theorem dGX12_543 : decode cX12_findsSet 29 = .ok (.iload 5, 2) ∧ decode cX12_findsSet 31 = .ok (.iload 4, 2) ∧ decode cX12_findsSet 33 = .ok (.if_icmp .ge 125, 3) ∧ decode cX12_findsSet 36 = .ok (.aload_n 0, 1) ∧ decode cX12_findsSet 37 = .ok (.iconst 0, 1) ∧ decode cX12_findsSet 38 = .ok (.invokevirtual 419, 3) := by decide +kernel
theorem dX12_findsSet_29 : decode cX12_findsSet 29 = .ok (.iload 5, 2) := dGX12_543.1
theorem dX12_findsSet_31 : decode cX12_findsSet 31 = .ok (.iload 4, 2) := dGX12_543.2.1
theorem dX12_findsSet_33 : decode cX12_findsSet 33 = .ok (.if_icmp .ge 125, 3) := dGX12_543.2.2.1
theorem dX12_findsSet_36 : decode cX12_findsSet 36 = .ok (.aload_n 0, 1) := dGX12_543.2.2.2.1
theorem dX12_findsSet_37 : decode cX12_findsSet 37 = .ok (.iconst 0, 1) := dGX12_543.2.2.2.2.1
theorem dX12_findsSet_38 : decode cX12_findsSet 38 = .ok (.invokevirtual 419, 3) := dGX12_543.2.2.2.2.2
theorem dGX12_544 : decode cX12_findsSet 41 = .ok (.iconst 0, 1) ∧ decode cX12_findsSet 42 = .ok (.istore 6, 2) ∧ decode cX12_findsSet 44 = .ok (.iload 6, 2) ∧ decode cX12_findsSet 46 = .ok (.iload_n 1, 1) ∧ decode cX12_findsSet 47 = .ok (.if_icmp .ge 30, 3) ∧ decode cX12_findsSet 50 = .ok (.aload_n 0, 1) := by decide +kernel
theorem dX12_findsSet_41 : decode cX12_findsSet 41 = .ok (.iconst 0, 1) := dGX12_544.1
theorem dX12_findsSet_42 : decode cX12_findsSet 42 = .ok (.istore 6, 2) := dGX12_544.2.1
theorem dX12_findsSet_44 : decode cX12_findsSet 44 = .ok (.iload 6, 2) := dGX12_544.2.2.1
theorem dX12_findsSet_46 : decode cX12_findsSet 46 = .ok (.iload_n 1, 1) := dGX12_544.2.2.2.1
theorem dX12_findsSet_47 : decode cX12_findsSet 47 = .ok (.if_icmp .ge 30, 3) := dGX12_544.2.2.2.2.1
theorem dX12_findsSet_50 : decode cX12_findsSet 50 = .ok (.aload_n 0, 1) := dGX12_544.2.2.2.2.2
theorem dGX12_545 : decode cX12_findsSet 51 = .ok (.getfield 27, 3) ∧ decode cX12_findsSet 54 = .ok (.aload_n 0, 1) ∧ decode cX12_findsSet 55 = .ok (.getfield 157, 3) ∧ decode cX12_findsSet 58 = .ok (.iload 6, 2) ∧ decode cX12_findsSet 60 = .ok (.iaload, 1) ∧ decode cX12_findsSet 61 = .ok (.aload_n 0, 1) := by decide +kernel
theorem dX12_findsSet_51 : decode cX12_findsSet 51 = .ok (.getfield 27, 3) := dGX12_545.1
theorem dX12_findsSet_54 : decode cX12_findsSet 54 = .ok (.aload_n 0, 1) := dGX12_545.2.1
theorem dX12_findsSet_55 : decode cX12_findsSet 55 = .ok (.getfield 157, 3) := dGX12_545.2.2.1
theorem dX12_findsSet_58 : decode cX12_findsSet 58 = .ok (.iload 6, 2) := dGX12_545.2.2.2.1
theorem dX12_findsSet_60 : decode cX12_findsSet 60 = .ok (.iaload, 1) := dGX12_545.2.2.2.2.1
theorem dX12_findsSet_61 : decode cX12_findsSet 61 = .ok (.aload_n 0, 1) := dGX12_545.2.2.2.2.2
theorem dGX12_546 : decode cX12_findsSet 62 = .ok (.iload 5, 2) ∧ decode cX12_findsSet 64 = .ok (.iload_n 1, 1) ∧ decode cX12_findsSet 65 = .ok (.iload 6, 2) ∧ decode cX12_findsSet 67 = .ok (.invokevirtual 444, 3) ∧ decode cX12_findsSet 70 = .ok (.iastore, 1) ∧ decode cX12_findsSet 71 = .ok (.iinc 6 1, 3) := by decide +kernel
theorem dX12_findsSet_62 : decode cX12_findsSet 62 = .ok (.iload 5, 2) := dGX12_546.1
theorem dX12_findsSet_64 : decode cX12_findsSet 64 = .ok (.iload_n 1, 1) := dGX12_546.2.1
theorem dX12_findsSet_65 : decode cX12_findsSet 65 = .ok (.iload 6, 2) := dGX12_546.2.2.1
theorem dX12_findsSet_67 : decode cX12_findsSet 67 = .ok (.invokevirtual 444, 3) := dGX12_546.2.2.2.1
theorem dX12_findsSet_70 : decode cX12_findsSet 70 = .ok (.iastore, 1) := dGX12_546.2.2.2.2.1
theorem dX12_findsSet_71 : decode cX12_findsSet 71 = .ok (.iinc 6 1, 3) := dGX12_546.2.2.2.2.2
theorem dGX12_547 : decode cX12_findsSet 74 = .ok (.goto (-30), 3) ∧ decode cX12_findsSet 77 = .ok (.aload_n 0, 1) ∧ decode cX12_findsSet 78 = .ok (.iload_n 2, 1) ∧ decode cX12_findsSet 79 = .ok (.iload_n 3, 1) ∧ decode cX12_findsSet 80 = .ok (.invokevirtual 447, 3) ∧ decode cX12_findsSet 83 = .ok (.istore 6, 2) := by decide +kernel
theorem dX12_findsSet_74 : decode cX12_findsSet 74 = .ok (.goto (-30), 3) := dGX12_547.1
theorem dX12_findsSet_77 : decode cX12_findsSet 77 = .ok (.aload_n 0, 1) := dGX12_547.2.1
theorem dX12_findsSet_78 : decode cX12_findsSet 78 = .ok (.iload_n 2, 1) := dGX12_547.2.2.1
theorem dX12_findsSet_79 : decode cX12_findsSet 79 = .ok (.iload_n 3, 1) := dGX12_547.2.2.2.1
theorem dX12_findsSet_80 : decode cX12_findsSet 80 = .ok (.invokevirtual 447, 3) := dGX12_547.2.2.2.2.1
theorem dX12_findsSet_83 : decode cX12_findsSet 83 = .ok (.istore 6, 2) := dGX12_547.2.2.2.2.2
theorem dGX12_548 : decode cX12_findsSet 85 = .ok (.aload_n 0, 1) ∧ decode cX12_findsSet 86 = .ok (.invokevirtual 425, 3) ∧ decode cX12_findsSet 89 = .ok (.istore 7, 2) ∧ decode cX12_findsSet 91 = .ok (.aload_n 0, 1) ∧ decode cX12_findsSet 92 = .ok (.iconst 0, 1) ∧ decode cX12_findsSet 93 = .ok (.invokevirtual 428, 3) := by decide +kernel
theorem dX12_findsSet_85 : decode cX12_findsSet 85 = .ok (.aload_n 0, 1) := dGX12_548.1
theorem dX12_findsSet_86 : decode cX12_findsSet 86 = .ok (.invokevirtual 425, 3) := dGX12_548.2.1
theorem dX12_findsSet_89 : decode cX12_findsSet 89 = .ok (.istore 7, 2) := dGX12_548.2.2.1
theorem dX12_findsSet_91 : decode cX12_findsSet 91 = .ok (.aload_n 0, 1) := dGX12_548.2.2.2.1
theorem dX12_findsSet_92 : decode cX12_findsSet 92 = .ok (.iconst 0, 1) := dGX12_548.2.2.2.2.1
theorem dX12_findsSet_93 : decode cX12_findsSet 93 = .ok (.invokevirtual 428, 3) := dGX12_548.2.2.2.2.2
theorem dGX12_549 : decode cX12_findsSet 96 = .ok (.iload 6, 2) ∧ decode cX12_findsSet 98 = .ok (.ldc_w 434, 3) ∧ decode cX12_findsSet 101 = .ok (.if_icmp .eq 51, 3) ∧ decode cX12_findsSet 104 = .ok (.iload 6, 2) ∧ decode cX12_findsSet 106 = .ok (.aload_n 0, 1) ∧ decode cX12_findsSet 107 = .ok (.getfield 438, 3) := by decide +kernel
theorem dX12_findsSet_96 : decode cX12_findsSet 96 = .ok (.iload 6, 2) := dGX12_549.1
theorem dX12_findsSet_98 : decode cX12_findsSet 98 = .ok (.ldc_w 434, 3) := dGX12_549.2.1
theorem dX12_findsSet_101 : decode cX12_findsSet 101 = .ok (.if_icmp .eq 51, 3) := dGX12_549.2.2.1
theorem dX12_findsSet_104 : decode cX12_findsSet 104 = .ok (.iload 6, 2) := dGX12_549.2.2.2.1
theorem dX12_findsSet_106 : decode cX12_findsSet 106 = .ok (.aload_n 0, 1) := dGX12_549.2.2.2.2.1
theorem dX12_findsSet_107 : decode cX12_findsSet 107 = .ok (.getfield 438, 3) := dGX12_549.2.2.2.2.2
theorem dGX12_550 : decode cX12_findsSet 110 = .ok (.if_icmp .gt 42, 3) ∧ decode cX12_findsSet 113 = .ok (.iload 6, 2) ∧ decode cX12_findsSet 115 = .ok (.aload_n 0, 1) ∧ decode cX12_findsSet 116 = .ok (.getfield 438, 3) ∧ decode cX12_findsSet 119 = .ok (.if_icmp .ne 15, 3) ∧ decode cX12_findsSet 122 = .ok (.iload 7, 2) := by decide +kernel
theorem dX12_findsSet_110 : decode cX12_findsSet 110 = .ok (.if_icmp .gt 42, 3) := dGX12_550.1
theorem dX12_findsSet_113 : decode cX12_findsSet 113 = .ok (.iload 6, 2) := dGX12_550.2.1
theorem dX12_findsSet_115 : decode cX12_findsSet 115 = .ok (.aload_n 0, 1) := dGX12_550.2.2.1
theorem dX12_findsSet_116 : decode cX12_findsSet 116 = .ok (.getfield 438, 3) := dGX12_550.2.2.2.1
theorem dX12_findsSet_119 : decode cX12_findsSet 119 = .ok (.if_icmp .ne 15, 3) := dGX12_550.2.2.2.2.1
theorem dX12_findsSet_122 : decode cX12_findsSet 122 = .ok (.iload 7, 2) := dGX12_550.2.2.2.2.2
theorem dGX12_551 : decode cX12_findsSet 124 = .ok (.aload_n 0, 1) ∧ decode cX12_findsSet 125 = .ok (.getfield 441, 3) ∧ decode cX12_findsSet 128 = .ok (.if_icmp .lt 6, 3) ∧ decode cX12_findsSet 131 = .ok (.goto 21, 3) ∧ decode cX12_findsSet 134 = .ok (.aload_n 0, 1) ∧ decode cX12_findsSet 135 = .ok (.iload 5, 2) := by decide +kernel
theorem dX12_findsSet_124 : decode cX12_findsSet 124 = .ok (.aload_n 0, 1) := dGX12_551.1
theorem dX12_findsSet_125 : decode cX12_findsSet 125 = .ok (.getfield 441, 3) := dGX12_551.2.1
theorem dX12_findsSet_128 : decode cX12_findsSet 128 = .ok (.if_icmp .lt 6, 3) := dGX12_551.2.2.1
theorem dX12_findsSet_131 : decode cX12_findsSet 131 = .ok (.goto 21, 3) := dGX12_551.2.2.2.1
theorem dX12_findsSet_134 : decode cX12_findsSet 134 = .ok (.aload_n 0, 1) := dGX12_551.2.2.2.2.1
theorem dX12_findsSet_135 : decode cX12_findsSet 135 = .ok (.iload 5, 2) := dGX12_551.2.2.2.2.2
theorem dGX12_552 : decode cX12_findsSet 137 = .ok (.putfield 435, 3) ∧ decode cX12_findsSet 140 = .ok (.aload_n 0, 1) ∧ decode cX12_findsSet 141 = .ok (.iload 6, 2) ∧ decode cX12_findsSet 143 = .ok (.putfield 438, 3) ∧ decode cX12_findsSet 146 = .ok (.aload_n 0, 1) ∧ decode cX12_findsSet 147 = .ok (.iload 7, 2) := by decide +kernel
theorem dX12_findsSet_137 : decode cX12_findsSet 137 = .ok (.putfield 435, 3) := dGX12_552.1
theorem dX12_findsSet_140 : decode cX12_findsSet 140 = .ok (.aload_n 0, 1) := dGX12_552.2.1
theorem dX12_findsSet_141 : decode cX12_findsSet 141 = .ok (.iload 6, 2) := dGX12_552.2.2.1
theorem dX12_findsSet_143 : decode cX12_findsSet 143 = .ok (.putfield 438, 3) := dGX12_552.2.2.2.1
theorem dX12_findsSet_146 : decode cX12_findsSet 146 = .ok (.aload_n 0, 1) := dGX12_552.2.2.2.2.1
theorem dX12_findsSet_147 : decode cX12_findsSet 147 = .ok (.iload 7, 2) := dGX12_552.2.2.2.2.2
theorem dGX12_553 : decode cX12_findsSet 149 = .ok (.putfield 441, 3) ∧ decode cX12_findsSet 152 = .ok (.iinc 5 1, 3) ∧ decode cX12_findsSet 155 = .ok (.goto (-126), 3) ∧ decode cX12_findsSet 158 = .ok (.return_, 1) ∧ decode cX12_set 0 = .ok (.iload_n 1, 1) ∧ decode cX12_set 1 = .ok (.i2l, 1) := by decide +kernel
theorem dX12_findsSet_149 : decode cX12_findsSet 149 = .ok (.putfield 441, 3) := dGX12_553.1
theorem dX12_findsSet_152 : decode cX12_findsSet 152 = .ok (.iinc 5 1, 3) := dGX12_553.2.1
theorem dX12_findsSet_155 : decode cX12_findsSet 155 = .ok (.goto (-126), 3) := dGX12_553.2.2.1
theorem dX12_findsSet_158 : decode cX12_findsSet 158 = .ok (.return_, 1) := dGX12_553.2.2.2.1
theorem dX12_set_0 : decode cX12_set 0 = .ok (.iload_n 1, 1) := dGX12_553.2.2.2.2.1
theorem dX12_set_1 : decode cX12_set 1 = .ok (.i2l, 1) := dGX12_553.2.2.2.2.2
theorem dGX12_554 : decode cX12_set 2 = .ok (.lconst 1, 1) ∧ decode cX12_set 3 = .ok (.iconst 1, 1) ∧ decode cX12_set 4 = .ok (.aload_n 0, 1) ∧ decode cX12_set 5 = .ok (.getfield 179, 3) ∧ decode cX12_set 8 = .ok (.ishl, 1) ∧ decode cX12_set 9 = .ok (.iconst 1, 1) := by decide +kernel
theorem dX12_set_2 : decode cX12_set 2 = .ok (.lconst 1, 1) := dGX12_554.1
theorem dX12_set_3 : decode cX12_set 3 = .ok (.iconst 1, 1) := dGX12_554.2.1
theorem dX12_set_4 : decode cX12_set 4 = .ok (.aload_n 0, 1) := dGX12_554.2.2.1
theorem dX12_set_5 : decode cX12_set 5 = .ok (.getfield 179, 3) := dGX12_554.2.2.2.1
theorem dX12_set_8 : decode cX12_set 8 = .ok (.ishl, 1) := dGX12_554.2.2.2.2.1
theorem dX12_set_9 : decode cX12_set 9 = .ok (.iconst 1, 1) := dGX12_554.2.2.2.2.2
theorem dGX12_555 : decode cX12_set 10 = .ok (.isub, 1) ∧ decode cX12_set 11 = .ok (.i2l, 1) ∧ decode cX12_set 12 = .ok (.invokestatic 175, 3) ∧ decode cX12_set 15 = .ok (.ifCond .eq 64, 3) ∧ decode cX12_set 18 = .ok (.iload_n 1, 1) ∧ decode cX12_set 19 = .ok (.invokestatic 450, 3) := by decide +kernel
theorem dX12_set_10 : decode cX12_set 10 = .ok (.isub, 1) := dGX12_555.1
theorem dX12_set_11 : decode cX12_set 11 = .ok (.i2l, 1) := dGX12_555.2.1
theorem dX12_set_12 : decode cX12_set 12 = .ok (.invokestatic 175, 3) := dGX12_555.2.2.1
theorem dX12_set_15 : decode cX12_set 15 = .ok (.ifCond .eq 64, 3) := dGX12_555.2.2.2.1
theorem dX12_set_18 : decode cX12_set 18 = .ok (.iload_n 1, 1) := dGX12_555.2.2.2.2.1
theorem dX12_set_19 : decode cX12_set 19 = .ok (.invokestatic 450, 3) := dGX12_555.2.2.2.2.2
theorem dGX12_556 : decode cX12_set 22 = .ok (.iconst 3, 1) ∧ decode cX12_set 23 = .ok (.if_icmp .gt 56, 3) ∧ decode cX12_set 26 = .ok (.aload_n 0, 1) ∧ decode cX12_set 27 = .ok (.iload_n 2, 1) ∧ decode cX12_set 28 = .ok (.invokevirtual 198, 3) ∧ decode cX12_set 31 = .ok (.ifCond .eq 48, 3) := by decide +kernel
theorem dX12_set_22 : decode cX12_set 22 = .ok (.iconst 3, 1) := dGX12_556.1
theorem dX12_set_23 : decode cX12_set 23 = .ok (.if_icmp .gt 56, 3) := dGX12_556.2.1
theorem dX12_set_26 : decode cX12_set 26 = .ok (.aload_n 0, 1) := dGX12_556.2.2.1
theorem dX12_set_27 : decode cX12_set 27 = .ok (.iload_n 2, 1) := dGX12_556.2.2.2.1
theorem dX12_set_28 : decode cX12_set 28 = .ok (.invokevirtual 198, 3) := dGX12_556.2.2.2.2.1
theorem dX12_set_31 : decode cX12_set 31 = .ok (.ifCond .eq 48, 3) := dGX12_556.2.2.2.2.2
theorem dGX12_557 : decode cX12_set 34 = .ok (.iload_n 3, 1) ∧ decode cX12_set 35 = .ok (.i2l, 1) ∧ decode cX12_set 36 = .ok (.lconst 1, 1) ∧ decode cX12_set 37 = .ok (.ldc2_w 453, 3) ∧ decode cX12_set 40 = .ok (.invokestatic 175, 3) ∧ decode cX12_set 43 = .ok (.ifCond .eq 36, 3) := by decide +kernel
theorem dX12_set_34 : decode cX12_set 34 = .ok (.iload_n 3, 1) := dGX12_557.1
theorem dX12_set_35 : decode cX12_set 35 = .ok (.i2l, 1) := dGX12_557.2.1
theorem dX12_set_36 : decode cX12_set 36 = .ok (.lconst 1, 1) := dGX12_557.2.2.1
theorem dX12_set_37 : decode cX12_set 37 = .ok (.ldc2_w 453, 3) := dGX12_557.2.2.2.1
theorem dX12_set_40 : decode cX12_set 40 = .ok (.invokestatic 175, 3) := dGX12_557.2.2.2.2.1
theorem dX12_set_43 : decode cX12_set 43 = .ok (.ifCond .eq 36, 3) := dGX12_557.2.2.2.2.2
theorem dGX12_558 : decode cX12_set 46 = .ok (.iload 4, 2) ∧ decode cX12_set 48 = .ok (.i2l, 1) ∧ decode cX12_set 49 = .ok (.ldc2_w 410, 3) ∧ decode cX12_set 52 = .ok (.ldc2_w 455, 3) ∧ decode cX12_set 55 = .ok (.invokestatic 175, 3) ∧ decode cX12_set 58 = .ok (.ifCond .ne 23, 3) := by decide +kernel
theorem dX12_set_46 : decode cX12_set 46 = .ok (.iload 4, 2) := dGX12_558.1
theorem dX12_set_48 : decode cX12_set 48 = .ok (.i2l, 1) := dGX12_558.2.1
theorem dX12_set_49 : decode cX12_set 49 = .ok (.ldc2_w 410, 3) := dGX12_558.2.2.1
theorem dX12_set_52 : decode cX12_set 52 = .ok (.ldc2_w 455, 3) := dGX12_558.2.2.2.1
theorem dX12_set_55 : decode cX12_set 55 = .ok (.invokestatic 175, 3) := dGX12_558.2.2.2.2.1
theorem dX12_set_58 : decode cX12_set 58 = .ok (.ifCond .ne 23, 3) := dGX12_558.2.2.2.2.2
theorem dGX12_559 : decode cX12_set 61 = .ok (.aload_n 0, 1) ∧ decode cX12_set 62 = .ok (.iload 4, 2) ∧ decode cX12_set 64 = .ok (.invokevirtual 195, 3) ∧ decode cX12_set 67 = .ok (.ifCond .eq 12, 3) ∧ decode cX12_set 70 = .ok (.iload_n 1, 1) ∧ decode cX12_set 71 = .ok (.iload 4, 2) := by decide +kernel
theorem dX12_set_61 : decode cX12_set 61 = .ok (.aload_n 0, 1) := dGX12_559.1
theorem dX12_set_62 : decode cX12_set 62 = .ok (.iload 4, 2) := dGX12_559.2.1
theorem dX12_set_64 : decode cX12_set 64 = .ok (.invokevirtual 195, 3) := dGX12_559.2.2.1
theorem dX12_set_67 : decode cX12_set 67 = .ok (.ifCond .eq 12, 3) := dGX12_559.2.2.2.1
theorem dX12_set_70 : decode cX12_set 70 = .ok (.iload_n 1, 1) := dGX12_559.2.2.2.2.1
theorem dX12_set_71 : decode cX12_set 71 = .ok (.iload 4, 2) := dGX12_559.2.2.2.2.2
theorem dGX12_560 : decode cX12_set 73 = .ok (.invokestatic 362, 3) ∧ decode cX12_set 76 = .ok (.ifCond .ne 5, 3) ∧ decode cX12_set 79 = .ok (.iconst (-1), 1) ∧ decode cX12_set 80 = .ok (.ireturn, 1) ∧ decode cX12_set 81 = .ok (.iconst 0, 1) ∧ decode cX12_set 82 = .ok (.istore 5, 2) := by decide +kernel
theorem dX12_set_73 : decode cX12_set 73 = .ok (.invokestatic 362, 3) := dGX12_560.1
theorem dX12_set_76 : decode cX12_set 76 = .ok (.ifCond .ne 5, 3) := dGX12_560.2.1
theorem dX12_set_79 : decode cX12_set 79 = .ok (.iconst (-1), 1) := dGX12_560.2.2.1
theorem dX12_set_80 : decode cX12_set 80 = .ok (.ireturn, 1) := dGX12_560.2.2.2.1
theorem dX12_set_81 : decode cX12_set 81 = .ok (.iconst 0, 1) := dGX12_560.2.2.2.2.1
theorem dX12_set_82 : decode cX12_set 82 = .ok (.istore 5, 2) := dGX12_560.2.2.2.2.2
theorem dGX12_561 : decode cX12_set 84 = .ok (.iconst 0, 1) ∧ decode cX12_set 85 = .ok (.istore 6, 2) ∧ decode cX12_set 87 = .ok (.iconst 0, 1) ∧ decode cX12_set 88 = .ok (.istore 7, 2) ∧ decode cX12_set 90 = .ok (.iload 7, 2) ∧ decode cX12_set 92 = .ok (.aload_n 0, 1) := by decide +kernel
theorem dX12_set_84 : decode cX12_set 84 = .ok (.iconst 0, 1) := dGX12_561.1
theorem dX12_set_85 : decode cX12_set 85 = .ok (.istore 6, 2) := dGX12_561.2.1
theorem dX12_set_87 : decode cX12_set 87 = .ok (.iconst 0, 1) := dGX12_561.2.2.1
theorem dX12_set_88 : decode cX12_set 88 = .ok (.istore 7, 2) := dGX12_561.2.2.2.1
theorem dX12_set_90 : decode cX12_set 90 = .ok (.iload 7, 2) := dGX12_561.2.2.2.2.1
theorem dX12_set_92 : decode cX12_set 92 = .ok (.aload_n 0, 1) := dGX12_561.2.2.2.2.2
theorem dGX12_562 : decode cX12_set 93 = .ok (.getfield 179, 3) ∧ decode cX12_set 96 = .ok (.if_icmp .ge 49, 3) ∧ decode cX12_set 99 = .ok (.iload_n 1, 1) ∧ decode cX12_set 100 = .ok (.iload 7, 2) ∧ decode cX12_set 102 = .ok (.invokestatic 362, 3) ∧ decode cX12_set 105 = .ok (.ifCond .ne 6, 3) := by decide +kernel
theorem dX12_set_93 : decode cX12_set 93 = .ok (.getfield 179, 3) := dGX12_562.1
theorem dX12_set_96 : decode cX12_set 96 = .ok (.if_icmp .ge 49, 3) := dGX12_562.2.1
theorem dX12_set_99 : decode cX12_set 99 = .ok (.iload_n 1, 1) := dGX12_562.2.2.1
theorem dX12_set_100 : decode cX12_set 100 = .ok (.iload 7, 2) := dGX12_562.2.2.2.1
theorem dX12_set_102 : decode cX12_set 102 = .ok (.invokestatic 362, 3) := dGX12_562.2.2.2.2.1
theorem dX12_set_105 : decode cX12_set 105 = .ok (.ifCond .ne 6, 3) := dGX12_562.2.2.2.2.2
theorem dGX12_563 : decode cX12_set 108 = .ok (.goto 31, 3) ∧ decode cX12_set 111 = .ok (.iload 7, 2) ∧ decode cX12_set 113 = .ok (.iload 4, 2) ∧ decode cX12_set 115 = .ok (.if_icmp .ne 8, 3) ∧ decode cX12_set 118 = .ok (.iload 5, 2) ∧ decode cX12_set 120 = .ok (.goto 5, 3) := by decide +kernel
theorem dX12_set_108 : decode cX12_set 108 = .ok (.goto 31, 3) := dGX12_563.1
theorem dX12_set_111 : decode cX12_set 111 = .ok (.iload 7, 2) := dGX12_563.2.1
theorem dX12_set_113 : decode cX12_set 113 = .ok (.iload 4, 2) := dGX12_563.2.2.1
theorem dX12_set_115 : decode cX12_set 115 = .ok (.if_icmp .ne 8, 3) := dGX12_563.2.2.2.1
theorem dX12_set_118 : decode cX12_set 118 = .ok (.iload 5, 2) := dGX12_563.2.2.2.2.1
theorem dX12_set_120 : decode cX12_set 120 = .ok (.goto 5, 3) := dGX12_563.2.2.2.2.2
theorem dGX12_564 : decode cX12_set 123 = .ok (.iload 6, 2) ∧ decode cX12_set 125 = .ok (.istore 6, 2) ∧ decode cX12_set 127 = .ok (.aload_n 0, 1) ∧ decode cX12_set 128 = .ok (.getfield 157, 3) ∧ decode cX12_set 131 = .ok (.iload 5, 2) ∧ decode cX12_set 133 = .ok (.iload 7, 2) := by decide +kernel
theorem dX12_set_123 : decode cX12_set 123 = .ok (.iload 6, 2) := dGX12_564.1
theorem dX12_set_125 : decode cX12_set 125 = .ok (.istore 6, 2) := dGX12_564.2.1
theorem dX12_set_127 : decode cX12_set 127 = .ok (.aload_n 0, 1) := dGX12_564.2.2.1
theorem dX12_set_128 : decode cX12_set 128 = .ok (.getfield 157, 3) := dGX12_564.2.2.2.1
theorem dX12_set_131 : decode cX12_set 131 = .ok (.iload 5, 2) := dGX12_564.2.2.2.2.1
theorem dX12_set_133 : decode cX12_set 133 = .ok (.iload 7, 2) := dGX12_564.2.2.2.2.2
theorem dGX12_565 : decode cX12_set 135 = .ok (.iastore, 1) ∧ decode cX12_set 136 = .ok (.iinc 5 1, 3) ∧ decode cX12_set 139 = .ok (.iinc 7 1, 3) ∧ decode cX12_set 142 = .ok (.goto (-52), 3) ∧ decode cX12_set 145 = .ok (.aload_n 0, 1) ∧ decode cX12_set 146 = .ok (.iload 5, 2) := by decide +kernel
theorem dX12_set_135 : decode cX12_set 135 = .ok (.iastore, 1) := dGX12_565.1
theorem dX12_set_136 : decode cX12_set 136 = .ok (.iinc 5 1, 3) := dGX12_565.2.1
theorem dX12_set_139 : decode cX12_set 139 = .ok (.iinc 7 1, 3) := dGX12_565.2.2.1
theorem dX12_set_142 : decode cX12_set 142 = .ok (.goto (-52), 3) := dGX12_565.2.2.2.1
theorem dX12_set_145 : decode cX12_set 145 = .ok (.aload_n 0, 1) := dGX12_565.2.2.2.2.1
theorem dX12_set_146 : decode cX12_set 146 = .ok (.iload 5, 2) := dGX12_565.2.2.2.2.2
theorem dGX12_566 : decode cX12_set 148 = .ok (.iload_n 2, 1) ∧ decode cX12_set 149 = .ok (.iload_n 3, 1) ∧ decode cX12_set 150 = .ok (.invokevirtual 457, 3) ∧ decode cX12_set 153 = .ok (.aload_n 0, 1) ∧ decode cX12_set 154 = .ok (.getfield 435, 3) ∧ decode cX12_set 157 = .ok (.iconst (-1), 1) := by decide +kernel
theorem dX12_set_148 : decode cX12_set 148 = .ok (.iload_n 2, 1) := dGX12_566.1
theorem dX12_set_149 : decode cX12_set 149 = .ok (.iload_n 3, 1) := dGX12_566.2.1
theorem dX12_set_150 : decode cX12_set 150 = .ok (.invokevirtual 457, 3) := dGX12_566.2.2.1
theorem dX12_set_153 : decode cX12_set 153 = .ok (.aload_n 0, 1) := dGX12_566.2.2.2.1
theorem dX12_set_154 : decode cX12_set 154 = .ok (.getfield 435, 3) := dGX12_566.2.2.2.2.1
theorem dX12_set_157 : decode cX12_set 157 = .ok (.iconst (-1), 1) := dGX12_566.2.2.2.2.2
theorem dGX12_567 : decode cX12_set 158 = .ok (.if_icmp .ne 6, 3) ∧ decode cX12_set 161 = .ok (.bipush (-2), 2) ∧ decode cX12_set 163 = .ok (.ireturn, 1) ∧ decode cX12_set 164 = .ok (.iconst 0, 1) ∧ decode cX12_set 165 = .ok (.istore 7, 2) ∧ decode cX12_set 167 = .ok (.iload 7, 2) := by decide +kernel
theorem dX12_set_158 : decode cX12_set 158 = .ok (.if_icmp .ne 6, 3) := dGX12_567.1
theorem dX12_set_161 : decode cX12_set 161 = .ok (.bipush (-2), 2) := dGX12_567.2.1
theorem dX12_set_163 : decode cX12_set 163 = .ok (.ireturn, 1) := dGX12_567.2.2.1
theorem dX12_set_164 : decode cX12_set 164 = .ok (.iconst 0, 1) := dGX12_567.2.2.2.1
theorem dX12_set_165 : decode cX12_set 165 = .ok (.istore 7, 2) := dGX12_567.2.2.2.2.1
theorem dX12_set_167 : decode cX12_set 167 = .ok (.iload 7, 2) := dGX12_567.2.2.2.2.2
theorem dGX12_568 : decode cX12_set 169 = .ok (.iload 5, 2) ∧ decode cX12_set 171 = .ok (.if_icmp .ge 40, 3) ∧ decode cX12_set 174 = .ok (.iload 4, 2) ∧ decode cX12_set 176 = .ok (.bipush 12, 2) ∧ decode cX12_set 178 = .ok (.if_icmp .ne 33, 3) ∧ decode cX12_set 181 = .ok (.aload_n 0, 1) := by decide +kernel
theorem dX12_set_169 : decode cX12_set 169 = .ok (.iload 5, 2) := dGX12_568.1
theorem dX12_set_171 : decode cX12_set 171 = .ok (.if_icmp .ge 40, 3) := dGX12_568.2.1
theorem dX12_set_174 : decode cX12_set 174 = .ok (.iload 4, 2) := dGX12_568.2.2.1
theorem dX12_set_176 : decode cX12_set 176 = .ok (.bipush 12, 2) := dGX12_568.2.2.2.1
theorem dX12_set_178 : decode cX12_set 178 = .ok (.if_icmp .ne 33, 3) := dGX12_568.2.2.2.2.1
theorem dX12_set_181 : decode cX12_set 181 = .ok (.aload_n 0, 1) := dGX12_568.2.2.2.2.2
theorem dGX12_569 : decode cX12_set 182 = .ok (.getfield 27, 3) ∧ decode cX12_set 185 = .ok (.aload_n 0, 1) ∧ decode cX12_set 186 = .ok (.getfield 157, 3) ∧ decode cX12_set 189 = .ok (.iload 7, 2) ∧ decode cX12_set 191 = .ok (.iaload, 1) ∧ decode cX12_set 192 = .ok (.aload_n 0, 1) := by decide +kernel
theorem dX12_set_182 : decode cX12_set 182 = .ok (.getfield 27, 3) := dGX12_569.1
theorem dX12_set_185 : decode cX12_set 185 = .ok (.aload_n 0, 1) := dGX12_569.2.1
theorem dX12_set_186 : decode cX12_set 186 = .ok (.getfield 157, 3) := dGX12_569.2.2.1
theorem dX12_set_189 : decode cX12_set 189 = .ok (.iload 7, 2) := dGX12_569.2.2.2.1
theorem dX12_set_191 : decode cX12_set 191 = .ok (.iaload, 1) := dGX12_569.2.2.2.2.1
theorem dX12_set_192 : decode cX12_set 192 = .ok (.aload_n 0, 1) := dGX12_569.2.2.2.2.2
theorem dGX12_570 : decode cX12_set 193 = .ok (.aload_n 0, 1) ∧ decode cX12_set 194 = .ok (.getfield 435, 3) ∧ decode cX12_set 197 = .ok (.iload 5, 2) ∧ decode cX12_set 199 = .ok (.iload 7, 2) ∧ decode cX12_set 201 = .ok (.invokevirtual 444, 3) ∧ decode cX12_set 204 = .ok (.iastore, 1) := by decide +kernel
theorem dX12_set_193 : decode cX12_set 193 = .ok (.aload_n 0, 1) := dGX12_570.1
theorem dX12_set_194 : decode cX12_set 194 = .ok (.getfield 435, 3) := dGX12_570.2.1
theorem dX12_set_197 : decode cX12_set 197 = .ok (.iload 5, 2) := dGX12_570.2.2.1
theorem dX12_set_199 : decode cX12_set 199 = .ok (.iload 7, 2) := dGX12_570.2.2.2.1
theorem dX12_set_201 : decode cX12_set 201 = .ok (.invokevirtual 444, 3) := dGX12_570.2.2.2.2.1
theorem dX12_set_204 : decode cX12_set 204 = .ok (.iastore, 1) := dGX12_570.2.2.2.2.2
theorem dGX12_571 : decode cX12_set 205 = .ok (.iinc 7 1, 3) ∧ decode cX12_set 208 = .ok (.goto (-41), 3) ∧ decode cX12_set 211 = .ok (.iload 4, 2) ∧ decode cX12_set 213 = .ok (.bipush 10, 2) ∧ decode cX12_set 215 = .ok (.if_icmp .eq 10, 3) ∧ decode cX12_set 218 = .ok (.iload 4, 2) := by decide +kernel
theorem dX12_set_205 : decode cX12_set 205 = .ok (.iinc 7 1, 3) := dGX12_571.1
theorem dX12_set_208 : decode cX12_set 208 = .ok (.goto (-41), 3) := dGX12_571.2.1
theorem dX12_set_211 : decode cX12_set 211 = .ok (.iload 4, 2) := dGX12_571.2.2.1
theorem dX12_set_213 : decode cX12_set 213 = .ok (.bipush 10, 2) := dGX12_571.2.2.2.1
theorem dX12_set_215 : decode cX12_set 215 = .ok (.if_icmp .eq 10, 3) := dGX12_571.2.2.2.2.1
theorem dX12_set_218 : decode cX12_set 218 = .ok (.iload 4, 2) := dGX12_571.2.2.2.2.2
theorem dGX12_572 : decode cX12_set 220 = .ok (.bipush 12, 2) ∧ decode cX12_set 222 = .ok (.if_icmp .ne 10, 3) ∧ decode cX12_set 225 = .ok (.aload_n 0, 1) ∧ decode cX12_set 226 = .ok (.getfield 438, 3) ∧ decode cX12_set 229 = .ok (.goto 29, 3) ∧ decode cX12_set 232 = .ok (.iload 4, 2) := by decide +kernel
theorem dX12_set_220 : decode cX12_set 220 = .ok (.bipush 12, 2) := dGX12_572.1
theorem dX12_set_222 : decode cX12_set 222 = .ok (.if_icmp .ne 10, 3) := dGX12_572.2.1
theorem dX12_set_225 : decode cX12_set 225 = .ok (.aload_n 0, 1) := dGX12_572.2.2.1
theorem dX12_set_226 : decode cX12_set 226 = .ok (.getfield 438, 3) := dGX12_572.2.2.2.1
theorem dX12_set_229 : decode cX12_set 229 = .ok (.goto 29, 3) := dGX12_572.2.2.2.2.1
theorem dX12_set_232 : decode cX12_set 232 = .ok (.iload 4, 2) := dGX12_572.2.2.2.2.2
theorem dGX12_573 : decode cX12_set 234 = .ok (.bipush 11, 2) ∧ decode cX12_set 236 = .ok (.if_icmp .ne 10, 3) ∧ decode cX12_set 239 = .ok (.aload_n 0, 1) ∧ decode cX12_set 240 = .ok (.getfield 441, 3) ∧ decode cX12_set 243 = .ok (.goto 15, 3) ∧ decode cX12_set 246 = .ok (.aload_n 0, 1) := by decide +kernel
theorem dX12_set_234 : decode cX12_set 234 = .ok (.bipush 11, 2) := dGX12_573.1
theorem dX12_set_236 : decode cX12_set 236 = .ok (.if_icmp .ne 10, 3) := dGX12_573.2.1
theorem dX12_set_239 : decode cX12_set 239 = .ok (.aload_n 0, 1) := dGX12_573.2.2.1
theorem dX12_set_240 : decode cX12_set 240 = .ok (.getfield 441, 3) := dGX12_573.2.2.2.1
theorem dX12_set_243 : decode cX12_set 243 = .ok (.goto 15, 3) := dGX12_573.2.2.2.2.1
theorem dX12_set_246 : decode cX12_set 246 = .ok (.aload_n 0, 1) := dGX12_573.2.2.2.2.2
theorem dGX12_574 : decode cX12_set 247 = .ok (.aload_n 0, 1) ∧ decode cX12_set 248 = .ok (.getfield 435, 3) ∧ decode cX12_set 251 = .ok (.iload 5, 2) ∧ decode cX12_set 253 = .ok (.iload 6, 2) ∧ decode cX12_set 255 = .ok (.invokevirtual 444, 3) ∧ decode cX12_set 258 = .ok (.ireturn, 1) := by decide +kernel
theorem dX12_set_247 : decode cX12_set 247 = .ok (.aload_n 0, 1) := dGX12_574.1
theorem dX12_set_248 : decode cX12_set 248 = .ok (.getfield 435, 3) := dGX12_574.2.1
theorem dX12_set_251 : decode cX12_set 251 = .ok (.iload 5, 2) := dGX12_574.2.2.1
theorem dX12_set_253 : decode cX12_set 253 = .ok (.iload 6, 2) := dGX12_574.2.2.2.1
theorem dX12_set_255 : decode cX12_set 255 = .ok (.invokevirtual 444, 3) := dGX12_574.2.2.2.2.1
theorem dX12_set_258 : decode cX12_set 258 = .ok (.ireturn, 1) := dGX12_574.2.2.2.2.2
theorem dGX12_575 : decode cX12_free 0 = .ok (.iload_n 1, 1) ∧ decode cX12_free 1 = .ok (.i2l, 1) ∧ decode cX12_free 2 = .ok (.lconst 1, 1) ∧ decode cX12_free 3 = .ok (.ldc2_w 461, 3) ∧ decode cX12_free 6 = .ok (.invokestatic 175, 3) ∧ decode cX12_free 9 = .ok (.ifCond .eq 27, 3) := by decide +kernel
theorem dX12_free_0 : decode cX12_free 0 = .ok (.iload_n 1, 1) := dGX12_575.1
theorem dX12_free_1 : decode cX12_free 1 = .ok (.i2l, 1) := dGX12_575.2.1
theorem dX12_free_2 : decode cX12_free 2 = .ok (.lconst 1, 1) := dGX12_575.2.2.1
theorem dX12_free_3 : decode cX12_free 3 = .ok (.ldc2_w 461, 3) := dGX12_575.2.2.2.1
theorem dX12_free_6 : decode cX12_free 6 = .ok (.invokestatic 175, 3) := dGX12_575.2.2.2.2.1
theorem dX12_free_9 : decode cX12_free 9 = .ok (.ifCond .eq 27, 3) := dGX12_575.2.2.2.2.2
theorem dGX12_576 : decode cX12_free 12 = .ok (.iload_n 2, 1) ∧ decode cX12_free 13 = .ok (.i2l, 1) ∧ decode cX12_free 14 = .ok (.lconst 0, 1) ∧ decode cX12_free 15 = .ok (.ldc2_w 461, 3) ∧ decode cX12_free 18 = .ok (.invokestatic 175, 3) ∧ decode cX12_free 21 = .ok (.ifCond .eq 15, 3) := by decide +kernel
theorem dX12_free_12 : decode cX12_free 12 = .ok (.iload_n 2, 1) := dGX12_576.1
theorem dX12_free_13 : decode cX12_free 13 = .ok (.i2l, 1) := dGX12_576.2.1
theorem dX12_free_14 : decode cX12_free 14 = .ok (.lconst 0, 1) := dGX12_576.2.2.1
theorem dX12_free_15 : decode cX12_free 15 = .ok (.ldc2_w 461, 3) := dGX12_576.2.2.2.1
theorem dX12_free_18 : decode cX12_free 18 = .ok (.invokestatic 175, 3) := dGX12_576.2.2.2.2.1
theorem dX12_free_21 : decode cX12_free 21 = .ok (.ifCond .eq 15, 3) := dGX12_576.2.2.2.2.2
theorem dGX12_577 : decode cX12_free 24 = .ok (.iload_n 3, 1) ∧ decode cX12_free 25 = .ok (.i2l, 1) ∧ decode cX12_free 26 = .ok (.lconst 0, 1) ∧ decode cX12_free 27 = .ok (.ldc2_w 463, 3) ∧ decode cX12_free 30 = .ok (.invokestatic 175, 3) ∧ decode cX12_free 33 = .ok (.ifCond .ne 5, 3) := by decide +kernel
theorem dX12_free_24 : decode cX12_free 24 = .ok (.iload_n 3, 1) := dGX12_577.1
theorem dX12_free_25 : decode cX12_free 25 = .ok (.i2l, 1) := dGX12_577.2.1
theorem dX12_free_26 : decode cX12_free 26 = .ok (.lconst 0, 1) := dGX12_577.2.2.1
theorem dX12_free_27 : decode cX12_free 27 = .ok (.ldc2_w 463, 3) := dGX12_577.2.2.2.1
theorem dX12_free_30 : decode cX12_free 30 = .ok (.invokestatic 175, 3) := dGX12_577.2.2.2.2.1
theorem dX12_free_33 : decode cX12_free 33 = .ok (.ifCond .ne 5, 3) := dGX12_577.2.2.2.2.2
theorem dGX12_578 : decode cX12_free 36 = .ok (.iconst (-1), 1) ∧ decode cX12_free 37 = .ok (.ireturn, 1) ∧ decode cX12_free 38 = .ok (.iconst 0, 1) ∧ decode cX12_free 39 = .ok (.istore 4, 2) ∧ decode cX12_free 41 = .ok (.iconst 0, 1) ∧ decode cX12_free 42 = .ok (.istore 5, 2) := by decide +kernel
theorem dX12_free_36 : decode cX12_free 36 = .ok (.iconst (-1), 1) := dGX12_578.1
theorem dX12_free_37 : decode cX12_free 37 = .ok (.ireturn, 1) := dGX12_578.2.1
theorem dX12_free_38 : decode cX12_free 38 = .ok (.iconst 0, 1) := dGX12_578.2.2.1
theorem dX12_free_39 : decode cX12_free 39 = .ok (.istore 4, 2) := dGX12_578.2.2.2.1
theorem dX12_free_41 : decode cX12_free 41 = .ok (.iconst 0, 1) := dGX12_578.2.2.2.2.1
theorem dX12_free_42 : decode cX12_free 42 = .ok (.istore 5, 2) := dGX12_578.2.2.2.2.2
theorem dGX12_579 : decode cX12_free 44 = .ok (.iload 5, 2) ∧ decode cX12_free 46 = .ok (.iload_n 1, 1) ∧ decode cX12_free 47 = .ok (.if_icmp .ge 49, 3) ∧ decode cX12_free 50 = .ok (.iload 4, 2) ∧ decode cX12_free 52 = .ok (.aload_n 0, 1) ∧ decode cX12_free 53 = .ok (.getfield 334, 3) := by decide +kernel
theorem dX12_free_44 : decode cX12_free 44 = .ok (.iload 5, 2) := dGX12_579.1
theorem dX12_free_46 : decode cX12_free 46 = .ok (.iload_n 1, 1) := dGX12_579.2.1
theorem dX12_free_47 : decode cX12_free 47 = .ok (.if_icmp .ge 49, 3) := dGX12_579.2.2.1
theorem dX12_free_50 : decode cX12_free 50 = .ok (.iload 4, 2) := dGX12_579.2.2.2.1
theorem dX12_free_52 : decode cX12_free 52 = .ok (.aload_n 0, 1) := dGX12_579.2.2.2.2.1
theorem dX12_free_53 : decode cX12_free 53 = .ok (.getfield 334, 3) := dGX12_579.2.2.2.2.2
theorem dGX12_580 : decode cX12_free 56 = .ok (.iload 5, 2) ∧ decode cX12_free 58 = .ok (.iadd, 1) ∧ decode cX12_free 59 = .ok (.bipush 100, 2) ∧ decode cX12_free 61 = .ok (.if_icmp .ge 25, 3) ∧ decode cX12_free 64 = .ok (.aload_n 0, 1) ∧ decode cX12_free 65 = .ok (.getfield 61, 3) := by decide +kernel
theorem dX12_free_56 : decode cX12_free 56 = .ok (.iload 5, 2) := dGX12_580.1
theorem dX12_free_58 : decode cX12_free 58 = .ok (.iadd, 1) := dGX12_580.2.1
theorem dX12_free_59 : decode cX12_free 59 = .ok (.bipush 100, 2) := dGX12_580.2.2.1
theorem dX12_free_61 : decode cX12_free 61 = .ok (.if_icmp .ge 25, 3) := dGX12_580.2.2.2.1
theorem dX12_free_64 : decode cX12_free 64 = .ok (.aload_n 0, 1) := dGX12_580.2.2.2.2.1
theorem dX12_free_65 : decode cX12_free 65 = .ok (.getfield 61, 3) := dGX12_580.2.2.2.2.2
theorem dGX12_581 : decode cX12_free 68 = .ok (.aload_n 0, 1) ∧ decode cX12_free 69 = .ok (.getfield 334, 3) ∧ decode cX12_free 72 = .ok (.iload 5, 2) ∧ decode cX12_free 74 = .ok (.iadd, 1) ∧ decode cX12_free 75 = .ok (.baload, 1) ∧ decode cX12_free 76 = .ok (.ifCond .ne 10, 3) := by decide +kernel
theorem dX12_free_68 : decode cX12_free 68 = .ok (.aload_n 0, 1) := dGX12_581.1
theorem dX12_free_69 : decode cX12_free 69 = .ok (.getfield 334, 3) := dGX12_581.2.1
theorem dX12_free_72 : decode cX12_free 72 = .ok (.iload 5, 2) := dGX12_581.2.2.1
theorem dX12_free_74 : decode cX12_free 74 = .ok (.iadd, 1) := dGX12_581.2.2.2.1
theorem dX12_free_75 : decode cX12_free 75 = .ok (.baload, 1) := dGX12_581.2.2.2.2.1
theorem dX12_free_76 : decode cX12_free 76 = .ok (.ifCond .ne 10, 3) := dGX12_581.2.2.2.2.2
theorem dGX12_582 : decode cX12_free 79 = .ok (.iconst 1, 1) ∧ decode cX12_free 80 = .ok (.iload 5, 2) ∧ decode cX12_free 82 = .ok (.ishl, 1) ∧ decode cX12_free 83 = .ok (.goto 4, 3) ∧ decode cX12_free 86 = .ok (.iconst 0, 1) ∧ decode cX12_free 87 = .ok (.ior, 1) := by decide +kernel
theorem dX12_free_79 : decode cX12_free 79 = .ok (.iconst 1, 1) := dGX12_582.1
theorem dX12_free_80 : decode cX12_free 80 = .ok (.iload 5, 2) := dGX12_582.2.1
theorem dX12_free_82 : decode cX12_free 82 = .ok (.ishl, 1) := dGX12_582.2.2.1
theorem dX12_free_83 : decode cX12_free 83 = .ok (.goto 4, 3) := dGX12_582.2.2.2.1
theorem dX12_free_86 : decode cX12_free 86 = .ok (.iconst 0, 1) := dGX12_582.2.2.2.2.1
theorem dX12_free_87 : decode cX12_free 87 = .ok (.ior, 1) := dGX12_582.2.2.2.2.2
theorem dGX12_583 : decode cX12_free 88 = .ok (.istore 4, 2) ∧ decode cX12_free 90 = .ok (.iinc 5 1, 3) ∧ decode cX12_free 93 = .ok (.goto (-49), 3) ∧ decode cX12_free 96 = .ok (.iload 4, 2) ∧ decode cX12_free 98 = .ok (.invokestatic 450, 3) ∧ decode cX12_free 101 = .ok (.iload_n 2, 1) := by decide +kernel
theorem dX12_free_88 : decode cX12_free 88 = .ok (.istore 4, 2) := dGX12_583.1
theorem dX12_free_90 : decode cX12_free 90 = .ok (.iinc 5 1, 3) := dGX12_583.2.1
theorem dX12_free_93 : decode cX12_free 93 = .ok (.goto (-49), 3) := dGX12_583.2.2.1
theorem dX12_free_96 : decode cX12_free 96 = .ok (.iload 4, 2) := dGX12_583.2.2.2.1
theorem dX12_free_98 : decode cX12_free 98 = .ok (.invokestatic 450, 3) := dGX12_583.2.2.2.2.1
theorem dX12_free_101 : decode cX12_free 101 = .ok (.iload_n 2, 1) := dGX12_583.2.2.2.2.2
theorem dGX12_584 : decode cX12_free 102 = .ok (.if_icmp .ge 6, 3) ∧ decode cX12_free 105 = .ok (.bipush (-2), 2) ∧ decode cX12_free 107 = .ok (.ireturn, 1) ∧ decode cX12_free 108 = .ok (.iconst (-1), 1) ∧ decode cX12_free 109 = .ok (.istore 5, 2) ∧ decode cX12_free 111 = .ok (.iconst 0, 1) := by decide +kernel
theorem dX12_free_102 : decode cX12_free 102 = .ok (.if_icmp .ge 6, 3) := dGX12_584.1
theorem dX12_free_105 : decode cX12_free 105 = .ok (.bipush (-2), 2) := dGX12_584.2.1
theorem dX12_free_107 : decode cX12_free 107 = .ok (.ireturn, 1) := dGX12_584.2.2.1
theorem dX12_free_108 : decode cX12_free 108 = .ok (.iconst (-1), 1) := dGX12_584.2.2.2.1
theorem dX12_free_109 : decode cX12_free 109 = .ok (.istore 5, 2) := dGX12_584.2.2.2.2.1
theorem dX12_free_111 : decode cX12_free 111 = .ok (.iconst 0, 1) := dGX12_584.2.2.2.2.2
theorem dGX12_585 : decode cX12_free 112 = .ok (.istore 6, 2) ∧ decode cX12_free 114 = .ok (.iconst 0, 1) ∧ decode cX12_free 115 = .ok (.istore 7, 2) ∧ decode cX12_free 117 = .ok (.aload_n 0, 1) ∧ decode cX12_free 118 = .ok (.aload_n 0, 1) ∧ decode cX12_free 119 = .ok (.getfield 334, 3) := by decide +kernel
theorem dX12_free_112 : decode cX12_free 112 = .ok (.istore 6, 2) := dGX12_585.1
theorem dX12_free_114 : decode cX12_free 114 = .ok (.iconst 0, 1) := dGX12_585.2.1
theorem dX12_free_115 : decode cX12_free 115 = .ok (.istore 7, 2) := dGX12_585.2.2.1
theorem dX12_free_117 : decode cX12_free 117 = .ok (.aload_n 0, 1) := dGX12_585.2.2.2.1
theorem dX12_free_118 : decode cX12_free 118 = .ok (.aload_n 0, 1) := dGX12_585.2.2.2.2.1
theorem dX12_free_119 : decode cX12_free 119 = .ok (.getfield 334, 3) := dGX12_585.2.2.2.2.2
theorem dGX12_586 : decode cX12_free 122 = .ok (.putfield 353, 3) ∧ decode cX12_free 125 = .ok (.aload_n 0, 1) ∧ decode cX12_free 126 = .ok (.iload_n 1, 1) ∧ decode cX12_free 127 = .ok (.putfield 356, 3) ∧ decode cX12_free 130 = .ok (.iconst 0, 1) ∧ decode cX12_free 131 = .ok (.istore 8, 2) := by decide +kernel
theorem dX12_free_122 : decode cX12_free 122 = .ok (.putfield 353, 3) := dGX12_586.1
theorem dX12_free_125 : decode cX12_free 125 = .ok (.aload_n 0, 1) := dGX12_586.2.1
theorem dX12_free_126 : decode cX12_free 126 = .ok (.iload_n 1, 1) := dGX12_586.2.2.1
theorem dX12_free_127 : decode cX12_free 127 = .ok (.putfield 356, 3) := dGX12_586.2.2.2.1
theorem dX12_free_130 : decode cX12_free 130 = .ok (.iconst 0, 1) := dGX12_586.2.2.2.2.1
theorem dX12_free_131 : decode cX12_free 131 = .ok (.istore 8, 2) := dGX12_586.2.2.2.2.2
theorem dGX12_587 : decode cX12_free 133 = .ok (.iload 8, 2) ∧ decode cX12_free 135 = .ok (.iconst 1, 1) ∧ decode cX12_free 136 = .ok (.iload_n 1, 1) ∧ decode cX12_free 137 = .ok (.ishl, 1) ∧ decode cX12_free 138 = .ok (.if_icmp .ge 106, 3) ∧ decode cX12_free 141 = .ok (.iload 8, 2) := by decide +kernel
theorem dX12_free_133 : decode cX12_free 133 = .ok (.iload 8, 2) := dGX12_587.1
theorem dX12_free_135 : decode cX12_free 135 = .ok (.iconst 1, 1) := dGX12_587.2.1
theorem dX12_free_136 : decode cX12_free 136 = .ok (.iload_n 1, 1) := dGX12_587.2.2.1
theorem dX12_free_137 : decode cX12_free 137 = .ok (.ishl, 1) := dGX12_587.2.2.2.1
theorem dX12_free_138 : decode cX12_free 138 = .ok (.if_icmp .ge 106, 3) := dGX12_587.2.2.2.2.1
theorem dX12_free_141 : decode cX12_free 141 = .ok (.iload 8, 2) := dGX12_587.2.2.2.2.2
theorem dGX12_588 : decode cX12_free 143 = .ok (.iload 4, 2) ∧ decode cX12_free 145 = .ok (.iconst (-1), 1) ∧ decode cX12_free 146 = .ok (.ixor, 1) ∧ decode cX12_free 147 = .ok (.iand, 1) ∧ decode cX12_free 148 = .ok (.ifCond .ne 90, 3) ∧ decode cX12_free 151 = .ok (.iload 8, 2) := by decide +kernel
theorem dX12_free_143 : decode cX12_free 143 = .ok (.iload 4, 2) := dGX12_588.1
theorem dX12_free_145 : decode cX12_free 145 = .ok (.iconst (-1), 1) := dGX12_588.2.1
theorem dX12_free_146 : decode cX12_free 146 = .ok (.ixor, 1) := dGX12_588.2.2.1
theorem dX12_free_147 : decode cX12_free 147 = .ok (.iand, 1) := dGX12_588.2.2.2.1
theorem dX12_free_148 : decode cX12_free 148 = .ok (.ifCond .ne 90, 3) := dGX12_588.2.2.2.2.1
theorem dX12_free_151 : decode cX12_free 151 = .ok (.iload 8, 2) := dGX12_588.2.2.2.2.2
theorem dGX12_589 : decode cX12_free 153 = .ok (.invokestatic 450, 3) ∧ decode cX12_free 156 = .ok (.iload_n 2, 1) ∧ decode cX12_free 157 = .ok (.if_icmp .eq 6, 3) ∧ decode cX12_free 160 = .ok (.goto 78, 3) ∧ decode cX12_free 163 = .ok (.aload_n 0, 1) ∧ decode cX12_free 164 = .ok (.iload 8, 2) := by decide +kernel
theorem dX12_free_153 : decode cX12_free 153 = .ok (.invokestatic 450, 3) := dGX12_589.1
theorem dX12_free_156 : decode cX12_free 156 = .ok (.iload_n 2, 1) := dGX12_589.2.1
theorem dX12_free_157 : decode cX12_free 157 = .ok (.if_icmp .eq 6, 3) := dGX12_589.2.2.1
theorem dX12_free_160 : decode cX12_free 160 = .ok (.goto 78, 3) := dGX12_589.2.2.2.1
theorem dX12_free_163 : decode cX12_free 163 = .ok (.aload_n 0, 1) := dGX12_589.2.2.2.2.1
theorem dX12_free_164 : decode cX12_free 164 = .ok (.iload 8, 2) := dGX12_589.2.2.2.2.2
theorem dGX12_590 : decode cX12_free 166 = .ok (.putfield 359, 3) ∧ decode cX12_free 169 = .ok (.aload_n 0, 1) ∧ decode cX12_free 170 = .ok (.iconst 0, 1) ∧ decode cX12_free 171 = .ok (.invokevirtual 419, 3) ∧ decode cX12_free 174 = .ok (.aload_n 0, 1) ∧ decode cX12_free 175 = .ok (.iload_n 1, 1) := by decide +kernel
theorem dX12_free_166 : decode cX12_free 166 = .ok (.putfield 359, 3) := dGX12_590.1
theorem dX12_free_169 : decode cX12_free 169 = .ok (.aload_n 0, 1) := dGX12_590.2.1
theorem dX12_free_170 : decode cX12_free 170 = .ok (.iconst 0, 1) := dGX12_590.2.2.1
theorem dX12_free_171 : decode cX12_free 171 = .ok (.invokevirtual 419, 3) := dGX12_590.2.2.2.1
theorem dX12_free_174 : decode cX12_free 174 = .ok (.aload_n 0, 1) := dGX12_590.2.2.2.2.1
theorem dX12_free_175 : decode cX12_free 175 = .ok (.iload_n 1, 1) := dGX12_590.2.2.2.2.2
theorem dGX12_591 : decode cX12_free 176 = .ok (.invokevirtual 401, 3) ∧ decode cX12_free 179 = .ok (.aload_n 0, 1) ∧ decode cX12_free 180 = .ok (.invokevirtual 425, 3) ∧ decode cX12_free 183 = .ok (.istore 9, 2) ∧ decode cX12_free 185 = .ok (.aload_n 0, 1) ∧ decode cX12_free 186 = .ok (.invokevirtual 422, 3) := by decide +kernel
theorem dX12_free_176 : decode cX12_free 176 = .ok (.invokevirtual 401, 3) := dGX12_591.1
theorem dX12_free_179 : decode cX12_free 179 = .ok (.aload_n 0, 1) := dGX12_591.2.1
theorem dX12_free_180 : decode cX12_free 180 = .ok (.invokevirtual 425, 3) := dGX12_591.2.2.1
theorem dX12_free_183 : decode cX12_free 183 = .ok (.istore 9, 2) := dGX12_591.2.2.2.1
theorem dX12_free_185 : decode cX12_free 185 = .ok (.aload_n 0, 1) := dGX12_591.2.2.2.2.1
theorem dX12_free_186 : decode cX12_free 186 = .ok (.invokevirtual 422, 3) := dGX12_591.2.2.2.2.2
theorem dGX12_592 : decode cX12_free 189 = .ok (.istore 10, 2) ∧ decode cX12_free 191 = .ok (.aload_n 0, 1) ∧ decode cX12_free 192 = .ok (.iconst 0, 1) ∧ decode cX12_free 193 = .ok (.invokevirtual 428, 3) ∧ decode cX12_free 196 = .ok (.iload 5, 2) ∧ decode cX12_free 198 = .ok (.iconst (-1), 1) := by decide +kernel
theorem dX12_free_189 : decode cX12_free 189 = .ok (.istore 10, 2) := dGX12_592.1
theorem dX12_free_191 : decode cX12_free 191 = .ok (.aload_n 0, 1) := dGX12_592.2.1
theorem dX12_free_192 : decode cX12_free 192 = .ok (.iconst 0, 1) := dGX12_592.2.2.1
theorem dX12_free_193 : decode cX12_free 193 = .ok (.invokevirtual 428, 3) := dGX12_592.2.2.2.1
theorem dX12_free_196 : decode cX12_free 196 = .ok (.iload 5, 2) := dGX12_592.2.2.2.2.1
theorem dX12_free_198 : decode cX12_free 198 = .ok (.iconst (-1), 1) := dGX12_592.2.2.2.2.2
theorem dGX12_593 : decode cX12_free 199 = .ok (.if_icmp .eq 27, 3) ∧ decode cX12_free 202 = .ok (.iload 9, 2) ∧ decode cX12_free 204 = .ok (.iload 6, 2) ∧ decode cX12_free 206 = .ok (.if_icmp .gt 32, 3) ∧ decode cX12_free 209 = .ok (.iload 9, 2) ∧ decode cX12_free 211 = .ok (.iload 6, 2) := by decide +kernel
theorem dX12_free_199 : decode cX12_free 199 = .ok (.if_icmp .eq 27, 3) := dGX12_593.1
theorem dX12_free_202 : decode cX12_free 202 = .ok (.iload 9, 2) := dGX12_593.2.1
theorem dX12_free_204 : decode cX12_free 204 = .ok (.iload 6, 2) := dGX12_593.2.2.1
theorem dX12_free_206 : decode cX12_free 206 = .ok (.if_icmp .gt 32, 3) := dGX12_593.2.2.2.1
theorem dX12_free_209 : decode cX12_free 209 = .ok (.iload 9, 2) := dGX12_593.2.2.2.2.1
theorem dX12_free_211 : decode cX12_free 211 = .ok (.iload 6, 2) := dGX12_593.2.2.2.2.2
theorem dGX12_594 : decode cX12_free 213 = .ok (.if_icmp .ne 13, 3) ∧ decode cX12_free 216 = .ok (.iload 10, 2) ∧ decode cX12_free 218 = .ok (.iload 7, 2) ∧ decode cX12_free 220 = .ok (.if_icmp .gt 6, 3) ∧ decode cX12_free 223 = .ok (.goto 15, 3) ∧ decode cX12_free 226 = .ok (.iload 8, 2) := by decide +kernel
theorem dX12_free_213 : decode cX12_free 213 = .ok (.if_icmp .ne 13, 3) := dGX12_594.1
theorem dX12_free_216 : decode cX12_free 216 = .ok (.iload 10, 2) := dGX12_594.2.1
theorem dX12_free_218 : decode cX12_free 218 = .ok (.iload 7, 2) := dGX12_594.2.2.1
theorem dX12_free_220 : decode cX12_free 220 = .ok (.if_icmp .gt 6, 3) := dGX12_594.2.2.2.1
theorem dX12_free_223 : decode cX12_free 223 = .ok (.goto 15, 3) := dGX12_594.2.2.2.2.1
theorem dX12_free_226 : decode cX12_free 226 = .ok (.iload 8, 2) := dGX12_594.2.2.2.2.2
theorem dGX12_595 : decode cX12_free 228 = .ok (.istore 5, 2) ∧ decode cX12_free 230 = .ok (.iload 9, 2) ∧ decode cX12_free 232 = .ok (.istore 6, 2) ∧ decode cX12_free 234 = .ok (.iload 10, 2) ∧ decode cX12_free 236 = .ok (.istore 7, 2) ∧ decode cX12_free 238 = .ok (.iinc 8 1, 3) := by decide +kernel
theorem dX12_free_228 : decode cX12_free 228 = .ok (.istore 5, 2) := dGX12_595.1
theorem dX12_free_230 : decode cX12_free 230 = .ok (.iload 9, 2) := dGX12_595.2.1
theorem dX12_free_232 : decode cX12_free 232 = .ok (.istore 6, 2) := dGX12_595.2.2.1
theorem dX12_free_234 : decode cX12_free 234 = .ok (.iload 10, 2) := dGX12_595.2.2.2.1
theorem dX12_free_236 : decode cX12_free 236 = .ok (.istore 7, 2) := dGX12_595.2.2.2.2.1
theorem dX12_free_238 : decode cX12_free 238 = .ok (.iinc 8 1, 3) := dGX12_595.2.2.2.2.2
theorem dGX12_596 : decode cX12_free 241 = .ok (.goto (-108), 3) ∧ decode cX12_free 244 = .ok (.aload_n 0, 1) ∧ decode cX12_free 245 = .ok (.iconst 0, 1) ∧ decode cX12_free 246 = .ok (.putfield 356, 3) ∧ decode cX12_free 249 = .ok (.iload_n 3, 1) ∧ decode cX12_free 250 = .ok (.ifCond .ne 8, 3) := by decide +kernel
theorem dX12_free_241 : decode cX12_free 241 = .ok (.goto (-108), 3) := dGX12_596.1
theorem dX12_free_244 : decode cX12_free 244 = .ok (.aload_n 0, 1) := dGX12_596.2.1
theorem dX12_free_245 : decode cX12_free 245 = .ok (.iconst 0, 1) := dGX12_596.2.2.1
theorem dX12_free_246 : decode cX12_free 246 = .ok (.putfield 356, 3) := dGX12_596.2.2.2.1
theorem dX12_free_249 : decode cX12_free 249 = .ok (.iload_n 3, 1) := dGX12_596.2.2.2.2.1
theorem dX12_free_250 : decode cX12_free 250 = .ok (.ifCond .ne 8, 3) := dGX12_596.2.2.2.2.2
theorem dGX12_597 : decode cX12_free 253 = .ok (.iload 5, 2) ∧ decode cX12_free 255 = .ok (.goto 15, 3) ∧ decode cX12_free 258 = .ok (.iload_n 3, 1) ∧ decode cX12_free 259 = .ok (.iconst 1, 1) ∧ decode cX12_free 260 = .ok (.if_icmp .ne 8, 3) ∧ decode cX12_free 263 = .ok (.iload 6, 2) := by decide +kernel
theorem dX12_free_253 : decode cX12_free 253 = .ok (.iload 5, 2) := dGX12_597.1
theorem dX12_free_255 : decode cX12_free 255 = .ok (.goto 15, 3) := dGX12_597.2.1
theorem dX12_free_258 : decode cX12_free 258 = .ok (.iload_n 3, 1) := dGX12_597.2.2.1
theorem dX12_free_259 : decode cX12_free 259 = .ok (.iconst 1, 1) := dGX12_597.2.2.2.1
theorem dX12_free_260 : decode cX12_free 260 = .ok (.if_icmp .ne 8, 3) := dGX12_597.2.2.2.2.1
theorem dX12_free_263 : decode cX12_free 263 = .ok (.iload 6, 2) := dGX12_597.2.2.2.2.2
theorem dGX12_598 : decode cX12_free 265 = .ok (.goto 5, 3) ∧ decode cX12_free 268 = .ok (.iload 7, 2) ∧ decode cX12_free 270 = .ok (.ireturn, 1) ∧ decode cX12_hurtIn 0 = .ok (.aload_n 0, 1) ∧ decode cX12_hurtIn 1 = .ok (.iload_n 1, 1) ∧ decode cX12_hurtIn 2 = .ok (.invokevirtual 401, 3) := by decide +kernel
theorem dX12_free_265 : decode cX12_free 265 = .ok (.goto 5, 3) := dGX12_598.1
theorem dX12_free_268 : decode cX12_free 268 = .ok (.iload 7, 2) := dGX12_598.2.1
theorem dX12_free_270 : decode cX12_free 270 = .ok (.ireturn, 1) := dGX12_598.2.2.1
theorem dX12_hurtIn_0 : decode cX12_hurtIn 0 = .ok (.aload_n 0, 1) := dGX12_598.2.2.2.1
theorem dX12_hurtIn_1 : decode cX12_hurtIn 1 = .ok (.iload_n 1, 1) := dGX12_598.2.2.2.2.1
theorem dX12_hurtIn_2 : decode cX12_hurtIn 2 = .ok (.invokevirtual 401, 3) := dGX12_598.2.2.2.2.2
theorem dGX12_599 : decode cX12_hurtIn 5 = .ok (.aload_n 0, 1) ∧ decode cX12_hurtIn 6 = .ok (.invokevirtual 425, 3) ∧ decode cX12_hurtIn 9 = .ok (.istore_n 2, 1) ∧ decode cX12_hurtIn 10 = .ok (.aload_n 0, 1) ∧ decode cX12_hurtIn 11 = .ok (.iconst 0, 1) ∧ decode cX12_hurtIn 12 = .ok (.invokevirtual 428, 3) := by decide +kernel
theorem dX12_hurtIn_5 : decode cX12_hurtIn 5 = .ok (.aload_n 0, 1) := dGX12_599.1
theorem dX12_hurtIn_6 : decode cX12_hurtIn 6 = .ok (.invokevirtual 425, 3) := dGX12_599.2.1
theorem dX12_hurtIn_9 : decode cX12_hurtIn 9 = .ok (.istore_n 2, 1) := dGX12_599.2.2.1
theorem dX12_hurtIn_10 : decode cX12_hurtIn 10 = .ok (.aload_n 0, 1) := dGX12_599.2.2.2.1
theorem dX12_hurtIn_11 : decode cX12_hurtIn 11 = .ok (.iconst 0, 1) := dGX12_599.2.2.2.2.1
theorem dX12_hurtIn_12 : decode cX12_hurtIn 12 = .ok (.invokevirtual 428, 3) := dGX12_599.2.2.2.2.2
theorem dGX12_600 : decode cX12_hurtIn 15 = .ok (.iload_n 2, 1) ∧ decode cX12_hurtIn 16 = .ok (.ireturn, 1) ∧ decode cX12_worth 0 = .ok (.iload_n 3, 1) ∧ decode cX12_worth 1 = .ok (.invokestatic 398, 3) ∧ decode cX12_worth 4 = .ok (.ifCond .eq 54, 3) ∧ decode cX12_worth 7 = .ok (.iload_n 1, 1) := by decide +kernel
theorem dX12_hurtIn_15 : decode cX12_hurtIn 15 = .ok (.iload_n 2, 1) := dGX12_600.1
theorem dX12_hurtIn_16 : decode cX12_hurtIn 16 = .ok (.ireturn, 1) := dGX12_600.2.1
theorem dX12_worth_0 : decode cX12_worth 0 = .ok (.iload_n 3, 1) := dGX12_600.2.2.1
theorem dX12_worth_1 : decode cX12_worth 1 = .ok (.invokestatic 398, 3) := dGX12_600.2.2.2.1
theorem dX12_worth_4 : decode cX12_worth 4 = .ok (.ifCond .eq 54, 3) := dGX12_600.2.2.2.2.1
theorem dX12_worth_7 : decode cX12_worth 7 = .ok (.iload_n 1, 1) := dGX12_600.2.2.2.2.2
theorem dGX12_601 : decode cX12_worth 8 = .ok (.i2l, 1) ∧ decode cX12_worth 9 = .ok (.lconst 0, 1) ∧ decode cX12_worth 10 = .ok (.lconst 1, 1) ∧ decode cX12_worth 11 = .ok (.invokestatic 175, 3) ∧ decode cX12_worth 14 = .ok (.ifCond .eq 44, 3) ∧ decode cX12_worth 17 = .ok (.iload_n 1, 1) := by decide +kernel
theorem dX12_worth_8 : decode cX12_worth 8 = .ok (.i2l, 1) := dGX12_601.1
theorem dX12_worth_9 : decode cX12_worth 9 = .ok (.lconst 0, 1) := dGX12_601.2.1
theorem dX12_worth_10 : decode cX12_worth 10 = .ok (.lconst 1, 1) := dGX12_601.2.2.1
theorem dX12_worth_11 : decode cX12_worth 11 = .ok (.invokestatic 175, 3) := dGX12_601.2.2.2.1
theorem dX12_worth_14 : decode cX12_worth 14 = .ok (.ifCond .eq 44, 3) := dGX12_601.2.2.2.2.1
theorem dX12_worth_17 : decode cX12_worth 17 = .ok (.iload_n 1, 1) := dGX12_601.2.2.2.2.2
theorem dGX12_602 : decode cX12_worth 18 = .ok (.ifCond .ne 23, 3) ∧ decode cX12_worth 21 = .ok (.aload_n 0, 1) ∧ decode cX12_worth 22 = .ok (.iload_n 2, 1) ∧ decode cX12_worth 23 = .ok (.invokevirtual 195, 3) ∧ decode cX12_worth 26 = .ok (.ifCond .eq 32, 3) ∧ decode cX12_worth 29 = .ok (.aload_n 0, 1) := by decide +kernel
theorem dX12_worth_18 : decode cX12_worth 18 = .ok (.ifCond .ne 23, 3) := dGX12_602.1
theorem dX12_worth_21 : decode cX12_worth 21 = .ok (.aload_n 0, 1) := dGX12_602.2.1
theorem dX12_worth_22 : decode cX12_worth 22 = .ok (.iload_n 2, 1) := dGX12_602.2.2.1
theorem dX12_worth_23 : decode cX12_worth 23 = .ok (.invokevirtual 195, 3) := dGX12_602.2.2.2.1
theorem dX12_worth_26 : decode cX12_worth 26 = .ok (.ifCond .eq 32, 3) := dGX12_602.2.2.2.2.1
theorem dX12_worth_29 : decode cX12_worth 29 = .ok (.aload_n 0, 1) := dGX12_602.2.2.2.2.2
theorem dGX12_603 : decode cX12_worth 30 = .ok (.getfield 36, 3) ∧ decode cX12_worth 33 = .ok (.iload_n 2, 1) ∧ decode cX12_worth 34 = .ok (.baload, 1) ∧ decode cX12_worth 35 = .ok (.ifCond .eq 27, 3) ∧ decode cX12_worth 38 = .ok (.goto 20, 3) ∧ decode cX12_worth 41 = .ok (.aload_n 0, 1) := by decide +kernel
theorem dX12_worth_30 : decode cX12_worth 30 = .ok (.getfield 36, 3) := dGX12_603.1
theorem dX12_worth_33 : decode cX12_worth 33 = .ok (.iload_n 2, 1) := dGX12_603.2.1
theorem dX12_worth_34 : decode cX12_worth 34 = .ok (.baload, 1) := dGX12_603.2.2.1
theorem dX12_worth_35 : decode cX12_worth 35 = .ok (.ifCond .eq 27, 3) := dGX12_603.2.2.2.1
theorem dX12_worth_38 : decode cX12_worth 38 = .ok (.goto 20, 3) := dGX12_603.2.2.2.2.1
theorem dX12_worth_41 : decode cX12_worth 41 = .ok (.aload_n 0, 1) := dGX12_603.2.2.2.2.2
theorem dGX12_604 : decode cX12_worth 42 = .ok (.iload_n 2, 1) ∧ decode cX12_worth 43 = .ok (.invokevirtual 201, 3) ∧ decode cX12_worth 46 = .ok (.ifCond .eq 12, 3) ∧ decode cX12_worth 49 = .ok (.aload_n 0, 1) ∧ decode cX12_worth 50 = .ok (.getfield 49, 3) ∧ decode cX12_worth 53 = .ok (.iload_n 2, 1) := by decide +kernel
theorem dX12_worth_42 : decode cX12_worth 42 = .ok (.iload_n 2, 1) := dGX12_604.1
theorem dX12_worth_43 : decode cX12_worth 43 = .ok (.invokevirtual 201, 3) := dGX12_604.2.1
theorem dX12_worth_46 : decode cX12_worth 46 = .ok (.ifCond .eq 12, 3) := dGX12_604.2.2.1
theorem dX12_worth_49 : decode cX12_worth 49 = .ok (.aload_n 0, 1) := dGX12_604.2.2.2.1
theorem dX12_worth_50 : decode cX12_worth 50 = .ok (.getfield 49, 3) := dGX12_604.2.2.2.2.1
theorem dX12_worth_53 : decode cX12_worth 53 = .ok (.iload_n 2, 1) := dGX12_604.2.2.2.2.2
theorem dGX12_605 : decode cX12_worth 54 = .ok (.baload, 1) ∧ decode cX12_worth 55 = .ok (.ifCond .eq 7, 3) ∧ decode cX12_worth 58 = .ok (.sipush (-10000), 3) ∧ decode cX12_worth 61 = .ok (.ireturn, 1) ∧ decode cX12_worth 62 = .ok (.aload_n 0, 1) ∧ decode cX12_worth 63 = .ok (.iconst 0, 1) := by decide +kernel
theorem dX12_worth_54 : decode cX12_worth 54 = .ok (.baload, 1) := dGX12_605.1
theorem dX12_worth_55 : decode cX12_worth 55 = .ok (.ifCond .eq 7, 3) := dGX12_605.2.1
theorem dX12_worth_58 : decode cX12_worth 58 = .ok (.sipush (-10000), 3) := dGX12_605.2.2.1
theorem dX12_worth_61 : decode cX12_worth 61 = .ok (.ireturn, 1) := dGX12_605.2.2.2.1
theorem dX12_worth_62 : decode cX12_worth 62 = .ok (.aload_n 0, 1) := dGX12_605.2.2.2.2.1
theorem dX12_worth_63 : decode cX12_worth 63 = .ok (.iconst 0, 1) := dGX12_605.2.2.2.2.2
theorem dGX12_606 : decode cX12_worth 64 = .ok (.invokevirtual 419, 3) ∧ decode cX12_worth 67 = .ok (.aload_n 0, 1) ∧ decode cX12_worth 68 = .ok (.iload_n 3, 1) ∧ decode cX12_worth 69 = .ok (.invokevirtual 465, 3) ∧ decode cX12_worth 72 = .ok (.istore 4, 2) ∧ decode cX12_worth 74 = .ok (.aload_n 0, 1) := by decide +kernel
theorem dX12_worth_64 : decode cX12_worth 64 = .ok (.invokevirtual 419, 3) := dGX12_606.1
theorem dX12_worth_67 : decode cX12_worth 67 = .ok (.aload_n 0, 1) := dGX12_606.2.1
theorem dX12_worth_68 : decode cX12_worth 68 = .ok (.iload_n 3, 1) := dGX12_606.2.2.1
theorem dX12_worth_69 : decode cX12_worth 69 = .ok (.invokevirtual 465, 3) := dGX12_606.2.2.2.1
theorem dX12_worth_72 : decode cX12_worth 72 = .ok (.istore 4, 2) := dGX12_606.2.2.2.2.1
theorem dX12_worth_74 : decode cX12_worth 74 = .ok (.aload_n 0, 1) := dGX12_606.2.2.2.2.2
theorem dGX12_607 : decode cX12_worth 75 = .ok (.iconst 0, 1) ∧ decode cX12_worth 76 = .ok (.invokevirtual 419, 3) ∧ decode cX12_worth 79 = .ok (.iload_n 1, 1) ∧ decode cX12_worth 80 = .ok (.ifCond .ne 13, 3) ∧ decode cX12_worth 83 = .ok (.aload_n 0, 1) ∧ decode cX12_worth 84 = .ok (.getfield 36, 3) := by decide +kernel
theorem dX12_worth_75 : decode cX12_worth 75 = .ok (.iconst 0, 1) := dGX12_607.1
theorem dX12_worth_76 : decode cX12_worth 76 = .ok (.invokevirtual 419, 3) := dGX12_607.2.1
theorem dX12_worth_79 : decode cX12_worth 79 = .ok (.iload_n 1, 1) := dGX12_607.2.2.1
theorem dX12_worth_80 : decode cX12_worth 80 = .ok (.ifCond .ne 13, 3) := dGX12_607.2.2.2.1
theorem dX12_worth_83 : decode cX12_worth 83 = .ok (.aload_n 0, 1) := dGX12_607.2.2.2.2.1
theorem dX12_worth_84 : decode cX12_worth 84 = .ok (.getfield 36, 3) := dGX12_607.2.2.2.2.2
theorem dGX12_608 : decode cX12_worth 87 = .ok (.iload_n 2, 1) ∧ decode cX12_worth 88 = .ok (.iconst 1, 1) ∧ decode cX12_worth 89 = .ok (.bastore, 1) ∧ decode cX12_worth 90 = .ok (.goto 10, 3) ∧ decode cX12_worth 93 = .ok (.aload_n 0, 1) ∧ decode cX12_worth 94 = .ok (.getfield 49, 3) := by decide +kernel
theorem dX12_worth_87 : decode cX12_worth 87 = .ok (.iload_n 2, 1) := dGX12_608.1
theorem dX12_worth_88 : decode cX12_worth 88 = .ok (.iconst 1, 1) := dGX12_608.2.1
theorem dX12_worth_89 : decode cX12_worth 89 = .ok (.bastore, 1) := dGX12_608.2.2.1
theorem dX12_worth_90 : decode cX12_worth 90 = .ok (.goto 10, 3) := dGX12_608.2.2.2.1
theorem dX12_worth_93 : decode cX12_worth 93 = .ok (.aload_n 0, 1) := dGX12_608.2.2.2.2.1
theorem dX12_worth_94 : decode cX12_worth 94 = .ok (.getfield 49, 3) := dGX12_608.2.2.2.2.2
theorem dGX12_609 : decode cX12_worth 97 = .ok (.iload_n 2, 1) ∧ decode cX12_worth 98 = .ok (.iconst 1, 1) ∧ decode cX12_worth 99 = .ok (.bastore, 1) ∧ decode cX12_worth 100 = .ok (.iload 4, 2) ∧ decode cX12_worth 102 = .ok (.aload_n 0, 1) ∧ decode cX12_worth 103 = .ok (.iload_n 3, 1) := by decide +kernel
theorem dX12_worth_97 : decode cX12_worth 97 = .ok (.iload_n 2, 1) := dGX12_609.1
theorem dX12_worth_98 : decode cX12_worth 98 = .ok (.iconst 1, 1) := dGX12_609.2.1
theorem dX12_worth_99 : decode cX12_worth 99 = .ok (.bastore, 1) := dGX12_609.2.2.1
theorem dX12_worth_100 : decode cX12_worth 100 = .ok (.iload 4, 2) := dGX12_609.2.2.2.1
theorem dX12_worth_102 : decode cX12_worth 102 = .ok (.aload_n 0, 1) := dGX12_609.2.2.2.2.1
theorem dX12_worth_103 : decode cX12_worth 103 = .ok (.iload_n 3, 1) := dGX12_609.2.2.2.2.2
theorem dGX12_610 : decode cX12_worth 104 = .ok (.invokevirtual 465, 3) ∧ decode cX12_worth 107 = .ok (.isub, 1) ∧ decode cX12_worth 108 = .ok (.ireturn, 1) ∧ decode cX12_canLend 0 = .ok (.aload_n 0, 1) ∧ decode cX12_canLend 1 = .ok (.getfield 52, 3) ∧ decode cX12_canLend 4 = .ok (.iload_n 1, 1) := by decide +kernel
theorem dX12_worth_104 : decode cX12_worth 104 = .ok (.invokevirtual 465, 3) := dGX12_610.1
theorem dX12_worth_107 : decode cX12_worth 107 = .ok (.isub, 1) := dGX12_610.2.1
theorem dX12_worth_108 : decode cX12_worth 108 = .ok (.ireturn, 1) := dGX12_610.2.2.1
theorem dX12_canLend_0 : decode cX12_canLend 0 = .ok (.aload_n 0, 1) := dGX12_610.2.2.2.1
theorem dX12_canLend_1 : decode cX12_canLend 1 = .ok (.getfield 52, 3) := dGX12_610.2.2.2.2.1
theorem dX12_canLend_4 : decode cX12_canLend 4 = .ok (.iload_n 1, 1) := dGX12_610.2.2.2.2.2
theorem dGX12_611 : decode cX12_canLend 5 = .ok (.iaload, 1) ∧ decode cX12_canLend 6 = .ok (.ifCond .le 31, 3) ∧ decode cX12_canLend 9 = .ok (.aload_n 0, 1) ∧ decode cX12_canLend 10 = .ok (.getfield 36, 3) ∧ decode cX12_canLend 13 = .ok (.iload_n 2, 1) ∧ decode cX12_canLend 14 = .ok (.baload, 1) := by decide +kernel
theorem dX12_canLend_5 : decode cX12_canLend 5 = .ok (.iaload, 1) := dGX12_611.1
theorem dX12_canLend_6 : decode cX12_canLend 6 = .ok (.ifCond .le 31, 3) := dGX12_611.2.1
theorem dX12_canLend_9 : decode cX12_canLend 9 = .ok (.aload_n 0, 1) := dGX12_611.2.2.1
theorem dX12_canLend_10 : decode cX12_canLend 10 = .ok (.getfield 36, 3) := dGX12_611.2.2.2.1
theorem dX12_canLend_13 : decode cX12_canLend 13 = .ok (.iload_n 2, 1) := dGX12_611.2.2.2.2.1
theorem dX12_canLend_14 : decode cX12_canLend 14 = .ok (.baload, 1) := dGX12_611.2.2.2.2.2
theorem dGX12_612 : decode cX12_canLend 15 = .ok (.ifCond .ne 22, 3) ∧ decode cX12_canLend 18 = .ok (.aload_n 0, 1) ∧ decode cX12_canLend 19 = .ok (.getfield 58, 3) ∧ decode cX12_canLend 22 = .ok (.bipush 8, 2) ∧ decode cX12_canLend 24 = .ok (.iload_n 2, 1) ∧ decode cX12_canLend 25 = .ok (.imul, 1) := by decide +kernel
theorem dX12_canLend_15 : decode cX12_canLend 15 = .ok (.ifCond .ne 22, 3) := dGX12_612.1
theorem dX12_canLend_18 : decode cX12_canLend 18 = .ok (.aload_n 0, 1) := dGX12_612.2.1
theorem dX12_canLend_19 : decode cX12_canLend 19 = .ok (.getfield 58, 3) := dGX12_612.2.2.1
theorem dX12_canLend_22 : decode cX12_canLend 22 = .ok (.bipush 8, 2) := dGX12_612.2.2.2.1
theorem dX12_canLend_24 : decode cX12_canLend 24 = .ok (.iload_n 2, 1) := dGX12_612.2.2.2.2.1
theorem dX12_canLend_25 : decode cX12_canLend 25 = .ok (.imul, 1) := dGX12_612.2.2.2.2.2
theorem dGX12_613 : decode cX12_canLend 26 = .ok (.iload_n 1, 1) ∧ decode cX12_canLend 27 = .ok (.iadd, 1) ∧ decode cX12_canLend 28 = .ok (.iaload, 1) ∧ decode cX12_canLend 29 = .ok (.iload_n 3, 1) ∧ decode cX12_canLend 30 = .ok (.if_icmp .lt 7, 3) ∧ decode cX12_canLend 33 = .ok (.iconst 1, 1) := by decide +kernel
theorem dX12_canLend_26 : decode cX12_canLend 26 = .ok (.iload_n 1, 1) := dGX12_613.1
theorem dX12_canLend_27 : decode cX12_canLend 27 = .ok (.iadd, 1) := dGX12_613.2.1
theorem dX12_canLend_28 : decode cX12_canLend 28 = .ok (.iaload, 1) := dGX12_613.2.2.1
theorem dX12_canLend_29 : decode cX12_canLend 29 = .ok (.iload_n 3, 1) := dGX12_613.2.2.2.1
theorem dX12_canLend_30 : decode cX12_canLend 30 = .ok (.if_icmp .lt 7, 3) := dGX12_613.2.2.2.2.1
theorem dX12_canLend_33 : decode cX12_canLend 33 = .ok (.iconst 1, 1) := dGX12_613.2.2.2.2.2
theorem dGX12_614 : decode cX12_canLend 34 = .ok (.goto 4, 3) ∧ decode cX12_canLend 37 = .ok (.iconst 0, 1) ∧ decode cX12_canLend 38 = .ok (.ireturn, 1) ∧ decode cX12_lentWith 0 = .ok (.iconst 1, 1) ∧ decode cX12_lentWith 1 = .ok (.aload_n 0, 1) ∧ decode cX12_lentWith 2 = .ok (.getfield 160, 3) := by decide +kernel
theorem dX12_canLend_34 : decode cX12_canLend 34 = .ok (.goto 4, 3) := dGX12_614.1
theorem dX12_canLend_37 : decode cX12_canLend 37 = .ok (.iconst 0, 1) := dGX12_614.2.1
theorem dX12_canLend_38 : decode cX12_canLend 38 = .ok (.ireturn, 1) := dGX12_614.2.2.1
theorem dX12_lentWith_0 : decode cX12_lentWith 0 = .ok (.iconst 1, 1) := dGX12_614.2.2.2.1
theorem dX12_lentWith_1 : decode cX12_lentWith 1 = .ok (.aload_n 0, 1) := dGX12_614.2.2.2.2.1
theorem dX12_lentWith_2 : decode cX12_lentWith 2 = .ok (.getfield 160, 3) := dGX12_614.2.2.2.2.2
theorem dGX12_615 : decode cX12_lentWith 5 = .ok (.sipush 256, 3) ∧ decode cX12_lentWith 8 = .ok (.iload_n 1, 1) ∧ decode cX12_lentWith 9 = .ok (.iconst 1, 1) ∧ decode cX12_lentWith 10 = .ok (.iadd, 1) ∧ decode cX12_lentWith 11 = .ok (.imul, 1) ∧ decode cX12_lentWith 12 = .ok (.iload_n 3, 1) := by decide +kernel
theorem dX12_lentWith_5 : decode cX12_lentWith 5 = .ok (.sipush 256, 3) := dGX12_615.1
theorem dX12_lentWith_8 : decode cX12_lentWith 8 = .ok (.iload_n 1, 1) := dGX12_615.2.1
theorem dX12_lentWith_9 : decode cX12_lentWith 9 = .ok (.iconst 1, 1) := dGX12_615.2.2.1
theorem dX12_lentWith_10 : decode cX12_lentWith 10 = .ok (.iadd, 1) := dGX12_615.2.2.2.1
theorem dX12_lentWith_11 : decode cX12_lentWith 11 = .ok (.imul, 1) := dGX12_615.2.2.2.2.1
theorem dX12_lentWith_12 : decode cX12_lentWith 12 = .ok (.iload_n 3, 1) := dGX12_615.2.2.2.2.2
theorem dGX12_616 : decode cX12_lentWith 13 = .ok (.iconst 1, 1) ∧ decode cX12_lentWith 14 = .ok (.iload_n 2, 1) ∧ decode cX12_lentWith 15 = .ok (.ishl, 1) ∧ decode cX12_lentWith 16 = .ok (.ior, 1) ∧ decode cX12_lentWith 17 = .ok (.iadd, 1) ∧ decode cX12_lentWith 18 = .ok (.iaload, 1) := by decide +kernel
theorem dX12_lentWith_13 : decode cX12_lentWith 13 = .ok (.iconst 1, 1) := dGX12_616.1
theorem dX12_lentWith_14 : decode cX12_lentWith 14 = .ok (.iload_n 2, 1) := dGX12_616.2.1
theorem dX12_lentWith_15 : decode cX12_lentWith 15 = .ok (.ishl, 1) := dGX12_616.2.2.1
theorem dX12_lentWith_16 : decode cX12_lentWith 16 = .ok (.ior, 1) := dGX12_616.2.2.2.1
theorem dX12_lentWith_17 : decode cX12_lentWith 17 = .ok (.iadd, 1) := dGX12_616.2.2.2.2.1
theorem dX12_lentWith_18 : decode cX12_lentWith 18 = .ok (.iaload, 1) := dGX12_616.2.2.2.2.2
theorem dGX12_617 : decode cX12_lentWith 19 = .ok (.iadd, 1) ∧ decode cX12_lentWith 20 = .ok (.ireturn, 1) ∧ decode cX12_lent 0 = .ok (.iload_n 1, 1) ∧ decode cX12_lent 1 = .ok (.i2l, 1) ∧ decode cX12_lent 2 = .ok (.lconst 1, 1) ∧ decode cX12_lent 3 = .ok (.ldc2_w 187, 3) := by decide +kernel
theorem dX12_lentWith_19 : decode cX12_lentWith 19 = .ok (.iadd, 1) := dGX12_617.1
theorem dX12_lentWith_20 : decode cX12_lentWith 20 = .ok (.ireturn, 1) := dGX12_617.2.1
theorem dX12_lent_0 : decode cX12_lent 0 = .ok (.iload_n 1, 1) := dGX12_617.2.2.1
theorem dX12_lent_1 : decode cX12_lent 1 = .ok (.i2l, 1) := dGX12_617.2.2.2.1
theorem dX12_lent_2 : decode cX12_lent 2 = .ok (.lconst 1, 1) := dGX12_617.2.2.2.2.1
theorem dX12_lent_3 : decode cX12_lent 3 = .ok (.ldc2_w 187, 3) := dGX12_617.2.2.2.2.2
theorem dGX12_618 : decode cX12_lent 6 = .ok (.invokestatic 175, 3) ∧ decode cX12_lent 9 = .ok (.ifCond .eq 25, 3) ∧ decode cX12_lent 12 = .ok (.iload_n 2, 1) ∧ decode cX12_lent 13 = .ok (.i2l, 1) ∧ decode cX12_lent 14 = .ok (.ldc2_w 410, 3) ∧ decode cX12_lent 17 = .ok (.ldc2_w 468, 3) := by decide +kernel
theorem dX12_lent_6 : decode cX12_lent 6 = .ok (.invokestatic 175, 3) := dGX12_618.1
theorem dX12_lent_9 : decode cX12_lent 9 = .ok (.ifCond .eq 25, 3) := dGX12_618.2.1
theorem dX12_lent_12 : decode cX12_lent 12 = .ok (.iload_n 2, 1) := dGX12_618.2.2.1
theorem dX12_lent_13 : decode cX12_lent 13 = .ok (.i2l, 1) := dGX12_618.2.2.2.1
theorem dX12_lent_14 : decode cX12_lent 14 = .ok (.ldc2_w 410, 3) := dGX12_618.2.2.2.2.1
theorem dX12_lent_17 : decode cX12_lent 17 = .ok (.ldc2_w 468, 3) := dGX12_618.2.2.2.2.2
theorem dGX12_619 : decode cX12_lent 20 = .ok (.invokestatic 175, 3) ∧ decode cX12_lent 23 = .ok (.ifCond .ne 13, 3) ∧ decode cX12_lent 26 = .ok (.aload_n 0, 1) ∧ decode cX12_lent 27 = .ok (.iload_n 2, 1) ∧ decode cX12_lent 28 = .ok (.invokevirtual 201, 3) ∧ decode cX12_lent 31 = .ok (.ifCond .ne 5, 3) := by decide +kernel
theorem dX12_lent_20 : decode cX12_lent 20 = .ok (.invokestatic 175, 3) := dGX12_619.1
theorem dX12_lent_23 : decode cX12_lent 23 = .ok (.ifCond .ne 13, 3) := dGX12_619.2.1
theorem dX12_lent_26 : decode cX12_lent 26 = .ok (.aload_n 0, 1) := dGX12_619.2.2.1
theorem dX12_lent_27 : decode cX12_lent 27 = .ok (.iload_n 2, 1) := dGX12_619.2.2.2.1
theorem dX12_lent_28 : decode cX12_lent 28 = .ok (.invokevirtual 201, 3) := dGX12_619.2.2.2.2.1
theorem dX12_lent_31 : decode cX12_lent 31 = .ok (.ifCond .ne 5, 3) := dGX12_619.2.2.2.2.2
theorem dGX12_620 : decode cX12_lent 34 = .ok (.iconst (-1), 1) ∧ decode cX12_lent 35 = .ok (.ireturn, 1) ∧ decode cX12_lent 36 = .ok (.iconst 0, 1) ∧ decode cX12_lent 37 = .ok (.istore_n 3, 1) ∧ decode cX12_lent 38 = .ok (.iload_n 3, 1) ∧ decode cX12_lent 39 = .ok (.sipush 256, 3) := by decide +kernel
theorem dX12_lent_34 : decode cX12_lent 34 = .ok (.iconst (-1), 1) := dGX12_620.1
theorem dX12_lent_35 : decode cX12_lent 35 = .ok (.ireturn, 1) := dGX12_620.2.1
theorem dX12_lent_36 : decode cX12_lent 36 = .ok (.iconst 0, 1) := dGX12_620.2.2.1
theorem dX12_lent_37 : decode cX12_lent 37 = .ok (.istore_n 3, 1) := dGX12_620.2.2.2.1
theorem dX12_lent_38 : decode cX12_lent 38 = .ok (.iload_n 3, 1) := dGX12_620.2.2.2.2.1
theorem dX12_lent_39 : decode cX12_lent 39 = .ok (.sipush 256, 3) := dGX12_620.2.2.2.2.2
theorem dGX12_621 : decode cX12_lent 42 = .ok (.if_icmp .ge 25, 3) ∧ decode cX12_lent 45 = .ok (.aload_n 0, 1) ∧ decode cX12_lent 46 = .ok (.getfield 160, 3) ∧ decode cX12_lent 49 = .ok (.sipush 256, 3) ∧ decode cX12_lent 52 = .ok (.aload_n 0, 1) ∧ decode cX12_lent 53 = .ok (.getfield 182, 3) := by decide +kernel
theorem dX12_lent_42 : decode cX12_lent 42 = .ok (.if_icmp .ge 25, 3) := dGX12_621.1
theorem dX12_lent_45 : decode cX12_lent 45 = .ok (.aload_n 0, 1) := dGX12_621.2.1
theorem dX12_lent_46 : decode cX12_lent 46 = .ok (.getfield 160, 3) := dGX12_621.2.2.1
theorem dX12_lent_49 : decode cX12_lent 49 = .ok (.sipush 256, 3) := dGX12_621.2.2.2.1
theorem dX12_lent_52 : decode cX12_lent 52 = .ok (.aload_n 0, 1) := dGX12_621.2.2.2.2.1
theorem dX12_lent_53 : decode cX12_lent 53 = .ok (.getfield 182, 3) := dGX12_621.2.2.2.2.2
theorem dGX12_622 : decode cX12_lent 56 = .ok (.imul, 1) ∧ decode cX12_lent 57 = .ok (.iload_n 3, 1) ∧ decode cX12_lent 58 = .ok (.iadd, 1) ∧ decode cX12_lent 59 = .ok (.iconst 0, 1) ∧ decode cX12_lent 60 = .ok (.iastore, 1) ∧ decode cX12_lent 61 = .ok (.iinc 3 1, 3) := by decide +kernel
theorem dX12_lent_56 : decode cX12_lent 56 = .ok (.imul, 1) := dGX12_622.1
theorem dX12_lent_57 : decode cX12_lent 57 = .ok (.iload_n 3, 1) := dGX12_622.2.1
theorem dX12_lent_58 : decode cX12_lent 58 = .ok (.iadd, 1) := dGX12_622.2.2.1
theorem dX12_lent_59 : decode cX12_lent 59 = .ok (.iconst 0, 1) := dGX12_622.2.2.2.1
theorem dX12_lent_60 : decode cX12_lent 60 = .ok (.iastore, 1) := dGX12_622.2.2.2.2.1
theorem dX12_lent_61 : decode cX12_lent 61 = .ok (.iinc 3 1, 3) := dGX12_622.2.2.2.2.2
theorem dGX12_623 : decode cX12_lent 64 = .ok (.goto (-26), 3) ∧ decode cX12_lent 67 = .ok (.aload_n 0, 1) ∧ decode cX12_lent 68 = .ok (.getfield 182, 3) ∧ decode cX12_lent 71 = .ok (.iconst 1, 1) ∧ decode cX12_lent 72 = .ok (.isub, 1) ∧ decode cX12_lent 73 = .ok (.istore_n 3, 1) := by decide +kernel
theorem dX12_lent_64 : decode cX12_lent 64 = .ok (.goto (-26), 3) := dGX12_623.1
theorem dX12_lent_67 : decode cX12_lent 67 = .ok (.aload_n 0, 1) := dGX12_623.2.1
theorem dX12_lent_68 : decode cX12_lent 68 = .ok (.getfield 182, 3) := dGX12_623.2.2.1
theorem dX12_lent_71 : decode cX12_lent 71 = .ok (.iconst 1, 1) := dGX12_623.2.2.2.1
theorem dX12_lent_72 : decode cX12_lent 72 = .ok (.isub, 1) := dGX12_623.2.2.2.2.1
theorem dX12_lent_73 : decode cX12_lent 73 = .ok (.istore_n 3, 1) := dGX12_623.2.2.2.2.2
theorem dGX12_624 : decode cX12_lent 74 = .ok (.iload_n 3, 1) ∧ decode cX12_lent 75 = .ok (.ifCond .lt 122, 3) ∧ decode cX12_lent 78 = .ok (.iconst 0, 1) ∧ decode cX12_lent 79 = .ok (.istore 4, 2) ∧ decode cX12_lent 81 = .ok (.iload 4, 2) ∧ decode cX12_lent 83 = .ok (.sipush 256, 3) := by decide +kernel
theorem dX12_lent_74 : decode cX12_lent 74 = .ok (.iload_n 3, 1) := dGX12_624.1
theorem dX12_lent_75 : decode cX12_lent 75 = .ok (.ifCond .lt 122, 3) := dGX12_624.2.1
theorem dX12_lent_78 : decode cX12_lent 78 = .ok (.iconst 0, 1) := dGX12_624.2.2.1
theorem dX12_lent_79 : decode cX12_lent 79 = .ok (.istore 4, 2) := dGX12_624.2.2.2.1
theorem dX12_lent_81 : decode cX12_lent 81 = .ok (.iload 4, 2) := dGX12_624.2.2.2.2.1
theorem dX12_lent_83 : decode cX12_lent 83 = .ok (.sipush 256, 3) := dGX12_624.2.2.2.2.2
theorem dGX12_625 : decode cX12_lent 86 = .ok (.if_icmp .ge 105, 3) ∧ decode cX12_lent 89 = .ok (.aload_n 0, 1) ∧ decode cX12_lent 90 = .ok (.getfield 160, 3) ∧ decode cX12_lent 93 = .ok (.sipush 256, 3) ∧ decode cX12_lent 96 = .ok (.iload_n 3, 1) ∧ decode cX12_lent 97 = .ok (.iconst 1, 1) := by decide +kernel
theorem dX12_lent_86 : decode cX12_lent 86 = .ok (.if_icmp .ge 105, 3) := dGX12_625.1
theorem dX12_lent_89 : decode cX12_lent 89 = .ok (.aload_n 0, 1) := dGX12_625.2.1
theorem dX12_lent_90 : decode cX12_lent 90 = .ok (.getfield 160, 3) := dGX12_625.2.2.1
theorem dX12_lent_93 : decode cX12_lent 93 = .ok (.sipush 256, 3) := dGX12_625.2.2.2.1
theorem dX12_lent_96 : decode cX12_lent 96 = .ok (.iload_n 3, 1) := dGX12_625.2.2.2.2.1
theorem dX12_lent_97 : decode cX12_lent 97 = .ok (.iconst 1, 1) := dGX12_625.2.2.2.2.2
theorem dGX12_626 : decode cX12_lent 98 = .ok (.iadd, 1) ∧ decode cX12_lent 99 = .ok (.imul, 1) ∧ decode cX12_lent 100 = .ok (.iload 4, 2) ∧ decode cX12_lent 102 = .ok (.iadd, 1) ∧ decode cX12_lent 103 = .ok (.iaload, 1) ∧ decode cX12_lent 104 = .ok (.istore 5, 2) := by decide +kernel
theorem dX12_lent_98 : decode cX12_lent 98 = .ok (.iadd, 1) := dGX12_626.1
theorem dX12_lent_99 : decode cX12_lent 99 = .ok (.imul, 1) := dGX12_626.2.1
theorem dX12_lent_100 : decode cX12_lent 100 = .ok (.iload 4, 2) := dGX12_626.2.2.1
theorem dX12_lent_102 : decode cX12_lent 102 = .ok (.iadd, 1) := dGX12_626.2.2.2.1
theorem dX12_lent_103 : decode cX12_lent 103 = .ok (.iaload, 1) := dGX12_626.2.2.2.2.1
theorem dX12_lent_104 : decode cX12_lent 104 = .ok (.istore 5, 2) := dGX12_626.2.2.2.2.2
theorem dGX12_627 : decode cX12_lent 106 = .ok (.iconst 0, 1) ∧ decode cX12_lent 107 = .ok (.istore 6, 2) ∧ decode cX12_lent 109 = .ok (.iload 6, 2) ∧ decode cX12_lent 111 = .ok (.aload_n 0, 1) ∧ decode cX12_lent 112 = .ok (.getfield 179, 3) ∧ decode cX12_lent 115 = .ok (.if_icmp .ge 55, 3) := by decide +kernel
theorem dX12_lent_106 : decode cX12_lent 106 = .ok (.iconst 0, 1) := dGX12_627.1
theorem dX12_lent_107 : decode cX12_lent 107 = .ok (.istore 6, 2) := dGX12_627.2.1
theorem dX12_lent_109 : decode cX12_lent 109 = .ok (.iload 6, 2) := dGX12_627.2.2.1
theorem dX12_lent_111 : decode cX12_lent 111 = .ok (.aload_n 0, 1) := dGX12_627.2.2.2.1
theorem dX12_lent_112 : decode cX12_lent 112 = .ok (.getfield 179, 3) := dGX12_627.2.2.2.2.1
theorem dX12_lent_115 : decode cX12_lent 115 = .ok (.if_icmp .ge 55, 3) := dGX12_627.2.2.2.2.2
theorem dGX12_628 : decode cX12_lent 118 = .ok (.iload 4, 2) ∧ decode cX12_lent 120 = .ok (.iload 6, 2) ∧ decode cX12_lent 122 = .ok (.invokestatic 362, 3) ∧ decode cX12_lent 125 = .ok (.ifCond .ne 39, 3) ∧ decode cX12_lent 128 = .ok (.aload_n 0, 1) ∧ decode cX12_lent 129 = .ok (.iload_n 3, 1) := by decide +kernel
theorem dX12_lent_118 : decode cX12_lent 118 = .ok (.iload 4, 2) := dGX12_628.1
theorem dX12_lent_120 : decode cX12_lent 120 = .ok (.iload 6, 2) := dGX12_628.2.1
theorem dX12_lent_122 : decode cX12_lent 122 = .ok (.invokestatic 362, 3) := dGX12_628.2.2.1
theorem dX12_lent_125 : decode cX12_lent 125 = .ok (.ifCond .ne 39, 3) := dGX12_628.2.2.2.1
theorem dX12_lent_128 : decode cX12_lent 128 = .ok (.aload_n 0, 1) := dGX12_628.2.2.2.2.1
theorem dX12_lent_129 : decode cX12_lent 129 = .ok (.iload_n 3, 1) := dGX12_628.2.2.2.2.2
theorem dGX12_629 : decode cX12_lent 130 = .ok (.iload 6, 2) ∧ decode cX12_lent 132 = .ok (.iload_n 1, 1) ∧ decode cX12_lent 133 = .ok (.invokevirtual 470, 3) ∧ decode cX12_lent 136 = .ok (.ifCond .eq 28, 3) ∧ decode cX12_lent 139 = .ok (.aload_n 0, 1) ∧ decode cX12_lent 140 = .ok (.iload_n 3, 1) := by decide +kernel
theorem dX12_lent_130 : decode cX12_lent 130 = .ok (.iload 6, 2) := dGX12_629.1
theorem dX12_lent_132 : decode cX12_lent 132 = .ok (.iload_n 1, 1) := dGX12_629.2.1
theorem dX12_lent_133 : decode cX12_lent 133 = .ok (.invokevirtual 470, 3) := dGX12_629.2.2.1
theorem dX12_lent_136 : decode cX12_lent 136 = .ok (.ifCond .eq 28, 3) := dGX12_629.2.2.2.1
theorem dX12_lent_139 : decode cX12_lent 139 = .ok (.aload_n 0, 1) := dGX12_629.2.2.2.2.1
theorem dX12_lent_140 : decode cX12_lent 140 = .ok (.iload_n 3, 1) := dGX12_629.2.2.2.2.2
theorem dGX12_630 : decode cX12_lent 141 = .ok (.iload 6, 2) ∧ decode cX12_lent 143 = .ok (.iload 4, 2) ∧ decode cX12_lent 145 = .ok (.invokevirtual 474, 3) ∧ decode cX12_lent 148 = .ok (.iload 5, 2) ∧ decode cX12_lent 150 = .ok (.if_icmp .le 14, 3) ∧ decode cX12_lent 153 = .ok (.aload_n 0, 1) := by decide +kernel
theorem dX12_lent_141 : decode cX12_lent 141 = .ok (.iload 6, 2) := dGX12_630.1
theorem dX12_lent_143 : decode cX12_lent 143 = .ok (.iload 4, 2) := dGX12_630.2.1
theorem dX12_lent_145 : decode cX12_lent 145 = .ok (.invokevirtual 474, 3) := dGX12_630.2.2.1
theorem dX12_lent_148 : decode cX12_lent 148 = .ok (.iload 5, 2) := dGX12_630.2.2.2.1
theorem dX12_lent_150 : decode cX12_lent 150 = .ok (.if_icmp .le 14, 3) := dGX12_630.2.2.2.2.1
theorem dX12_lent_153 : decode cX12_lent 153 = .ok (.aload_n 0, 1) := dGX12_630.2.2.2.2.2
theorem dGX12_631 : decode cX12_lent 154 = .ok (.iload_n 3, 1) ∧ decode cX12_lent 155 = .ok (.iload 6, 2) ∧ decode cX12_lent 157 = .ok (.iload 4, 2) ∧ decode cX12_lent 159 = .ok (.invokevirtual 474, 3) ∧ decode cX12_lent 162 = .ok (.istore 5, 2) ∧ decode cX12_lent 164 = .ok (.iinc 6 1, 3) := by decide +kernel
theorem dX12_lent_154 : decode cX12_lent 154 = .ok (.iload_n 3, 1) := dGX12_631.1
theorem dX12_lent_155 : decode cX12_lent 155 = .ok (.iload 6, 2) := dGX12_631.2.1
theorem dX12_lent_157 : decode cX12_lent 157 = .ok (.iload 4, 2) := dGX12_631.2.2.1
theorem dX12_lent_159 : decode cX12_lent 159 = .ok (.invokevirtual 474, 3) := dGX12_631.2.2.2.1
theorem dX12_lent_162 : decode cX12_lent 162 = .ok (.istore 5, 2) := dGX12_631.2.2.2.2.1
theorem dX12_lent_164 : decode cX12_lent 164 = .ok (.iinc 6 1, 3) := dGX12_631.2.2.2.2.2
theorem dGX12_632 : decode cX12_lent 167 = .ok (.goto (-58), 3) ∧ decode cX12_lent 170 = .ok (.aload_n 0, 1) ∧ decode cX12_lent 171 = .ok (.getfield 160, 3) ∧ decode cX12_lent 174 = .ok (.sipush 256, 3) ∧ decode cX12_lent 177 = .ok (.iload_n 3, 1) ∧ decode cX12_lent 178 = .ok (.imul, 1) := by decide +kernel
theorem dX12_lent_167 : decode cX12_lent 167 = .ok (.goto (-58), 3) := dGX12_632.1
theorem dX12_lent_170 : decode cX12_lent 170 = .ok (.aload_n 0, 1) := dGX12_632.2.1
theorem dX12_lent_171 : decode cX12_lent 171 = .ok (.getfield 160, 3) := dGX12_632.2.2.1
theorem dX12_lent_174 : decode cX12_lent 174 = .ok (.sipush 256, 3) := dGX12_632.2.2.2.1
theorem dX12_lent_177 : decode cX12_lent 177 = .ok (.iload_n 3, 1) := dGX12_632.2.2.2.2.1
theorem dX12_lent_178 : decode cX12_lent 178 = .ok (.imul, 1) := dGX12_632.2.2.2.2.2
theorem dGX12_633 : decode cX12_lent 179 = .ok (.iload 4, 2) ∧ decode cX12_lent 181 = .ok (.iadd, 1) ∧ decode cX12_lent 182 = .ok (.iload 5, 2) ∧ decode cX12_lent 184 = .ok (.iastore, 1) ∧ decode cX12_lent 185 = .ok (.iinc 4 1, 3) ∧ decode cX12_lent 188 = .ok (.goto (-107), 3) := by decide +kernel
theorem dX12_lent_179 : decode cX12_lent 179 = .ok (.iload 4, 2) := dGX12_633.1
theorem dX12_lent_181 : decode cX12_lent 181 = .ok (.iadd, 1) := dGX12_633.2.1
theorem dX12_lent_182 : decode cX12_lent 182 = .ok (.iload 5, 2) := dGX12_633.2.2.1
theorem dX12_lent_184 : decode cX12_lent 184 = .ok (.iastore, 1) := dGX12_633.2.2.2.1
theorem dX12_lent_185 : decode cX12_lent 185 = .ok (.iinc 4 1, 3) := dGX12_633.2.2.2.2.1
theorem dX12_lent_188 : decode cX12_lent 188 = .ok (.goto (-107), 3) := dGX12_633.2.2.2.2.2
theorem dGX12_634 : decode cX12_lent 191 = .ok (.iinc 3 (-1), 3) ∧ decode cX12_lent 194 = .ok (.goto (-120), 3) ∧ decode cX12_lent 197 = .ok (.iload_n 2, 1) ∧ decode cX12_lent 198 = .ok (.bipush 10, 2) ∧ decode cX12_lent 200 = .ok (.if_icmp .ne 10, 3) ∧ decode cX12_lent 203 = .ok (.aload_n 0, 1) := by decide +kernel
theorem dX12_lent_191 : decode cX12_lent 191 = .ok (.iinc 3 (-1), 3) := dGX12_634.1
theorem dX12_lent_194 : decode cX12_lent 194 = .ok (.goto (-120), 3) := dGX12_634.2.1
theorem dX12_lent_197 : decode cX12_lent 197 = .ok (.iload_n 2, 1) := dGX12_634.2.2.1
theorem dX12_lent_198 : decode cX12_lent 198 = .ok (.bipush 10, 2) := dGX12_634.2.2.2.1
theorem dX12_lent_200 : decode cX12_lent 200 = .ok (.if_icmp .ne 10, 3) := dGX12_634.2.2.2.2.1
theorem dX12_lent_203 : decode cX12_lent 203 = .ok (.aload_n 0, 1) := dGX12_634.2.2.2.2.2
theorem dGX12_635 : decode cX12_lent 204 = .ok (.getfield 160, 3) ∧ decode cX12_lent 207 = .ok (.iconst 0, 1) ∧ decode cX12_lent 208 = .ok (.iaload, 1) ∧ decode cX12_lent 209 = .ok (.ireturn, 1) ∧ decode cX12_lent 210 = .ok (.iconst 0, 1) ∧ decode cX12_lent 211 = .ok (.istore_n 3, 1) := by decide +kernel
theorem dX12_lent_204 : decode cX12_lent 204 = .ok (.getfield 160, 3) := dGX12_635.1
theorem dX12_lent_207 : decode cX12_lent 207 = .ok (.iconst 0, 1) := dGX12_635.2.1
theorem dX12_lent_208 : decode cX12_lent 208 = .ok (.iaload, 1) := dGX12_635.2.2.1
theorem dX12_lent_209 : decode cX12_lent 209 = .ok (.ireturn, 1) := dGX12_635.2.2.2.1
theorem dX12_lent_210 : decode cX12_lent 210 = .ok (.iconst 0, 1) := dGX12_635.2.2.2.2.1
theorem dX12_lent_211 : decode cX12_lent 211 = .ok (.istore_n 3, 1) := dGX12_635.2.2.2.2.2
theorem dGX12_636 : decode cX12_lent 212 = .ok (.iconst 0, 1) ∧ decode cX12_lent 213 = .ok (.istore 4, 2) ∧ decode cX12_lent 215 = .ok (.iconst 0, 1) ∧ decode cX12_lent 216 = .ok (.istore 5, 2) ∧ decode cX12_lent 218 = .ok (.iload 5, 2) ∧ decode cX12_lent 220 = .ok (.aload_n 0, 1) := by decide +kernel
theorem dX12_lent_212 : decode cX12_lent 212 = .ok (.iconst 0, 1) := dGX12_636.1
theorem dX12_lent_213 : decode cX12_lent 213 = .ok (.istore 4, 2) := dGX12_636.2.1
theorem dX12_lent_215 : decode cX12_lent 215 = .ok (.iconst 0, 1) := dGX12_636.2.2.1
theorem dX12_lent_216 : decode cX12_lent 216 = .ok (.istore 5, 2) := dGX12_636.2.2.2.1
theorem dX12_lent_218 : decode cX12_lent 218 = .ok (.iload 5, 2) := dGX12_636.2.2.2.2.1
theorem dX12_lent_220 : decode cX12_lent 220 = .ok (.aload_n 0, 1) := dGX12_636.2.2.2.2.2
theorem dGX12_637 : decode cX12_lent 221 = .ok (.getfield 182, 3) ∧ decode cX12_lent 224 = .ok (.if_icmp .ge 110, 3) ∧ decode cX12_lent 227 = .ok (.bipush 8, 2) ∧ decode cX12_lent 229 = .ok (.istore 6, 2) ∧ decode cX12_lent 231 = .ok (.aload_n 0, 1) ∧ decode cX12_lent 232 = .ok (.getfield 179, 3) := by decide +kernel
theorem dX12_lent_221 : decode cX12_lent 221 = .ok (.getfield 182, 3) := dGX12_637.1
theorem dX12_lent_224 : decode cX12_lent 224 = .ok (.if_icmp .ge 110, 3) := dGX12_637.2.1
theorem dX12_lent_227 : decode cX12_lent 227 = .ok (.bipush 8, 2) := dGX12_637.2.2.1
theorem dX12_lent_229 : decode cX12_lent 229 = .ok (.istore 6, 2) := dGX12_637.2.2.2.1
theorem dX12_lent_231 : decode cX12_lent 231 = .ok (.aload_n 0, 1) := dGX12_637.2.2.2.2.1
theorem dX12_lent_232 : decode cX12_lent 232 = .ok (.getfield 179, 3) := dGX12_637.2.2.2.2.2
theorem dGX12_638 : decode cX12_lent 235 = .ok (.iconst 1, 1) ∧ decode cX12_lent 236 = .ok (.isub, 1) ∧ decode cX12_lent 237 = .ok (.istore 7, 2) ∧ decode cX12_lent 239 = .ok (.iload 7, 2) ∧ decode cX12_lent 241 = .ok (.ifCond .lt 59, 3) ∧ decode cX12_lent 244 = .ok (.iload_n 3, 1) := by decide +kernel
theorem dX12_lent_235 : decode cX12_lent 235 = .ok (.iconst 1, 1) := dGX12_638.1
theorem dX12_lent_236 : decode cX12_lent 236 = .ok (.isub, 1) := dGX12_638.2.1
theorem dX12_lent_237 : decode cX12_lent 237 = .ok (.istore 7, 2) := dGX12_638.2.2.1
theorem dX12_lent_239 : decode cX12_lent 239 = .ok (.iload 7, 2) := dGX12_638.2.2.2.1
theorem dX12_lent_241 : decode cX12_lent 241 = .ok (.ifCond .lt 59, 3) := dGX12_638.2.2.2.2.1
theorem dX12_lent_244 : decode cX12_lent 244 = .ok (.iload_n 3, 1) := dGX12_638.2.2.2.2.2
theorem dGX12_639 : decode cX12_lent 245 = .ok (.iload 7, 2) ∧ decode cX12_lent 247 = .ok (.invokestatic 362, 3) ∧ decode cX12_lent 250 = .ok (.ifCond .ne 44, 3) ∧ decode cX12_lent 253 = .ok (.aload_n 0, 1) ∧ decode cX12_lent 254 = .ok (.iload 5, 2) ∧ decode cX12_lent 256 = .ok (.iload 7, 2) := by decide +kernel
theorem dX12_lent_245 : decode cX12_lent 245 = .ok (.iload 7, 2) := dGX12_639.1
theorem dX12_lent_247 : decode cX12_lent 247 = .ok (.invokestatic 362, 3) := dGX12_639.2.1
theorem dX12_lent_250 : decode cX12_lent 250 = .ok (.ifCond .ne 44, 3) := dGX12_639.2.2.1
theorem dX12_lent_253 : decode cX12_lent 253 = .ok (.aload_n 0, 1) := dGX12_639.2.2.2.1
theorem dX12_lent_254 : decode cX12_lent 254 = .ok (.iload 5, 2) := dGX12_639.2.2.2.2.1
theorem dX12_lent_256 : decode cX12_lent 256 = .ok (.iload 7, 2) := dGX12_639.2.2.2.2.2
theorem dGX12_640 : decode cX12_lent 258 = .ok (.iload_n 1, 1) ∧ decode cX12_lent 259 = .ok (.invokevirtual 470, 3) ∧ decode cX12_lent 262 = .ok (.ifCond .eq 32, 3) ∧ decode cX12_lent 265 = .ok (.aload_n 0, 1) ∧ decode cX12_lent 266 = .ok (.iload 5, 2) ∧ decode cX12_lent 268 = .ok (.iload 7, 2) := by decide +kernel
theorem dX12_lent_258 : decode cX12_lent 258 = .ok (.iload_n 1, 1) := dGX12_640.1
theorem dX12_lent_259 : decode cX12_lent 259 = .ok (.invokevirtual 470, 3) := dGX12_640.2.1
theorem dX12_lent_262 : decode cX12_lent 262 = .ok (.ifCond .eq 32, 3) := dGX12_640.2.2.1
theorem dX12_lent_265 : decode cX12_lent 265 = .ok (.aload_n 0, 1) := dGX12_640.2.2.2.1
theorem dX12_lent_266 : decode cX12_lent 266 = .ok (.iload 5, 2) := dGX12_640.2.2.2.2.1
theorem dX12_lent_268 : decode cX12_lent 268 = .ok (.iload 7, 2) := dGX12_640.2.2.2.2.2
theorem dGX12_641 : decode cX12_lent 270 = .ok (.iload_n 3, 1) ∧ decode cX12_lent 271 = .ok (.invokevirtual 474, 3) ∧ decode cX12_lent 274 = .ok (.aload_n 0, 1) ∧ decode cX12_lent 275 = .ok (.getfield 160, 3) ∧ decode cX12_lent 278 = .ok (.sipush 256, 3) ∧ decode cX12_lent 281 = .ok (.iload 5, 2) := by decide +kernel
theorem dX12_lent_270 : decode cX12_lent 270 = .ok (.iload_n 3, 1) := dGX12_641.1
theorem dX12_lent_271 : decode cX12_lent 271 = .ok (.invokevirtual 474, 3) := dGX12_641.2.1
theorem dX12_lent_274 : decode cX12_lent 274 = .ok (.aload_n 0, 1) := dGX12_641.2.2.1
theorem dX12_lent_275 : decode cX12_lent 275 = .ok (.getfield 160, 3) := dGX12_641.2.2.2.1
theorem dX12_lent_278 : decode cX12_lent 278 = .ok (.sipush 256, 3) := dGX12_641.2.2.2.2.1
theorem dX12_lent_281 : decode cX12_lent 281 = .ok (.iload 5, 2) := dGX12_641.2.2.2.2.2
theorem dGX12_642 : decode cX12_lent 283 = .ok (.imul, 1) ∧ decode cX12_lent 284 = .ok (.iload_n 3, 1) ∧ decode cX12_lent 285 = .ok (.iadd, 1) ∧ decode cX12_lent 286 = .ok (.iaload, 1) ∧ decode cX12_lent 287 = .ok (.if_icmp .ne 7, 3) ∧ decode cX12_lent 290 = .ok (.iload 7, 2) := by decide +kernel
theorem dX12_lent_283 : decode cX12_lent 283 = .ok (.imul, 1) := dGX12_642.1
theorem dX12_lent_284 : decode cX12_lent 284 = .ok (.iload_n 3, 1) := dGX12_642.2.1
theorem dX12_lent_285 : decode cX12_lent 285 = .ok (.iadd, 1) := dGX12_642.2.2.1
theorem dX12_lent_286 : decode cX12_lent 286 = .ok (.iaload, 1) := dGX12_642.2.2.2.1
theorem dX12_lent_287 : decode cX12_lent 287 = .ok (.if_icmp .ne 7, 3) := dGX12_642.2.2.2.2.1
theorem dX12_lent_290 : decode cX12_lent 290 = .ok (.iload 7, 2) := dGX12_642.2.2.2.2.2
theorem dGX12_643 : decode cX12_lent 292 = .ok (.istore 6, 2) ∧ decode cX12_lent 294 = .ok (.iinc 7 (-1), 3) ∧ decode cX12_lent 297 = .ok (.goto (-58), 3) ∧ decode cX12_lent 300 = .ok (.iload 5, 2) ∧ decode cX12_lent 302 = .ok (.iload_n 2, 1) ∧ decode cX12_lent 303 = .ok (.if_icmp .ne 7, 3) := by decide +kernel
theorem dX12_lent_292 : decode cX12_lent 292 = .ok (.istore 6, 2) := dGX12_643.1
theorem dX12_lent_294 : decode cX12_lent 294 = .ok (.iinc 7 (-1), 3) := dGX12_643.2.1
theorem dX12_lent_297 : decode cX12_lent 297 = .ok (.goto (-58), 3) := dGX12_643.2.2.1
theorem dX12_lent_300 : decode cX12_lent 300 = .ok (.iload 5, 2) := dGX12_643.2.2.2.1
theorem dX12_lent_302 : decode cX12_lent 302 = .ok (.iload_n 2, 1) := dGX12_643.2.2.2.2.1
theorem dX12_lent_303 : decode cX12_lent 303 = .ok (.if_icmp .ne 7, 3) := dGX12_643.2.2.2.2.2
theorem dGX12_644 : decode cX12_lent 306 = .ok (.iload 6, 2) ∧ decode cX12_lent 308 = .ok (.istore 4, 2) ∧ decode cX12_lent 310 = .ok (.iload_n 3, 1) ∧ decode cX12_lent 311 = .ok (.iload 6, 2) ∧ decode cX12_lent 313 = .ok (.bipush 8, 2) ∧ decode cX12_lent 315 = .ok (.if_icmp .ge 10, 3) := by decide +kernel
theorem dX12_lent_306 : decode cX12_lent 306 = .ok (.iload 6, 2) := dGX12_644.1
theorem dX12_lent_308 : decode cX12_lent 308 = .ok (.istore 4, 2) := dGX12_644.2.1
theorem dX12_lent_310 : decode cX12_lent 310 = .ok (.iload_n 3, 1) := dGX12_644.2.2.1
theorem dX12_lent_311 : decode cX12_lent 311 = .ok (.iload 6, 2) := dGX12_644.2.2.2.1
theorem dX12_lent_313 : decode cX12_lent 313 = .ok (.bipush 8, 2) := dGX12_644.2.2.2.2.1
theorem dX12_lent_315 : decode cX12_lent 315 = .ok (.if_icmp .ge 10, 3) := dGX12_644.2.2.2.2.2
theorem dGX12_645 : decode cX12_lent 318 = .ok (.iconst 1, 1) ∧ decode cX12_lent 319 = .ok (.iload 6, 2) ∧ decode cX12_lent 321 = .ok (.ishl, 1) ∧ decode cX12_lent 322 = .ok (.goto 4, 3) ∧ decode cX12_lent 325 = .ok (.iconst 0, 1) ∧ decode cX12_lent 326 = .ok (.ior, 1) := by decide +kernel
theorem dX12_lent_318 : decode cX12_lent 318 = .ok (.iconst 1, 1) := dGX12_645.1
theorem dX12_lent_319 : decode cX12_lent 319 = .ok (.iload 6, 2) := dGX12_645.2.1
theorem dX12_lent_321 : decode cX12_lent 321 = .ok (.ishl, 1) := dGX12_645.2.2.1
theorem dX12_lent_322 : decode cX12_lent 322 = .ok (.goto 4, 3) := dGX12_645.2.2.2.1
theorem dX12_lent_325 : decode cX12_lent 325 = .ok (.iconst 0, 1) := dGX12_645.2.2.2.2.1
theorem dX12_lent_326 : decode cX12_lent 326 = .ok (.ior, 1) := dGX12_645.2.2.2.2.2
theorem dGX12_646 : decode cX12_lent 327 = .ok (.istore_n 3, 1) ∧ decode cX12_lent 328 = .ok (.iinc 5 1, 3) ∧ decode cX12_lent 331 = .ok (.goto (-113), 3) ∧ decode cX12_lent 334 = .ok (.iload_n 2, 1) ∧ decode cX12_lent 335 = .ok (.bipush 11, 2) ∧ decode cX12_lent 337 = .ok (.if_icmp .eq 6, 3) := by decide +kernel
theorem dX12_lent_327 : decode cX12_lent 327 = .ok (.istore_n 3, 1) := dGX12_646.1
theorem dX12_lent_328 : decode cX12_lent 328 = .ok (.iinc 5 1, 3) := dGX12_646.2.1
theorem dX12_lent_331 : decode cX12_lent 331 = .ok (.goto (-113), 3) := dGX12_646.2.2.1
theorem dX12_lent_334 : decode cX12_lent 334 = .ok (.iload_n 2, 1) := dGX12_646.2.2.2.1
theorem dX12_lent_335 : decode cX12_lent 335 = .ok (.bipush 11, 2) := dGX12_646.2.2.2.2.1
theorem dX12_lent_337 : decode cX12_lent 337 = .ok (.if_icmp .eq 6, 3) := dGX12_646.2.2.2.2.2
theorem dGX12_647 : decode cX12_lent 340 = .ok (.iload 4, 2) ∧ decode cX12_lent 342 = .ok (.ireturn, 1) ∧ decode cX12_lent 343 = .ok (.iconst 0, 1) ∧ decode cX12_lent 344 = .ok (.istore 5, 2) ∧ decode cX12_lent 346 = .ok (.iload 5, 2) ∧ decode cX12_lent 348 = .ok (.aload_n 0, 1) := by decide +kernel
theorem dX12_lent_340 : decode cX12_lent 340 = .ok (.iload 4, 2) := dGX12_647.1
theorem dX12_lent_342 : decode cX12_lent 342 = .ok (.ireturn, 1) := dGX12_647.2.1
theorem dX12_lent_343 : decode cX12_lent 343 = .ok (.iconst 0, 1) := dGX12_647.2.2.1
theorem dX12_lent_344 : decode cX12_lent 344 = .ok (.istore 5, 2) := dGX12_647.2.2.2.1
theorem dX12_lent_346 : decode cX12_lent 346 = .ok (.iload 5, 2) := dGX12_647.2.2.2.2.1
theorem dX12_lent_348 : decode cX12_lent 348 = .ok (.aload_n 0, 1) := dGX12_647.2.2.2.2.2
theorem dGX12_648 : decode cX12_lent 349 = .ok (.getfield 179, 3) ∧ decode cX12_lent 352 = .ok (.if_icmp .ge 26, 3) ∧ decode cX12_lent 355 = .ok (.iload_n 3, 1) ∧ decode cX12_lent 356 = .ok (.iload 5, 2) ∧ decode cX12_lent 358 = .ok (.invokestatic 362, 3) ∧ decode cX12_lent 361 = .ok (.ifCond .eq 11, 3) := by decide +kernel
theorem dX12_lent_349 : decode cX12_lent 349 = .ok (.getfield 179, 3) := dGX12_648.1
theorem dX12_lent_352 : decode cX12_lent 352 = .ok (.if_icmp .ge 26, 3) := dGX12_648.2.1
theorem dX12_lent_355 : decode cX12_lent 355 = .ok (.iload_n 3, 1) := dGX12_648.2.2.1
theorem dX12_lent_356 : decode cX12_lent 356 = .ok (.iload 5, 2) := dGX12_648.2.2.2.1
theorem dX12_lent_358 : decode cX12_lent 358 = .ok (.invokestatic 362, 3) := dGX12_648.2.2.2.2.1
theorem dX12_lent_361 : decode cX12_lent 361 = .ok (.ifCond .eq 11, 3) := dGX12_648.2.2.2.2.2
theorem dGX12_649 : decode cX12_lent 364 = .ok (.aload_n 0, 1) ∧ decode cX12_lent 365 = .ok (.getfield 36, 3) ∧ decode cX12_lent 368 = .ok (.iload 5, 2) ∧ decode cX12_lent 370 = .ok (.iconst 1, 1) ∧ decode cX12_lent 371 = .ok (.bastore, 1) ∧ decode cX12_lent 372 = .ok (.iinc 5 1, 3) := by decide +kernel
theorem dX12_lent_364 : decode cX12_lent 364 = .ok (.aload_n 0, 1) := dGX12_649.1
theorem dX12_lent_365 : decode cX12_lent 365 = .ok (.getfield 36, 3) := dGX12_649.2.1
theorem dX12_lent_368 : decode cX12_lent 368 = .ok (.iload 5, 2) := dGX12_649.2.2.1
theorem dX12_lent_370 : decode cX12_lent 370 = .ok (.iconst 1, 1) := dGX12_649.2.2.2.1
theorem dX12_lent_371 : decode cX12_lent 371 = .ok (.bastore, 1) := dGX12_649.2.2.2.2.1
theorem dX12_lent_372 : decode cX12_lent 372 = .ok (.iinc 5 1, 3) := dGX12_649.2.2.2.2.2
theorem dGX12_650 : decode cX12_lent 375 = .ok (.goto (-29), 3) ∧ decode cX12_lent 378 = .ok (.iload_n 3, 1) ∧ decode cX12_lent 379 = .ok (.invokestatic 450, 3) ∧ decode cX12_lent 382 = .ok (.ireturn, 1) ∧ decode cX12_isAsTold 0 = .ok (.iconst 1, 1) ∧ decode cX12_isAsTold 1 = .ok (.istore_n 2, 1) := by decide +kernel
theorem dX12_lent_375 : decode cX12_lent 375 = .ok (.goto (-29), 3) := dGX12_650.1
theorem dX12_lent_378 : decode cX12_lent 378 = .ok (.iload_n 3, 1) := dGX12_650.2.1
theorem dX12_lent_379 : decode cX12_lent 379 = .ok (.invokestatic 450, 3) := dGX12_650.2.2.1
theorem dX12_lent_382 : decode cX12_lent 382 = .ok (.ireturn, 1) := dGX12_650.2.2.2.1
theorem dX12_isAsTold_0 : decode cX12_isAsTold 0 = .ok (.iconst 1, 1) := dGX12_650.2.2.2.2.1
theorem dX12_isAsTold_1 : decode cX12_isAsTold 1 = .ok (.istore_n 2, 1) := dGX12_650.2.2.2.2.2
theorem dGX12_651 : decode cX12_isAsTold 2 = .ok (.aload_n 0, 1) ∧ decode cX12_isAsTold 3 = .ok (.iload_n 1, 1) ∧ decode cX12_isAsTold 4 = .ok (.invokevirtual 401, 3) ∧ decode cX12_isAsTold 7 = .ok (.iconst 0, 1) ∧ decode cX12_isAsTold 8 = .ok (.istore_n 3, 1) ∧ decode cX12_isAsTold 9 = .ok (.iload_n 3, 1) := by decide +kernel
theorem dX12_isAsTold_2 : decode cX12_isAsTold 2 = .ok (.aload_n 0, 1) := dGX12_651.1
theorem dX12_isAsTold_3 : decode cX12_isAsTold 3 = .ok (.iload_n 1, 1) := dGX12_651.2.1
theorem dX12_isAsTold_4 : decode cX12_isAsTold 4 = .ok (.invokevirtual 401, 3) := dGX12_651.2.2.1
theorem dX12_isAsTold_7 : decode cX12_isAsTold 7 = .ok (.iconst 0, 1) := dGX12_651.2.2.2.1
theorem dX12_isAsTold_8 : decode cX12_isAsTold 8 = .ok (.istore_n 3, 1) := dGX12_651.2.2.2.2.1
theorem dX12_isAsTold_9 : decode cX12_isAsTold 9 = .ok (.iload_n 3, 1) := dGX12_651.2.2.2.2.2
theorem dGX12_652 : decode cX12_isAsTold 10 = .ok (.aload_n 0, 1) ∧ decode cX12_isAsTold 11 = .ok (.getfield 182, 3) ∧ decode cX12_isAsTold 14 = .ok (.if_icmp .ge 40, 3) ∧ decode cX12_isAsTold 17 = .ok (.iload_n 2, 1) ∧ decode cX12_isAsTold 18 = .ok (.ifCond .eq 28, 3) ∧ decode cX12_isAsTold 21 = .ok (.aload_n 0, 1) := by decide +kernel
theorem dX12_isAsTold_10 : decode cX12_isAsTold 10 = .ok (.aload_n 0, 1) := dGX12_652.1
theorem dX12_isAsTold_11 : decode cX12_isAsTold 11 = .ok (.getfield 182, 3) := dGX12_652.2.1
theorem dX12_isAsTold_14 : decode cX12_isAsTold 14 = .ok (.if_icmp .ge 40, 3) := dGX12_652.2.2.1
theorem dX12_isAsTold_17 : decode cX12_isAsTold 17 = .ok (.iload_n 2, 1) := dGX12_652.2.2.2.1
theorem dX12_isAsTold_18 : decode cX12_isAsTold 18 = .ok (.ifCond .eq 28, 3) := dGX12_652.2.2.2.2.1
theorem dX12_isAsTold_21 : decode cX12_isAsTold 21 = .ok (.aload_n 0, 1) := dGX12_652.2.2.2.2.2
theorem dGX12_653 : decode cX12_isAsTold 22 = .ok (.getfield 52, 3) ∧ decode cX12_isAsTold 25 = .ok (.iload_n 3, 1) ∧ decode cX12_isAsTold 26 = .ok (.iaload, 1) ∧ decode cX12_isAsTold 27 = .ok (.aload_n 0, 1) ∧ decode cX12_isAsTold 28 = .ok (.getfield 142, 3) ∧ decode cX12_isAsTold 31 = .ok (.iload_n 3, 1) := by decide +kernel
theorem dX12_isAsTold_22 : decode cX12_isAsTold 22 = .ok (.getfield 52, 3) := dGX12_653.1
theorem dX12_isAsTold_25 : decode cX12_isAsTold 25 = .ok (.iload_n 3, 1) := dGX12_653.2.1
theorem dX12_isAsTold_26 : decode cX12_isAsTold 26 = .ok (.iaload, 1) := dGX12_653.2.2.1
theorem dX12_isAsTold_27 : decode cX12_isAsTold 27 = .ok (.aload_n 0, 1) := dGX12_653.2.2.2.1
theorem dX12_isAsTold_28 : decode cX12_isAsTold 28 = .ok (.getfield 142, 3) := dGX12_653.2.2.2.2.1
theorem dX12_isAsTold_31 : decode cX12_isAsTold 31 = .ok (.iload_n 3, 1) := dGX12_653.2.2.2.2.2
theorem dGX12_654 : decode cX12_isAsTold 32 = .ok (.iaload, 1) ∧ decode cX12_isAsTold 33 = .ok (.isub, 1) ∧ decode cX12_isAsTold 34 = .ok (.aload_n 0, 1) ∧ decode cX12_isAsTold 35 = .ok (.iload_n 3, 1) ∧ decode cX12_isAsTold 36 = .ok (.invokevirtual 477, 3) ∧ decode cX12_isAsTold 39 = .ok (.if_icmp .ne 7, 3) := by decide +kernel
theorem dX12_isAsTold_32 : decode cX12_isAsTold 32 = .ok (.iaload, 1) := dGX12_654.1
theorem dX12_isAsTold_33 : decode cX12_isAsTold 33 = .ok (.isub, 1) := dGX12_654.2.1
theorem dX12_isAsTold_34 : decode cX12_isAsTold 34 = .ok (.aload_n 0, 1) := dGX12_654.2.2.1
theorem dX12_isAsTold_35 : decode cX12_isAsTold 35 = .ok (.iload_n 3, 1) := dGX12_654.2.2.2.1
theorem dX12_isAsTold_36 : decode cX12_isAsTold 36 = .ok (.invokevirtual 477, 3) := dGX12_654.2.2.2.2.1
theorem dX12_isAsTold_39 : decode cX12_isAsTold 39 = .ok (.if_icmp .ne 7, 3) := dGX12_654.2.2.2.2.2
theorem dGX12_655 : decode cX12_isAsTold 42 = .ok (.iconst 1, 1) ∧ decode cX12_isAsTold 43 = .ok (.goto 4, 3) ∧ decode cX12_isAsTold 46 = .ok (.iconst 0, 1) ∧ decode cX12_isAsTold 47 = .ok (.istore_n 2, 1) ∧ decode cX12_isAsTold 48 = .ok (.iinc 3 1, 3) ∧ decode cX12_isAsTold 51 = .ok (.goto (-42), 3) := by decide +kernel
theorem dX12_isAsTold_42 : decode cX12_isAsTold 42 = .ok (.iconst 1, 1) := dGX12_655.1
theorem dX12_isAsTold_43 : decode cX12_isAsTold 43 = .ok (.goto 4, 3) := dGX12_655.2.1
theorem dX12_isAsTold_46 : decode cX12_isAsTold 46 = .ok (.iconst 0, 1) := dGX12_655.2.2.1
theorem dX12_isAsTold_47 : decode cX12_isAsTold 47 = .ok (.istore_n 2, 1) := dGX12_655.2.2.2.1
theorem dX12_isAsTold_48 : decode cX12_isAsTold 48 = .ok (.iinc 3 1, 3) := dGX12_655.2.2.2.2.1
theorem dX12_isAsTold_51 : decode cX12_isAsTold 51 = .ok (.goto (-42), 3) := dGX12_655.2.2.2.2.2
theorem dGX12_656 : decode cX12_isAsTold 54 = .ok (.iload_n 2, 1) ∧ decode cX12_isAsTold 55 = .ok (.ireturn, 1) ∧ decode cX12_letGo 0 = .ok (.aload_n 0, 1) ∧ decode cX12_letGo 1 = .ok (.iload_n 1, 1) ∧ decode cX12_letGo 2 = .ok (.invokevirtual 195, 3) ∧ decode cX12_letGo 5 = .ok (.ifCond .eq 45, 3) := by decide +kernel
theorem dX12_isAsTold_54 : decode cX12_isAsTold 54 = .ok (.iload_n 2, 1) := dGX12_656.1
theorem dX12_isAsTold_55 : decode cX12_isAsTold 55 = .ok (.ireturn, 1) := dGX12_656.2.1
theorem dX12_letGo_0 : decode cX12_letGo 0 = .ok (.aload_n 0, 1) := dGX12_656.2.2.1
theorem dX12_letGo_1 : decode cX12_letGo 1 = .ok (.iload_n 1, 1) := dGX12_656.2.2.2.1
theorem dX12_letGo_2 : decode cX12_letGo 2 = .ok (.invokevirtual 195, 3) := dGX12_656.2.2.2.2.1
theorem dX12_letGo_5 : decode cX12_letGo 5 = .ok (.ifCond .eq 45, 3) := dGX12_656.2.2.2.2.2
theorem dGX12_657 : decode cX12_letGo 8 = .ok (.iload_n 2, 1) ∧ decode cX12_letGo 9 = .ok (.i2l, 1) ∧ decode cX12_letGo 10 = .ok (.lconst 1, 1) ∧ decode cX12_letGo 11 = .ok (.ldc2_w 480, 3) ∧ decode cX12_letGo 14 = .ok (.invokestatic 175, 3) ∧ decode cX12_letGo 17 = .ok (.ifCond .eq 33, 3) := by decide +kernel
theorem dX12_letGo_8 : decode cX12_letGo 8 = .ok (.iload_n 2, 1) := dGX12_657.1
theorem dX12_letGo_9 : decode cX12_letGo 9 = .ok (.i2l, 1) := dGX12_657.2.1
theorem dX12_letGo_10 : decode cX12_letGo 10 = .ok (.lconst 1, 1) := dGX12_657.2.2.1
theorem dX12_letGo_11 : decode cX12_letGo 11 = .ok (.ldc2_w 480, 3) := dGX12_657.2.2.2.1
theorem dX12_letGo_14 : decode cX12_letGo 14 = .ok (.invokestatic 175, 3) := dGX12_657.2.2.2.2.1
theorem dX12_letGo_17 : decode cX12_letGo 17 = .ok (.ifCond .eq 33, 3) := dGX12_657.2.2.2.2.2
theorem dGX12_658 : decode cX12_letGo 20 = .ok (.iload_n 3, 1) ∧ decode cX12_letGo 21 = .ok (.i2l, 1) ∧ decode cX12_letGo 22 = .ok (.ldc2_w 482, 3) ∧ decode cX12_letGo 25 = .ok (.lconst 1, 1) ∧ decode cX12_letGo 26 = .ok (.invokestatic 175, 3) ∧ decode cX12_letGo 29 = .ok (.ifCond .eq 21, 3) := by decide +kernel
theorem dX12_letGo_20 : decode cX12_letGo 20 = .ok (.iload_n 3, 1) := dGX12_658.1
theorem dX12_letGo_21 : decode cX12_letGo 21 = .ok (.i2l, 1) := dGX12_658.2.1
theorem dX12_letGo_22 : decode cX12_letGo 22 = .ok (.ldc2_w 482, 3) := dGX12_658.2.2.1
theorem dX12_letGo_25 : decode cX12_letGo 25 = .ok (.lconst 1, 1) := dGX12_658.2.2.2.1
theorem dX12_letGo_26 : decode cX12_letGo 26 = .ok (.invokestatic 175, 3) := dGX12_658.2.2.2.2.1
theorem dX12_letGo_29 : decode cX12_letGo 29 = .ok (.ifCond .eq 21, 3) := dGX12_658.2.2.2.2.2
theorem dGX12_659 : decode cX12_letGo 32 = .ok (.aload_n 0, 1) ∧ decode cX12_letGo 33 = .ok (.getfield 182, 3) ∧ decode cX12_letGo 36 = .ok (.ifCond .eq 14, 3) ∧ decode cX12_letGo 39 = .ok (.aload_n 0, 1) ∧ decode cX12_letGo 40 = .ok (.getfield 182, 3) ∧ decode cX12_letGo 43 = .ok (.aload_n 0, 1) := by decide +kernel
theorem dX12_letGo_32 : decode cX12_letGo 32 = .ok (.aload_n 0, 1) := dGX12_659.1
theorem dX12_letGo_33 : decode cX12_letGo 33 = .ok (.getfield 182, 3) := dGX12_659.2.1
theorem dX12_letGo_36 : decode cX12_letGo 36 = .ok (.ifCond .eq 14, 3) := dGX12_659.2.2.1
theorem dX12_letGo_39 : decode cX12_letGo 39 = .ok (.aload_n 0, 1) := dGX12_659.2.2.2.1
theorem dX12_letGo_40 : decode cX12_letGo 40 = .ok (.getfield 182, 3) := dGX12_659.2.2.2.2.1
theorem dX12_letGo_43 : decode cX12_letGo 43 = .ok (.aload_n 0, 1) := dGX12_659.2.2.2.2.2
theorem dGX12_660 : decode cX12_letGo 44 = .ok (.getfield 204, 3) ∧ decode cX12_letGo 47 = .ok (.if_icmp .le 5, 3) ∧ decode cX12_letGo 50 = .ok (.iconst (-1), 1) ∧ decode cX12_letGo 51 = .ok (.ireturn, 1) ∧ decode cX12_letGo 52 = .ok (.aload_n 0, 1) ∧ decode cX12_letGo 53 = .ok (.iconst 0, 1) := by decide +kernel
theorem dX12_letGo_44 : decode cX12_letGo 44 = .ok (.getfield 204, 3) := dGX12_660.1
theorem dX12_letGo_47 : decode cX12_letGo 47 = .ok (.if_icmp .le 5, 3) := dGX12_660.2.1
theorem dX12_letGo_50 : decode cX12_letGo 50 = .ok (.iconst (-1), 1) := dGX12_660.2.2.1
theorem dX12_letGo_51 : decode cX12_letGo 51 = .ok (.ireturn, 1) := dGX12_660.2.2.2.1
theorem dX12_letGo_52 : decode cX12_letGo 52 = .ok (.aload_n 0, 1) := dGX12_660.2.2.2.2.1
theorem dX12_letGo_53 : decode cX12_letGo 53 = .ok (.iconst 0, 1) := dGX12_660.2.2.2.2.2
theorem dGX12_661 : decode cX12_letGo 54 = .ok (.putfield 204, 3) ∧ decode cX12_letGo 57 = .ok (.iconst 0, 1) ∧ decode cX12_letGo 58 = .ok (.istore 4, 2) ∧ decode cX12_letGo 60 = .ok (.bipush (-2), 2) ∧ decode cX12_letGo 62 = .ok (.istore 5, 2) ∧ decode cX12_letGo 64 = .ok (.iconst 0, 1) := by decide +kernel
theorem dX12_letGo_54 : decode cX12_letGo 54 = .ok (.putfield 204, 3) := dGX12_661.1
theorem dX12_letGo_57 : decode cX12_letGo 57 = .ok (.iconst 0, 1) := dGX12_661.2.1
theorem dX12_letGo_58 : decode cX12_letGo 58 = .ok (.istore 4, 2) := dGX12_661.2.2.1
theorem dX12_letGo_60 : decode cX12_letGo 60 = .ok (.bipush (-2), 2) := dGX12_661.2.2.2.1
theorem dX12_letGo_62 : decode cX12_letGo 62 = .ok (.istore 5, 2) := dGX12_661.2.2.2.2.1
theorem dX12_letGo_64 : decode cX12_letGo 64 = .ok (.iconst 0, 1) := dGX12_661.2.2.2.2.2
theorem dGX12_662 : decode cX12_letGo 65 = .ok (.istore 6, 2) ∧ decode cX12_letGo 67 = .ok (.iload 6, 2) ∧ decode cX12_letGo 69 = .ok (.bipush 10, 2) ∧ decode cX12_letGo 71 = .ok (.if_icmp .ge 122, 3) ∧ decode cX12_letGo 74 = .ok (.iconst 0, 1) ∧ decode cX12_letGo 75 = .ok (.istore 7, 2) := by decide +kernel
theorem dX12_letGo_65 : decode cX12_letGo 65 = .ok (.istore 6, 2) := dGX12_662.1
theorem dX12_letGo_67 : decode cX12_letGo 67 = .ok (.iload 6, 2) := dGX12_662.2.1
theorem dX12_letGo_69 : decode cX12_letGo 69 = .ok (.bipush 10, 2) := dGX12_662.2.2.1
theorem dX12_letGo_71 : decode cX12_letGo 71 = .ok (.if_icmp .ge 122, 3) := dGX12_662.2.2.2.1
theorem dX12_letGo_74 : decode cX12_letGo 74 = .ok (.iconst 0, 1) := dGX12_662.2.2.2.2.1
theorem dX12_letGo_75 : decode cX12_letGo 75 = .ok (.istore 7, 2) := dGX12_662.2.2.2.2.2
theorem dGX12_663 : decode cX12_letGo 77 = .ok (.iload 7, 2) ∧ decode cX12_letGo 79 = .ok (.aload_n 0, 1) ∧ decode cX12_letGo 80 = .ok (.getfield 172, 3) ∧ decode cX12_letGo 83 = .ok (.if_icmp .gt 104, 3) ∧ decode cX12_letGo 86 = .ok (.aload_n 0, 1) ∧ decode cX12_letGo 87 = .ok (.iconst 0, 1) := by decide +kernel
theorem dX12_letGo_77 : decode cX12_letGo 77 = .ok (.iload 7, 2) := dGX12_663.1
theorem dX12_letGo_79 : decode cX12_letGo 79 = .ok (.aload_n 0, 1) := dGX12_663.2.1
theorem dX12_letGo_80 : decode cX12_letGo 80 = .ok (.getfield 172, 3) := dGX12_663.2.2.1
theorem dX12_letGo_83 : decode cX12_letGo 83 = .ok (.if_icmp .gt 104, 3) := dGX12_663.2.2.2.1
theorem dX12_letGo_86 : decode cX12_letGo 86 = .ok (.aload_n 0, 1) := dGX12_663.2.2.2.2.1
theorem dX12_letGo_87 : decode cX12_letGo 87 = .ok (.iconst 0, 1) := dGX12_663.2.2.2.2.2
theorem dGX12_664 : decode cX12_letGo 88 = .ok (.invokevirtual 419, 3) ∧ decode cX12_letGo 91 = .ok (.aload_n 0, 1) ∧ decode cX12_letGo 92 = .ok (.getfield 30, 3) ∧ decode cX12_letGo 95 = .ok (.iload_n 1, 1) ∧ decode cX12_letGo 96 = .ok (.iload 6, 2) ∧ decode cX12_letGo 98 = .ok (.iastore, 1) := by decide +kernel
theorem dX12_letGo_88 : decode cX12_letGo 88 = .ok (.invokevirtual 419, 3) := dGX12_664.1
theorem dX12_letGo_91 : decode cX12_letGo 91 = .ok (.aload_n 0, 1) := dGX12_664.2.1
theorem dX12_letGo_92 : decode cX12_letGo 92 = .ok (.getfield 30, 3) := dGX12_664.2.2.1
theorem dX12_letGo_95 : decode cX12_letGo 95 = .ok (.iload_n 1, 1) := dGX12_664.2.2.2.1
theorem dX12_letGo_96 : decode cX12_letGo 96 = .ok (.iload 6, 2) := dGX12_664.2.2.2.2.1
theorem dX12_letGo_98 : decode cX12_letGo 98 = .ok (.iastore, 1) := dGX12_664.2.2.2.2.2
theorem dGX12_665 : decode cX12_letGo 99 = .ok (.aload_n 0, 1) ∧ decode cX12_letGo 100 = .ok (.getfield 27, 3) ∧ decode cX12_letGo 103 = .ok (.iload_n 1, 1) ∧ decode cX12_letGo 104 = .ok (.iload 7, 2) ∧ decode cX12_letGo 106 = .ok (.aload_n 0, 1) ∧ decode cX12_letGo 107 = .ok (.getfield 172, 3) := by decide +kernel
theorem dX12_letGo_99 : decode cX12_letGo 99 = .ok (.aload_n 0, 1) := dGX12_665.1
theorem dX12_letGo_100 : decode cX12_letGo 100 = .ok (.getfield 27, 3) := dGX12_665.2.1
theorem dX12_letGo_103 : decode cX12_letGo 103 = .ok (.iload_n 1, 1) := dGX12_665.2.2.1
theorem dX12_letGo_104 : decode cX12_letGo 104 = .ok (.iload 7, 2) := dGX12_665.2.2.2.1
theorem dX12_letGo_106 : decode cX12_letGo 106 = .ok (.aload_n 0, 1) := dGX12_665.2.2.2.2.1
theorem dX12_letGo_107 : decode cX12_letGo 107 = .ok (.getfield 172, 3) := dGX12_665.2.2.2.2.2
theorem dGX12_666 : decode cX12_letGo 110 = .ok (.if_icmp .ne 8, 3) ∧ decode cX12_letGo 113 = .ok (.bipush 10, 2) ∧ decode cX12_letGo 115 = .ok (.goto 5, 3) ∧ decode cX12_letGo 118 = .ok (.iload 7, 2) ∧ decode cX12_letGo 120 = .ok (.iastore, 1) ∧ decode cX12_letGo 121 = .ok (.aload_n 0, 1) := by decide +kernel
theorem dX12_letGo_110 : decode cX12_letGo 110 = .ok (.if_icmp .ne 8, 3) := dGX12_666.1
theorem dX12_letGo_113 : decode cX12_letGo 113 = .ok (.bipush 10, 2) := dGX12_666.2.1
theorem dX12_letGo_115 : decode cX12_letGo 115 = .ok (.goto 5, 3) := dGX12_666.2.2.1
theorem dX12_letGo_118 : decode cX12_letGo 118 = .ok (.iload 7, 2) := dGX12_666.2.2.2.1
theorem dX12_letGo_120 : decode cX12_letGo 120 = .ok (.iastore, 1) := dGX12_666.2.2.2.2.1
theorem dX12_letGo_121 : decode cX12_letGo 121 = .ok (.aload_n 0, 1) := dGX12_666.2.2.2.2.2
theorem dGX12_667 : decode cX12_letGo 122 = .ok (.iload_n 2, 1) ∧ decode cX12_letGo 123 = .ok (.invokevirtual 484, 3) ∧ decode cX12_letGo 126 = .ok (.istore 8, 2) ∧ decode cX12_letGo 128 = .ok (.aload_n 0, 1) ∧ decode cX12_letGo 129 = .ok (.iconst 0, 1) ∧ decode cX12_letGo 130 = .ok (.invokevirtual 428, 3) := by decide +kernel
theorem dX12_letGo_122 : decode cX12_letGo 122 = .ok (.iload_n 2, 1) := dGX12_667.1
theorem dX12_letGo_123 : decode cX12_letGo 123 = .ok (.invokevirtual 484, 3) := dGX12_667.2.1
theorem dX12_letGo_126 : decode cX12_letGo 126 = .ok (.istore 8, 2) := dGX12_667.2.2.1
theorem dX12_letGo_128 : decode cX12_letGo 128 = .ok (.aload_n 0, 1) := dGX12_667.2.2.2.1
theorem dX12_letGo_129 : decode cX12_letGo 129 = .ok (.iconst 0, 1) := dGX12_667.2.2.2.2.1
theorem dX12_letGo_130 : decode cX12_letGo 130 = .ok (.invokevirtual 428, 3) := dGX12_667.2.2.2.2.2
theorem dGX12_668 : decode cX12_letGo 133 = .ok (.iload 8, 2) ∧ decode cX12_letGo 135 = .ok (.ifCond .ne 6, 3) ∧ decode cX12_letGo 138 = .ok (.goto 43, 3) ∧ decode cX12_letGo 141 = .ok (.iload 4, 2) ∧ decode cX12_letGo 143 = .ok (.ifCond .ne 31, 3) ∧ decode cX12_letGo 146 = .ok (.iload_n 3, 1) := by decide +kernel
theorem dX12_letGo_133 : decode cX12_letGo 133 = .ok (.iload 8, 2) := dGX12_668.1
theorem dX12_letGo_135 : decode cX12_letGo 135 = .ok (.ifCond .ne 6, 3) := dGX12_668.2.1
theorem dX12_letGo_138 : decode cX12_letGo 138 = .ok (.goto 43, 3) := dGX12_668.2.2.1
theorem dX12_letGo_141 : decode cX12_letGo 141 = .ok (.iload 4, 2) := dGX12_668.2.2.2.1
theorem dX12_letGo_143 : decode cX12_letGo 143 = .ok (.ifCond .ne 31, 3) := dGX12_668.2.2.2.2.1
theorem dX12_letGo_146 : decode cX12_letGo 146 = .ok (.iload_n 3, 1) := dGX12_668.2.2.2.2.2
theorem dGX12_669 : decode cX12_letGo 147 = .ok (.ifCond .ne 8, 3) ∧ decode cX12_letGo 150 = .ok (.iload 6, 2) ∧ decode cX12_letGo 152 = .ok (.goto 24, 3) ∧ decode cX12_letGo 155 = .ok (.iload 7, 2) ∧ decode cX12_letGo 157 = .ok (.aload_n 0, 1) ∧ decode cX12_letGo 158 = .ok (.getfield 172, 3) := by decide +kernel
theorem dX12_letGo_147 : decode cX12_letGo 147 = .ok (.ifCond .ne 8, 3) := dGX12_669.1
theorem dX12_letGo_150 : decode cX12_letGo 150 = .ok (.iload 6, 2) := dGX12_669.2.1
theorem dX12_letGo_152 : decode cX12_letGo 152 = .ok (.goto 24, 3) := dGX12_669.2.2.1
theorem dX12_letGo_155 : decode cX12_letGo 155 = .ok (.iload 7, 2) := dGX12_669.2.2.2.1
theorem dX12_letGo_157 : decode cX12_letGo 157 = .ok (.aload_n 0, 1) := dGX12_669.2.2.2.2.1
theorem dX12_letGo_158 : decode cX12_letGo 158 = .ok (.getfield 172, 3) := dGX12_669.2.2.2.2.2
theorem dGX12_670 : decode cX12_letGo 161 = .ok (.if_icmp .ne 8, 3) ∧ decode cX12_letGo 164 = .ok (.bipush 10, 2) ∧ decode cX12_letGo 166 = .ok (.goto 10, 3) ∧ decode cX12_letGo 169 = .ok (.iload 7, 2) ∧ decode cX12_letGo 171 = .ok (.goto 5, 3) ∧ decode cX12_letGo 174 = .ok (.iload 5, 2) := by decide +kernel
theorem dX12_letGo_161 : decode cX12_letGo 161 = .ok (.if_icmp .ne 8, 3) := dGX12_670.1
theorem dX12_letGo_164 : decode cX12_letGo 164 = .ok (.bipush 10, 2) := dGX12_670.2.1
theorem dX12_letGo_166 : decode cX12_letGo 166 = .ok (.goto 10, 3) := dGX12_670.2.2.1
theorem dX12_letGo_169 : decode cX12_letGo 169 = .ok (.iload 7, 2) := dGX12_670.2.2.2.1
theorem dX12_letGo_171 : decode cX12_letGo 171 = .ok (.goto 5, 3) := dGX12_670.2.2.2.2.1
theorem dX12_letGo_174 : decode cX12_letGo 174 = .ok (.iload 5, 2) := dGX12_670.2.2.2.2.2
theorem dGX12_671 : decode cX12_letGo 176 = .ok (.istore 5, 2) ∧ decode cX12_letGo 178 = .ok (.iinc 4 1, 3) ∧ decode cX12_letGo 181 = .ok (.iinc 7 1, 3) ∧ decode cX12_letGo 184 = .ok (.goto (-107), 3) ∧ decode cX12_letGo 187 = .ok (.iinc 6 1, 3) ∧ decode cX12_letGo 190 = .ok (.goto (-123), 3) := by decide +kernel
theorem dX12_letGo_176 : decode cX12_letGo 176 = .ok (.istore 5, 2) := dGX12_671.1
theorem dX12_letGo_178 : decode cX12_letGo 178 = .ok (.iinc 4 1, 3) := dGX12_671.2.1
theorem dX12_letGo_181 : decode cX12_letGo 181 = .ok (.iinc 7 1, 3) := dGX12_671.2.2.1
theorem dX12_letGo_184 : decode cX12_letGo 184 = .ok (.goto (-107), 3) := dGX12_671.2.2.2.1
theorem dX12_letGo_187 : decode cX12_letGo 187 = .ok (.iinc 6 1, 3) := dGX12_671.2.2.2.2.1
theorem dX12_letGo_190 : decode cX12_letGo 190 = .ok (.goto (-123), 3) := dGX12_671.2.2.2.2.2
theorem dGX12_672 : decode cX12_letGo 193 = .ok (.iload_n 3, 1) ∧ decode cX12_letGo 194 = .ok (.iconst (-1), 1) ∧ decode cX12_letGo 195 = .ok (.if_icmp .ne 8, 3) ∧ decode cX12_letGo 198 = .ok (.iload 4, 2) ∧ decode cX12_letGo 200 = .ok (.goto 5, 3) ∧ decode cX12_letGo 203 = .ok (.iload 5, 2) := by decide +kernel
theorem dX12_letGo_193 : decode cX12_letGo 193 = .ok (.iload_n 3, 1) := dGX12_672.1
theorem dX12_letGo_194 : decode cX12_letGo 194 = .ok (.iconst (-1), 1) := dGX12_672.2.1
theorem dX12_letGo_195 : decode cX12_letGo 195 = .ok (.if_icmp .ne 8, 3) := dGX12_672.2.2.1
theorem dX12_letGo_198 : decode cX12_letGo 198 = .ok (.iload 4, 2) := dGX12_672.2.2.2.1
theorem dX12_letGo_200 : decode cX12_letGo 200 = .ok (.goto 5, 3) := dGX12_672.2.2.2.2.1
theorem dX12_letGo_203 : decode cX12_letGo 203 = .ok (.iload 5, 2) := dGX12_672.2.2.2.2.2
theorem dGX12_673 : decode cX12_letGo 205 = .ok (.ireturn, 1) ∧ decode cX12_settled 0 = .ok (.iload_n 1, 1) ∧ decode cX12_settled 1 = .ok (.i2l, 1) ∧ decode cX12_settled 2 = .ok (.lconst 0, 1) ∧ decode cX12_settled 3 = .ok (.lconst 1, 1) ∧ decode cX12_settled 4 = .ok (.invokestatic 175, 3) := by decide +kernel
theorem dX12_letGo_205 : decode cX12_letGo 205 = .ok (.ireturn, 1) := dGX12_673.1
theorem dX12_settled_0 : decode cX12_settled 0 = .ok (.iload_n 1, 1) := dGX12_673.2.1
theorem dX12_settled_1 : decode cX12_settled 1 = .ok (.i2l, 1) := dGX12_673.2.2.1
theorem dX12_settled_2 : decode cX12_settled 2 = .ok (.lconst 0, 1) := dGX12_673.2.2.2.1
theorem dX12_settled_3 : decode cX12_settled 3 = .ok (.lconst 1, 1) := dGX12_673.2.2.2.2.1
theorem dX12_settled_4 : decode cX12_settled 4 = .ok (.invokestatic 175, 3) := dGX12_673.2.2.2.2.2
theorem dGX12_674 : decode cX12_settled 7 = .ok (.ifCond .ne 5, 3) ∧ decode cX12_settled 10 = .ok (.iconst (-1), 1) ∧ decode cX12_settled 11 = .ok (.ireturn, 1) ∧ decode cX12_settled 12 = .ok (.iconst 0, 1) ∧ decode cX12_settled 13 = .ok (.istore_n 2, 1) ∧ decode cX12_settled 14 = .ok (.iconst 0, 1) := by decide +kernel
theorem dX12_settled_7 : decode cX12_settled 7 = .ok (.ifCond .ne 5, 3) := dGX12_674.1
theorem dX12_settled_10 : decode cX12_settled 10 = .ok (.iconst (-1), 1) := dGX12_674.2.1
theorem dX12_settled_11 : decode cX12_settled 11 = .ok (.ireturn, 1) := dGX12_674.2.2.1
theorem dX12_settled_12 : decode cX12_settled 12 = .ok (.iconst 0, 1) := dGX12_674.2.2.2.1
theorem dX12_settled_13 : decode cX12_settled 13 = .ok (.istore_n 2, 1) := dGX12_674.2.2.2.2.1
theorem dX12_settled_14 : decode cX12_settled 14 = .ok (.iconst 0, 1) := dGX12_674.2.2.2.2.2
theorem dGX12_675 : decode cX12_settled 15 = .ok (.istore_n 3, 1) ∧ decode cX12_settled 16 = .ok (.iload_n 3, 1) ∧ decode cX12_settled 17 = .ok (.bipush 16, 2) ∧ decode cX12_settled 19 = .ok (.if_icmp .ge 82, 3) ∧ decode cX12_settled 22 = .ok (.iload_n 3, 1) ∧ decode cX12_settled 23 = .ok (.bipush 8, 2) := by decide +kernel
theorem dX12_settled_15 : decode cX12_settled 15 = .ok (.istore_n 3, 1) := dGX12_675.1
theorem dX12_settled_16 : decode cX12_settled 16 = .ok (.iload_n 3, 1) := dGX12_675.2.1
theorem dX12_settled_17 : decode cX12_settled 17 = .ok (.bipush 16, 2) := dGX12_675.2.2.1
theorem dX12_settled_19 : decode cX12_settled 19 = .ok (.if_icmp .ge 82, 3) := dGX12_675.2.2.2.1
theorem dX12_settled_22 : decode cX12_settled 22 = .ok (.iload_n 3, 1) := dGX12_675.2.2.2.2.1
theorem dX12_settled_23 : decode cX12_settled 23 = .ok (.bipush 8, 2) := dGX12_675.2.2.2.2.2
theorem dGX12_676 : decode cX12_settled 25 = .ok (.if_icmp .ge 25, 3) ∧ decode cX12_settled 28 = .ok (.iload_n 3, 1) ∧ decode cX12_settled 29 = .ok (.aload_n 0, 1) ∧ decode cX12_settled 30 = .ok (.getfield 179, 3) ∧ decode cX12_settled 33 = .ok (.if_icmp .ge 13, 3) ∧ decode cX12_settled 36 = .ok (.aload_n 0, 1) := by decide +kernel
theorem dX12_settled_25 : decode cX12_settled 25 = .ok (.if_icmp .ge 25, 3) := dGX12_676.1
theorem dX12_settled_28 : decode cX12_settled 28 = .ok (.iload_n 3, 1) := dGX12_676.2.1
theorem dX12_settled_29 : decode cX12_settled 29 = .ok (.aload_n 0, 1) := dGX12_676.2.2.1
theorem dX12_settled_30 : decode cX12_settled 30 = .ok (.getfield 179, 3) := dGX12_676.2.2.2.1
theorem dX12_settled_33 : decode cX12_settled 33 = .ok (.if_icmp .ge 13, 3) := dGX12_676.2.2.2.2.1
theorem dX12_settled_36 : decode cX12_settled 36 = .ok (.aload_n 0, 1) := dGX12_676.2.2.2.2.2
theorem dGX12_677 : decode cX12_settled 37 = .ok (.iload_n 3, 1) ∧ decode cX12_settled 38 = .ok (.iconst (-1), 1) ∧ decode cX12_settled 39 = .ok (.invokevirtual 414, 3) ∧ decode cX12_settled 42 = .ok (.ineg, 1) ∧ decode cX12_settled 43 = .ok (.goto 31, 3) ∧ decode cX12_settled 46 = .ok (.iconst 0, 1) := by decide +kernel
theorem dX12_settled_37 : decode cX12_settled 37 = .ok (.iload_n 3, 1) := dGX12_677.1
theorem dX12_settled_38 : decode cX12_settled 38 = .ok (.iconst (-1), 1) := dGX12_677.2.1
theorem dX12_settled_39 : decode cX12_settled 39 = .ok (.invokevirtual 414, 3) := dGX12_677.2.2.1
theorem dX12_settled_42 : decode cX12_settled 42 = .ok (.ineg, 1) := dGX12_677.2.2.2.1
theorem dX12_settled_43 : decode cX12_settled 43 = .ok (.goto 31, 3) := dGX12_677.2.2.2.2.1
theorem dX12_settled_46 : decode cX12_settled 46 = .ok (.iconst 0, 1) := dGX12_677.2.2.2.2.2
theorem dGX12_678 : decode cX12_settled 47 = .ok (.goto 27, 3) ∧ decode cX12_settled 50 = .ok (.iload_n 3, 1) ∧ decode cX12_settled 51 = .ok (.bipush 8, 2) ∧ decode cX12_settled 53 = .ok (.isub, 1) ∧ decode cX12_settled 54 = .ok (.aload_n 0, 1) ∧ decode cX12_settled 55 = .ok (.getfield 182, 3) := by decide +kernel
theorem dX12_settled_47 : decode cX12_settled 47 = .ok (.goto 27, 3) := dGX12_678.1
theorem dX12_settled_50 : decode cX12_settled 50 = .ok (.iload_n 3, 1) := dGX12_678.2.1
theorem dX12_settled_51 : decode cX12_settled 51 = .ok (.bipush 8, 2) := dGX12_678.2.2.1
theorem dX12_settled_53 : decode cX12_settled 53 = .ok (.isub, 1) := dGX12_678.2.2.2.1
theorem dX12_settled_54 : decode cX12_settled 54 = .ok (.aload_n 0, 1) := dGX12_678.2.2.2.2.1
theorem dX12_settled_55 : decode cX12_settled 55 = .ok (.getfield 182, 3) := dGX12_678.2.2.2.2.2
theorem dGX12_679 : decode cX12_settled 58 = .ok (.if_icmp .ge 15, 3) ∧ decode cX12_settled 61 = .ok (.aload_n 0, 1) ∧ decode cX12_settled 62 = .ok (.iconst (-1), 1) ∧ decode cX12_settled 63 = .ok (.iload_n 3, 1) ∧ decode cX12_settled 64 = .ok (.bipush 8, 2) ∧ decode cX12_settled 66 = .ok (.isub, 1) := by decide +kernel
theorem dX12_settled_58 : decode cX12_settled 58 = .ok (.if_icmp .ge 15, 3) := dGX12_679.1
theorem dX12_settled_61 : decode cX12_settled 61 = .ok (.aload_n 0, 1) := dGX12_679.2.1
theorem dX12_settled_62 : decode cX12_settled 62 = .ok (.iconst (-1), 1) := dGX12_679.2.2.1
theorem dX12_settled_63 : decode cX12_settled 63 = .ok (.iload_n 3, 1) := dGX12_679.2.2.2.1
theorem dX12_settled_64 : decode cX12_settled 64 = .ok (.bipush 8, 2) := dGX12_679.2.2.2.2.1
theorem dX12_settled_66 : decode cX12_settled 66 = .ok (.isub, 1) := dGX12_679.2.2.2.2.2
theorem dGX12_680 : decode cX12_settled 67 = .ok (.invokevirtual 414, 3) ∧ decode cX12_settled 70 = .ok (.goto 4, 3) ∧ decode cX12_settled 73 = .ok (.iconst 0, 1) ∧ decode cX12_settled 74 = .ok (.istore 4, 2) ∧ decode cX12_settled 76 = .ok (.iload 4, 2) ∧ decode cX12_settled 78 = .ok (.ifCond .ne 6, 3) := by decide +kernel
theorem dX12_settled_67 : decode cX12_settled 67 = .ok (.invokevirtual 414, 3) := dGX12_680.1
theorem dX12_settled_70 : decode cX12_settled 70 = .ok (.goto 4, 3) := dGX12_680.2.1
theorem dX12_settled_73 : decode cX12_settled 73 = .ok (.iconst 0, 1) := dGX12_680.2.2.1
theorem dX12_settled_74 : decode cX12_settled 74 = .ok (.istore 4, 2) := dGX12_680.2.2.2.1
theorem dX12_settled_76 : decode cX12_settled 76 = .ok (.iload 4, 2) := dGX12_680.2.2.2.2.1
theorem dX12_settled_78 : decode cX12_settled 78 = .ok (.ifCond .ne 6, 3) := dGX12_680.2.2.2.2.2
theorem dGX12_681 : decode cX12_settled 81 = .ok (.goto 14, 3) ∧ decode cX12_settled 84 = .ok (.aload_n 0, 1) ∧ decode cX12_settled 85 = .ok (.getfield 163, 3) ∧ decode cX12_settled 88 = .ok (.iload_n 2, 1) ∧ decode cX12_settled 89 = .ok (.iload 4, 2) ∧ decode cX12_settled 91 = .ok (.iastore, 1) := by decide +kernel
theorem dX12_settled_81 : decode cX12_settled 81 = .ok (.goto 14, 3) := dGX12_681.1
theorem dX12_settled_84 : decode cX12_settled 84 = .ok (.aload_n 0, 1) := dGX12_681.2.1
theorem dX12_settled_85 : decode cX12_settled 85 = .ok (.getfield 163, 3) := dGX12_681.2.2.1
theorem dX12_settled_88 : decode cX12_settled 88 = .ok (.iload_n 2, 1) := dGX12_681.2.2.2.1
theorem dX12_settled_89 : decode cX12_settled 89 = .ok (.iload 4, 2) := dGX12_681.2.2.2.2.1
theorem dX12_settled_91 : decode cX12_settled 91 = .ok (.iastore, 1) := dGX12_681.2.2.2.2.2
theorem dGX12_682 : decode cX12_settled 92 = .ok (.iinc 2 1, 3) ∧ decode cX12_settled 95 = .ok (.iinc 3 1, 3) ∧ decode cX12_settled 98 = .ok (.goto (-82), 3) ∧ decode cX12_settled 101 = .ok (.iload_n 2, 1) ∧ decode cX12_settled 102 = .ok (.bipush 7, 2) ∧ decode cX12_settled 104 = .ok (.if_icmp .le 6, 3) := by decide +kernel
theorem dX12_settled_92 : decode cX12_settled 92 = .ok (.iinc 2 1, 3) := dGX12_682.1
theorem dX12_settled_95 : decode cX12_settled 95 = .ok (.iinc 3 1, 3) := dGX12_682.2.1
theorem dX12_settled_98 : decode cX12_settled 98 = .ok (.goto (-82), 3) := dGX12_682.2.2.1
theorem dX12_settled_101 : decode cX12_settled 101 = .ok (.iload_n 2, 1) := dGX12_682.2.2.2.1
theorem dX12_settled_102 : decode cX12_settled 102 = .ok (.bipush 7, 2) := dGX12_682.2.2.2.2.1
theorem dX12_settled_104 : decode cX12_settled 104 = .ok (.if_icmp .le 6, 3) := dGX12_682.2.2.2.2.2
theorem dGX12_683 : decode cX12_settled 107 = .ok (.bipush (-2), 2) ∧ decode cX12_settled 109 = .ok (.ireturn, 1) ∧ decode cX12_settled 110 = .ok (.iconst 0, 1) ∧ decode cX12_settled 111 = .ok (.istore_n 3, 1) ∧ decode cX12_settled 112 = .ok (.iload_n 3, 1) ∧ decode cX12_settled 113 = .ok (.iconst 1, 1) := by decide +kernel
theorem dX12_settled_107 : decode cX12_settled 107 = .ok (.bipush (-2), 2) := dGX12_683.1
theorem dX12_settled_109 : decode cX12_settled 109 = .ok (.ireturn, 1) := dGX12_683.2.1
theorem dX12_settled_110 : decode cX12_settled 110 = .ok (.iconst 0, 1) := dGX12_683.2.2.1
theorem dX12_settled_111 : decode cX12_settled 111 = .ok (.istore_n 3, 1) := dGX12_683.2.2.2.1
theorem dX12_settled_112 : decode cX12_settled 112 = .ok (.iload_n 3, 1) := dGX12_683.2.2.2.2.1
theorem dX12_settled_113 : decode cX12_settled 113 = .ok (.iconst 1, 1) := dGX12_683.2.2.2.2.2
theorem dGX12_684 : decode cX12_settled 114 = .ok (.iload_n 2, 1) ∧ decode cX12_settled 115 = .ok (.ishl, 1) ∧ decode cX12_settled 116 = .ok (.if_icmp .ge 141, 3) ∧ decode cX12_settled 119 = .ok (.iconst 0, 1) ∧ decode cX12_settled 120 = .ok (.istore 4, 2) ∧ decode cX12_settled 122 = .ok (.iconst 0, 1) := by decide +kernel
theorem dX12_settled_114 : decode cX12_settled 114 = .ok (.iload_n 2, 1) := dGX12_684.1
theorem dX12_settled_115 : decode cX12_settled 115 = .ok (.ishl, 1) := dGX12_684.2.1
theorem dX12_settled_116 : decode cX12_settled 116 = .ok (.if_icmp .ge 141, 3) := dGX12_684.2.2.1
theorem dX12_settled_119 : decode cX12_settled 119 = .ok (.iconst 0, 1) := dGX12_684.2.2.2.1
theorem dX12_settled_120 : decode cX12_settled 120 = .ok (.istore 4, 2) := dGX12_684.2.2.2.2.1
theorem dX12_settled_122 : decode cX12_settled 122 = .ok (.iconst 0, 1) := dGX12_684.2.2.2.2.2
theorem dGX12_685 : decode cX12_settled 123 = .ok (.istore 5, 2) ∧ decode cX12_settled 125 = .ok (.iload 5, 2) ∧ decode cX12_settled 127 = .ok (.iload_n 2, 1) ∧ decode cX12_settled 128 = .ok (.if_icmp .ge 34, 3) ∧ decode cX12_settled 131 = .ok (.iload 4, 2) ∧ decode cX12_settled 133 = .ok (.iload_n 3, 1) := by decide +kernel
theorem dX12_settled_123 : decode cX12_settled 123 = .ok (.istore 5, 2) := dGX12_685.1
theorem dX12_settled_125 : decode cX12_settled 125 = .ok (.iload 5, 2) := dGX12_685.2.1
theorem dX12_settled_127 : decode cX12_settled 127 = .ok (.iload_n 2, 1) := dGX12_685.2.2.1
theorem dX12_settled_128 : decode cX12_settled 128 = .ok (.if_icmp .ge 34, 3) := dGX12_685.2.2.2.1
theorem dX12_settled_131 : decode cX12_settled 131 = .ok (.iload 4, 2) := dGX12_685.2.2.2.2.1
theorem dX12_settled_133 : decode cX12_settled 133 = .ok (.iload_n 3, 1) := dGX12_685.2.2.2.2.2
theorem dGX12_686 : decode cX12_settled 134 = .ok (.iload 5, 2) ∧ decode cX12_settled 136 = .ok (.invokestatic 362, 3) ∧ decode cX12_settled 139 = .ok (.ifCond .eq 13, 3) ∧ decode cX12_settled 142 = .ok (.aload_n 0, 1) ∧ decode cX12_settled 143 = .ok (.getfield 163, 3) ∧ decode cX12_settled 146 = .ok (.iload 5, 2) := by decide +kernel
theorem dX12_settled_134 : decode cX12_settled 134 = .ok (.iload 5, 2) := dGX12_686.1
theorem dX12_settled_136 : decode cX12_settled 136 = .ok (.invokestatic 362, 3) := dGX12_686.2.1
theorem dX12_settled_139 : decode cX12_settled 139 = .ok (.ifCond .eq 13, 3) := dGX12_686.2.2.1
theorem dX12_settled_142 : decode cX12_settled 142 = .ok (.aload_n 0, 1) := dGX12_686.2.2.2.1
theorem dX12_settled_143 : decode cX12_settled 143 = .ok (.getfield 163, 3) := dGX12_686.2.2.2.2.1
theorem dX12_settled_146 : decode cX12_settled 146 = .ok (.iload 5, 2) := dGX12_686.2.2.2.2.2
theorem dGX12_687 : decode cX12_settled 148 = .ok (.iaload, 1) ∧ decode cX12_settled 149 = .ok (.goto 4, 3) ∧ decode cX12_settled 152 = .ok (.iconst 0, 1) ∧ decode cX12_settled 153 = .ok (.iadd, 1) ∧ decode cX12_settled 154 = .ok (.istore 4, 2) ∧ decode cX12_settled 156 = .ok (.iinc 5 1, 3) := by decide +kernel
theorem dX12_settled_148 : decode cX12_settled 148 = .ok (.iaload, 1) := dGX12_687.1
theorem dX12_settled_149 : decode cX12_settled 149 = .ok (.goto 4, 3) := dGX12_687.2.1
theorem dX12_settled_152 : decode cX12_settled 152 = .ok (.iconst 0, 1) := dGX12_687.2.2.1
theorem dX12_settled_153 : decode cX12_settled 153 = .ok (.iadd, 1) := dGX12_687.2.2.2.1
theorem dX12_settled_154 : decode cX12_settled 154 = .ok (.istore 4, 2) := dGX12_687.2.2.2.2.1
theorem dX12_settled_156 : decode cX12_settled 156 = .ok (.iinc 5 1, 3) := dGX12_687.2.2.2.2.2
theorem dGX12_688 : decode cX12_settled 159 = .ok (.goto (-34), 3) ∧ decode cX12_settled 162 = .ok (.aload_n 0, 1) ∧ decode cX12_settled 163 = .ok (.getfield 166, 3) ∧ decode cX12_settled 166 = .ok (.iload_n 3, 1) ∧ decode cX12_settled 167 = .ok (.iload_n 3, 1) ∧ decode cX12_settled 168 = .ok (.ifCond .ne 7, 3) := by decide +kernel
theorem dX12_settled_159 : decode cX12_settled 159 = .ok (.goto (-34), 3) := dGX12_688.1
theorem dX12_settled_162 : decode cX12_settled 162 = .ok (.aload_n 0, 1) := dGX12_688.2.1
theorem dX12_settled_163 : decode cX12_settled 163 = .ok (.getfield 166, 3) := dGX12_688.2.2.1
theorem dX12_settled_166 : decode cX12_settled 166 = .ok (.iload_n 3, 1) := dGX12_688.2.2.2.1
theorem dX12_settled_167 : decode cX12_settled 167 = .ok (.iload_n 3, 1) := dGX12_688.2.2.2.2.1
theorem dX12_settled_168 : decode cX12_settled 168 = .ok (.ifCond .ne 7, 3) := dGX12_688.2.2.2.2.2
theorem dGX12_689 : decode cX12_settled 171 = .ok (.iconst 0, 1) ∧ decode cX12_settled 172 = .ok (.goto 15, 3) ∧ decode cX12_settled 175 = .ok (.iload 4, 2) ∧ decode cX12_settled 177 = .ok (.ifCond .ne 7, 3) ∧ decode cX12_settled 180 = .ok (.iconst 1, 1) ∧ decode cX12_settled 181 = .ok (.goto 6, 3) := by decide +kernel
theorem dX12_settled_171 : decode cX12_settled 171 = .ok (.iconst 0, 1) := dGX12_689.1
theorem dX12_settled_172 : decode cX12_settled 172 = .ok (.goto 15, 3) := dGX12_689.2.1
theorem dX12_settled_175 : decode cX12_settled 175 = .ok (.iload 4, 2) := dGX12_689.2.2.1
theorem dX12_settled_177 : decode cX12_settled 177 = .ok (.ifCond .ne 7, 3) := dGX12_689.2.2.2.1
theorem dX12_settled_180 : decode cX12_settled 180 = .ok (.iconst 1, 1) := dGX12_689.2.2.2.2.1
theorem dX12_settled_181 : decode cX12_settled 181 = .ok (.goto 6, 3) := dGX12_689.2.2.2.2.2
theorem dGX12_690 : decode cX12_settled 184 = .ok (.ldc_w 487, 3) ∧ decode cX12_settled 187 = .ok (.iastore, 1) ∧ decode cX12_settled 188 = .ok (.iload_n 3, 1) ∧ decode cX12_settled 189 = .ok (.iconst 1, 1) ∧ decode cX12_settled 190 = .ok (.isub, 1) ∧ decode cX12_settled 191 = .ok (.iload_n 3, 1) := by decide +kernel
theorem dX12_settled_184 : decode cX12_settled 184 = .ok (.ldc_w 487, 3) := dGX12_690.1
theorem dX12_settled_187 : decode cX12_settled 187 = .ok (.iastore, 1) := dGX12_690.2.1
theorem dX12_settled_188 : decode cX12_settled 188 = .ok (.iload_n 3, 1) := dGX12_690.2.2.1
theorem dX12_settled_189 : decode cX12_settled 189 = .ok (.iconst 1, 1) := dGX12_690.2.2.2.1
theorem dX12_settled_190 : decode cX12_settled 190 = .ok (.isub, 1) := dGX12_690.2.2.2.2.1
theorem dX12_settled_191 : decode cX12_settled 191 = .ok (.iload_n 3, 1) := dGX12_690.2.2.2.2.2
theorem dGX12_691 : decode cX12_settled 192 = .ok (.iand, 1) ∧ decode cX12_settled 193 = .ok (.istore 5, 2) ∧ decode cX12_settled 195 = .ok (.iload 5, 2) ∧ decode cX12_settled 197 = .ok (.ifCond .le 54, 3) ∧ decode cX12_settled 200 = .ok (.aload_n 0, 1) ∧ decode cX12_settled 201 = .ok (.getfield 166, 3) := by decide +kernel
theorem dX12_settled_192 : decode cX12_settled 192 = .ok (.iand, 1) := dGX12_691.1
theorem dX12_settled_193 : decode cX12_settled 193 = .ok (.istore 5, 2) := dGX12_691.2.1
theorem dX12_settled_195 : decode cX12_settled 195 = .ok (.iload 5, 2) := dGX12_691.2.2.1
theorem dX12_settled_197 : decode cX12_settled 197 = .ok (.ifCond .le 54, 3) := dGX12_691.2.2.2.1
theorem dX12_settled_200 : decode cX12_settled 200 = .ok (.aload_n 0, 1) := dGX12_691.2.2.2.2.1
theorem dX12_settled_201 : decode cX12_settled 201 = .ok (.getfield 166, 3) := dGX12_691.2.2.2.2.2
theorem dGX12_692 : decode cX12_settled 204 = .ok (.iload 5, 2) ∧ decode cX12_settled 206 = .ok (.iaload, 1) ∧ decode cX12_settled 207 = .ok (.aload_n 0, 1) ∧ decode cX12_settled 208 = .ok (.getfield 166, 3) ∧ decode cX12_settled 211 = .ok (.iload_n 3, 1) ∧ decode cX12_settled 212 = .ok (.iload 5, 2) := by decide +kernel
theorem dX12_settled_204 : decode cX12_settled 204 = .ok (.iload 5, 2) := dGX12_692.1
theorem dX12_settled_206 : decode cX12_settled 206 = .ok (.iaload, 1) := dGX12_692.2.1
theorem dX12_settled_207 : decode cX12_settled 207 = .ok (.aload_n 0, 1) := dGX12_692.2.2.1
theorem dX12_settled_208 : decode cX12_settled 208 = .ok (.getfield 166, 3) := dGX12_692.2.2.2.1
theorem dX12_settled_211 : decode cX12_settled 211 = .ok (.iload_n 3, 1) := dGX12_692.2.2.2.2.1
theorem dX12_settled_212 : decode cX12_settled 212 = .ok (.iload 5, 2) := dGX12_692.2.2.2.2.2
theorem dGX12_693 : decode cX12_settled 214 = .ok (.iconst (-1), 1) ∧ decode cX12_settled 215 = .ok (.ixor, 1) ∧ decode cX12_settled 216 = .ok (.iand, 1) ∧ decode cX12_settled 217 = .ok (.iaload, 1) ∧ decode cX12_settled 218 = .ok (.iadd, 1) ∧ decode cX12_settled 219 = .ok (.istore 6, 2) := by decide +kernel
theorem dX12_settled_214 : decode cX12_settled 214 = .ok (.iconst (-1), 1) := dGX12_693.1
theorem dX12_settled_215 : decode cX12_settled 215 = .ok (.ixor, 1) := dGX12_693.2.1
theorem dX12_settled_216 : decode cX12_settled 216 = .ok (.iand, 1) := dGX12_693.2.2.1
theorem dX12_settled_217 : decode cX12_settled 217 = .ok (.iaload, 1) := dGX12_693.2.2.2.1
theorem dX12_settled_218 : decode cX12_settled 218 = .ok (.iadd, 1) := dGX12_693.2.2.2.2.1
theorem dX12_settled_219 : decode cX12_settled 219 = .ok (.istore 6, 2) := dGX12_693.2.2.2.2.2
theorem dGX12_694 : decode cX12_settled 221 = .ok (.iload 6, 2) ∧ decode cX12_settled 223 = .ok (.aload_n 0, 1) ∧ decode cX12_settled 224 = .ok (.getfield 166, 3) ∧ decode cX12_settled 227 = .ok (.iload_n 3, 1) ∧ decode cX12_settled 228 = .ok (.iaload, 1) ∧ decode cX12_settled 229 = .ok (.if_icmp .le 11, 3) := by decide +kernel
theorem dX12_settled_221 : decode cX12_settled 221 = .ok (.iload 6, 2) := dGX12_694.1
theorem dX12_settled_223 : decode cX12_settled 223 = .ok (.aload_n 0, 1) := dGX12_694.2.1
theorem dX12_settled_224 : decode cX12_settled 224 = .ok (.getfield 166, 3) := dGX12_694.2.2.1
theorem dX12_settled_227 : decode cX12_settled 227 = .ok (.iload_n 3, 1) := dGX12_694.2.2.2.1
theorem dX12_settled_228 : decode cX12_settled 228 = .ok (.iaload, 1) := dGX12_694.2.2.2.2.1
theorem dX12_settled_229 : decode cX12_settled 229 = .ok (.if_icmp .le 11, 3) := dGX12_694.2.2.2.2.2
theorem dGX12_695 : decode cX12_settled 232 = .ok (.aload_n 0, 1) ∧ decode cX12_settled 233 = .ok (.getfield 166, 3) ∧ decode cX12_settled 236 = .ok (.iload_n 3, 1) ∧ decode cX12_settled 237 = .ok (.iload 6, 2) ∧ decode cX12_settled 239 = .ok (.iastore, 1) ∧ decode cX12_settled 240 = .ok (.iload 5, 2) := by decide +kernel
theorem dX12_settled_232 : decode cX12_settled 232 = .ok (.aload_n 0, 1) := dGX12_695.1
theorem dX12_settled_233 : decode cX12_settled 233 = .ok (.getfield 166, 3) := dGX12_695.2.1
theorem dX12_settled_236 : decode cX12_settled 236 = .ok (.iload_n 3, 1) := dGX12_695.2.2.1
theorem dX12_settled_237 : decode cX12_settled 237 = .ok (.iload 6, 2) := dGX12_695.2.2.2.1
theorem dX12_settled_239 : decode cX12_settled 239 = .ok (.iastore, 1) := dGX12_695.2.2.2.2.1
theorem dX12_settled_240 : decode cX12_settled 240 = .ok (.iload 5, 2) := dGX12_695.2.2.2.2.2
theorem dGX12_696 : decode cX12_settled 242 = .ok (.iconst 1, 1) ∧ decode cX12_settled 243 = .ok (.isub, 1) ∧ decode cX12_settled 244 = .ok (.iload_n 3, 1) ∧ decode cX12_settled 245 = .ok (.iand, 1) ∧ decode cX12_settled 246 = .ok (.istore 5, 2) ∧ decode cX12_settled 248 = .ok (.goto (-53), 3) := by decide +kernel
theorem dX12_settled_242 : decode cX12_settled 242 = .ok (.iconst 1, 1) := dGX12_696.1
theorem dX12_settled_243 : decode cX12_settled 243 = .ok (.isub, 1) := dGX12_696.2.1
theorem dX12_settled_244 : decode cX12_settled 244 = .ok (.iload_n 3, 1) := dGX12_696.2.2.1
theorem dX12_settled_245 : decode cX12_settled 245 = .ok (.iand, 1) := dGX12_696.2.2.2.1
theorem dX12_settled_246 : decode cX12_settled 246 = .ok (.istore 5, 2) := dGX12_696.2.2.2.2.1
theorem dX12_settled_248 : decode cX12_settled 248 = .ok (.goto (-53), 3) := dGX12_696.2.2.2.2.2
theorem dGX12_697 : decode cX12_settled 251 = .ok (.iinc 3 1, 3) ∧ decode cX12_settled 254 = .ok (.goto (-142), 3) ∧ decode cX12_settled 257 = .ok (.aload_n 0, 1) ∧ decode cX12_settled 258 = .ok (.getfield 166, 3) ∧ decode cX12_settled 261 = .ok (.iconst 1, 1) ∧ decode cX12_settled 262 = .ok (.iload_n 2, 1) := by decide +kernel
theorem dX12_settled_251 : decode cX12_settled 251 = .ok (.iinc 3 1, 3) := dGX12_697.1
theorem dX12_settled_254 : decode cX12_settled 254 = .ok (.goto (-142), 3) := dGX12_697.2.1
theorem dX12_settled_257 : decode cX12_settled 257 = .ok (.aload_n 0, 1) := dGX12_697.2.2.1
theorem dX12_settled_258 : decode cX12_settled 258 = .ok (.getfield 166, 3) := dGX12_697.2.2.2.1
theorem dX12_settled_261 : decode cX12_settled 261 = .ok (.iconst 1, 1) := dGX12_697.2.2.2.2.1
theorem dX12_settled_262 : decode cX12_settled 262 = .ok (.iload_n 2, 1) := dGX12_697.2.2.2.2.2
theorem dGX12_698 : decode cX12_settled 263 = .ok (.ishl, 1) ∧ decode cX12_settled 264 = .ok (.iconst 1, 1) ∧ decode cX12_settled 265 = .ok (.isub, 1) ∧ decode cX12_settled 266 = .ok (.iaload, 1) ∧ decode cX12_settled 267 = .ok (.istore_n 3, 1) ∧ decode cX12_settled 268 = .ok (.iload_n 1, 1) := by decide +kernel
theorem dX12_settled_263 : decode cX12_settled 263 = .ok (.ishl, 1) := dGX12_698.1
theorem dX12_settled_264 : decode cX12_settled 264 = .ok (.iconst 1, 1) := dGX12_698.2.1
theorem dX12_settled_265 : decode cX12_settled 265 = .ok (.isub, 1) := dGX12_698.2.2.1
theorem dX12_settled_266 : decode cX12_settled 266 = .ok (.iaload, 1) := dGX12_698.2.2.2.1
theorem dX12_settled_267 : decode cX12_settled 267 = .ok (.istore_n 3, 1) := dGX12_698.2.2.2.2.1
theorem dX12_settled_268 : decode cX12_settled 268 = .ok (.iload_n 1, 1) := dGX12_698.2.2.2.2.2
theorem dGX12_699 : decode cX12_settled 269 = .ok (.ifCond .ne 9, 3) ∧ decode cX12_settled 272 = .ok (.iload_n 2, 1) ∧ decode cX12_settled 273 = .ok (.iload_n 3, 1) ∧ decode cX12_settled 274 = .ok (.isub, 1) ∧ decode cX12_settled 275 = .ok (.goto 4, 3) ∧ decode cX12_settled 278 = .ok (.iload_n 3, 1) := by decide +kernel
theorem dX12_settled_269 : decode cX12_settled 269 = .ok (.ifCond .ne 9, 3) := dGX12_699.1
theorem dX12_settled_272 : decode cX12_settled 272 = .ok (.iload_n 2, 1) := dGX12_699.2.1
theorem dX12_settled_273 : decode cX12_settled 273 = .ok (.iload_n 3, 1) := dGX12_699.2.2.1
theorem dX12_settled_274 : decode cX12_settled 274 = .ok (.isub, 1) := dGX12_699.2.2.2.1
theorem dX12_settled_275 : decode cX12_settled 275 = .ok (.goto 4, 3) := dGX12_699.2.2.2.2.1
theorem dX12_settled_278 : decode cX12_settled 278 = .ok (.iload_n 3, 1) := dGX12_699.2.2.2.2.2
theorem dGX12_700 : decode cX12_settled 279 = .ok (.ireturn, 1) ∧ decode cX12_owes 0 = .ok (.aload_n 0, 1) ∧ decode cX12_owes 1 = .ok (.iload_n 1, 1) ∧ decode cX12_owes 2 = .ok (.invokevirtual 195, 3) ∧ decode cX12_owes 5 = .ok (.ifCond .eq 21, 3) ∧ decode cX12_owes 8 = .ok (.aload_n 0, 1) := by decide +kernel
theorem dX12_settled_279 : decode cX12_settled 279 = .ok (.ireturn, 1) := dGX12_700.1
theorem dX12_owes_0 : decode cX12_owes 0 = .ok (.aload_n 0, 1) := dGX12_700.2.1
theorem dX12_owes_1 : decode cX12_owes 1 = .ok (.iload_n 1, 1) := dGX12_700.2.2.1
theorem dX12_owes_2 : decode cX12_owes 2 = .ok (.invokevirtual 195, 3) := dGX12_700.2.2.2.1
theorem dX12_owes_5 : decode cX12_owes 5 = .ok (.ifCond .eq 21, 3) := dGX12_700.2.2.2.2.1
theorem dX12_owes_8 : decode cX12_owes 8 = .ok (.aload_n 0, 1) := dGX12_700.2.2.2.2.2
theorem dGX12_701 : decode cX12_owes 9 = .ok (.iload_n 2, 1) ∧ decode cX12_owes 10 = .ok (.invokevirtual 201, 3) ∧ decode cX12_owes 13 = .ok (.ifCond .eq 13, 3) ∧ decode cX12_owes 16 = .ok (.iload_n 3, 1) ∧ decode cX12_owes 17 = .ok (.i2l, 1) ∧ decode cX12_owes 18 = .ok (.lconst 0, 1) := by decide +kernel
theorem dX12_owes_9 : decode cX12_owes 9 = .ok (.iload_n 2, 1) := dGX12_701.1
theorem dX12_owes_10 : decode cX12_owes 10 = .ok (.invokevirtual 201, 3) := dGX12_701.2.1
theorem dX12_owes_13 : decode cX12_owes 13 = .ok (.ifCond .eq 13, 3) := dGX12_701.2.2.1
theorem dX12_owes_16 : decode cX12_owes 16 = .ok (.iload_n 3, 1) := dGX12_701.2.2.2.1
theorem dX12_owes_17 : decode cX12_owes 17 = .ok (.i2l, 1) := dGX12_701.2.2.2.2.1
theorem dX12_owes_18 : decode cX12_owes 18 = .ok (.lconst 0, 1) := dGX12_701.2.2.2.2.2
theorem dGX12_702 : decode cX12_owes 19 = .ok (.lconst 1, 1) ∧ decode cX12_owes 20 = .ok (.invokestatic 175, 3) ∧ decode cX12_owes 23 = .ok (.ifCond .ne 5, 3) ∧ decode cX12_owes 26 = .ok (.iconst (-1), 1) ∧ decode cX12_owes 27 = .ok (.ireturn, 1) ∧ decode cX12_owes 28 = .ok (.iload_n 3, 1) := by decide +kernel
theorem dX12_owes_19 : decode cX12_owes 19 = .ok (.lconst 1, 1) := dGX12_702.1
theorem dX12_owes_20 : decode cX12_owes 20 = .ok (.invokestatic 175, 3) := dGX12_702.2.1
theorem dX12_owes_23 : decode cX12_owes 23 = .ok (.ifCond .ne 5, 3) := dGX12_702.2.2.1
theorem dX12_owes_26 : decode cX12_owes 26 = .ok (.iconst (-1), 1) := dGX12_702.2.2.2.1
theorem dX12_owes_27 : decode cX12_owes 27 = .ok (.ireturn, 1) := dGX12_702.2.2.2.2.1
theorem dX12_owes_28 : decode cX12_owes 28 = .ok (.iload_n 3, 1) := dGX12_702.2.2.2.2.2
theorem dGX12_703 : decode cX12_owes 29 = .ok (.ifCond .ne 17, 3) ∧ decode cX12_owes 32 = .ok (.aload_n 0, 1) ∧ decode cX12_owes 33 = .ok (.getfield 55, 3) ∧ decode cX12_owes 36 = .ok (.bipush 8, 2) ∧ decode cX12_owes 38 = .ok (.iload_n 1, 1) ∧ decode cX12_owes 39 = .ok (.imul, 1) := by decide +kernel
theorem dX12_owes_29 : decode cX12_owes 29 = .ok (.ifCond .ne 17, 3) := dGX12_703.1
theorem dX12_owes_32 : decode cX12_owes 32 = .ok (.aload_n 0, 1) := dGX12_703.2.1
theorem dX12_owes_33 : decode cX12_owes 33 = .ok (.getfield 55, 3) := dGX12_703.2.2.1
theorem dX12_owes_36 : decode cX12_owes 36 = .ok (.bipush 8, 2) := dGX12_703.2.2.2.1
theorem dX12_owes_38 : decode cX12_owes 38 = .ok (.iload_n 1, 1) := dGX12_703.2.2.2.2.1
theorem dX12_owes_39 : decode cX12_owes 39 = .ok (.imul, 1) := dGX12_703.2.2.2.2.2
theorem dGX12_704 : decode cX12_owes 40 = .ok (.iload_n 2, 1) ∧ decode cX12_owes 41 = .ok (.iadd, 1) ∧ decode cX12_owes 42 = .ok (.iaload, 1) ∧ decode cX12_owes 43 = .ok (.goto 14, 3) ∧ decode cX12_owes 46 = .ok (.aload_n 0, 1) ∧ decode cX12_owes 47 = .ok (.getfield 58, 3) := by decide +kernel
theorem dX12_owes_40 : decode cX12_owes 40 = .ok (.iload_n 2, 1) := dGX12_704.1
theorem dX12_owes_41 : decode cX12_owes 41 = .ok (.iadd, 1) := dGX12_704.2.1
theorem dX12_owes_42 : decode cX12_owes 42 = .ok (.iaload, 1) := dGX12_704.2.2.1
theorem dX12_owes_43 : decode cX12_owes 43 = .ok (.goto 14, 3) := dGX12_704.2.2.2.1
theorem dX12_owes_46 : decode cX12_owes 46 = .ok (.aload_n 0, 1) := dGX12_704.2.2.2.2.1
theorem dX12_owes_47 : decode cX12_owes 47 = .ok (.getfield 58, 3) := dGX12_704.2.2.2.2.2
theorem dGX12_705 : decode cX12_owes 50 = .ok (.bipush 8, 2) ∧ decode cX12_owes 52 = .ok (.iload_n 1, 1) ∧ decode cX12_owes 53 = .ok (.imul, 1) ∧ decode cX12_owes 54 = .ok (.iload_n 2, 1) ∧ decode cX12_owes 55 = .ok (.iadd, 1) ∧ decode cX12_owes 56 = .ok (.iaload, 1) := by decide +kernel
theorem dX12_owes_50 : decode cX12_owes 50 = .ok (.bipush 8, 2) := dGX12_705.1
theorem dX12_owes_52 : decode cX12_owes 52 = .ok (.iload_n 1, 1) := dGX12_705.2.1
theorem dX12_owes_53 : decode cX12_owes 53 = .ok (.imul, 1) := dGX12_705.2.2.1
theorem dX12_owes_54 : decode cX12_owes 54 = .ok (.iload_n 2, 1) := dGX12_705.2.2.2.1
theorem dX12_owes_55 : decode cX12_owes 55 = .ok (.iadd, 1) := dGX12_705.2.2.2.2.1
theorem dX12_owes_56 : decode cX12_owes 56 = .ok (.iaload, 1) := dGX12_705.2.2.2.2.2
theorem dGX12_706 : decode cX12_owes 57 = .ok (.ireturn, 1) ∧ decode cX12_struckBy 0 = .ok (.iconst 0, 1) ∧ decode cX12_struckBy 1 = .ok (.istore_n 2, 1) ∧ decode cX12_struckBy 2 = .ok (.iconst 0, 1) ∧ decode cX12_struckBy 3 = .ok (.istore_n 3, 1) ∧ decode cX12_struckBy 4 = .ok (.iload_n 3, 1) := by decide +kernel
theorem dX12_owes_57 : decode cX12_owes 57 = .ok (.ireturn, 1) := dGX12_706.1
theorem dX12_struckBy_0 : decode cX12_struckBy 0 = .ok (.iconst 0, 1) := dGX12_706.2.1
theorem dX12_struckBy_1 : decode cX12_struckBy 1 = .ok (.istore_n 2, 1) := dGX12_706.2.2.1
theorem dX12_struckBy_2 : decode cX12_struckBy 2 = .ok (.iconst 0, 1) := dGX12_706.2.2.2.1
theorem dX12_struckBy_3 : decode cX12_struckBy 3 = .ok (.istore_n 3, 1) := dGX12_706.2.2.2.2.1
theorem dX12_struckBy_4 : decode cX12_struckBy 4 = .ok (.iload_n 3, 1) := dGX12_706.2.2.2.2.2
theorem dGX12_707 : decode cX12_struckBy 5 = .ok (.aload_n 0, 1) ∧ decode cX12_struckBy 6 = .ok (.getfield 182, 3) ∧ decode cX12_struckBy 9 = .ok (.if_icmp .ge 33, 3) ∧ decode cX12_struckBy 12 = .ok (.iload_n 2, 1) ∧ decode cX12_struckBy 13 = .ok (.aload_n 0, 1) ∧ decode cX12_struckBy 14 = .ok (.getfield 58, 3) := by decide +kernel
theorem dX12_struckBy_5 : decode cX12_struckBy 5 = .ok (.aload_n 0, 1) := dGX12_707.1
theorem dX12_struckBy_6 : decode cX12_struckBy 6 = .ok (.getfield 182, 3) := dGX12_707.2.1
theorem dX12_struckBy_9 : decode cX12_struckBy 9 = .ok (.if_icmp .ge 33, 3) := dGX12_707.2.2.1
theorem dX12_struckBy_12 : decode cX12_struckBy 12 = .ok (.iload_n 2, 1) := dGX12_707.2.2.2.1
theorem dX12_struckBy_13 : decode cX12_struckBy 13 = .ok (.aload_n 0, 1) := dGX12_707.2.2.2.2.1
theorem dX12_struckBy_14 : decode cX12_struckBy 14 = .ok (.getfield 58, 3) := dGX12_707.2.2.2.2.2
theorem dGX12_708 : decode cX12_struckBy 17 = .ok (.bipush 8, 2) ∧ decode cX12_struckBy 19 = .ok (.iload_n 1, 1) ∧ decode cX12_struckBy 20 = .ok (.imul, 1) ∧ decode cX12_struckBy 21 = .ok (.iload_n 3, 1) ∧ decode cX12_struckBy 22 = .ok (.iadd, 1) ∧ decode cX12_struckBy 23 = .ok (.iaload, 1) := by decide +kernel
theorem dX12_struckBy_17 : decode cX12_struckBy 17 = .ok (.bipush 8, 2) := dGX12_708.1
theorem dX12_struckBy_19 : decode cX12_struckBy 19 = .ok (.iload_n 1, 1) := dGX12_708.2.1
theorem dX12_struckBy_20 : decode cX12_struckBy 20 = .ok (.imul, 1) := dGX12_708.2.2.1
theorem dX12_struckBy_21 : decode cX12_struckBy 21 = .ok (.iload_n 3, 1) := dGX12_708.2.2.2.1
theorem dX12_struckBy_22 : decode cX12_struckBy 22 = .ok (.iadd, 1) := dGX12_708.2.2.2.2.1
theorem dX12_struckBy_23 : decode cX12_struckBy 23 = .ok (.iaload, 1) := dGX12_708.2.2.2.2.2
theorem dGX12_709 : decode cX12_struckBy 24 = .ok (.ifCond .le 9, 3) ∧ decode cX12_struckBy 27 = .ok (.iconst 1, 1) ∧ decode cX12_struckBy 28 = .ok (.iload_n 3, 1) ∧ decode cX12_struckBy 29 = .ok (.ishl, 1) ∧ decode cX12_struckBy 30 = .ok (.goto 4, 3) ∧ decode cX12_struckBy 33 = .ok (.iconst 0, 1) := by decide +kernel
theorem dX12_struckBy_24 : decode cX12_struckBy 24 = .ok (.ifCond .le 9, 3) := dGX12_709.1
theorem dX12_struckBy_27 : decode cX12_struckBy 27 = .ok (.iconst 1, 1) := dGX12_709.2.1
theorem dX12_struckBy_28 : decode cX12_struckBy 28 = .ok (.iload_n 3, 1) := dGX12_709.2.2.1
theorem dX12_struckBy_29 : decode cX12_struckBy 29 = .ok (.ishl, 1) := dGX12_709.2.2.2.1
theorem dX12_struckBy_30 : decode cX12_struckBy 30 = .ok (.goto 4, 3) := dGX12_709.2.2.2.2.1
theorem dX12_struckBy_33 : decode cX12_struckBy 33 = .ok (.iconst 0, 1) := dGX12_709.2.2.2.2.2
theorem dGX12_710 : decode cX12_struckBy 34 = .ok (.ior, 1) ∧ decode cX12_struckBy 35 = .ok (.istore_n 2, 1) ∧ decode cX12_struckBy 36 = .ok (.iinc 3 1, 3) ∧ decode cX12_struckBy 39 = .ok (.goto (-35), 3) ∧ decode cX12_struckBy 42 = .ok (.iload_n 2, 1) ∧ decode cX12_struckBy 43 = .ok (.ireturn, 1) := by decide +kernel
theorem dX12_struckBy_34 : decode cX12_struckBy 34 = .ok (.ior, 1) := dGX12_710.1
theorem dX12_struckBy_35 : decode cX12_struckBy 35 = .ok (.istore_n 2, 1) := dGX12_710.2.1
theorem dX12_struckBy_36 : decode cX12_struckBy 36 = .ok (.iinc 3 1, 3) := dGX12_710.2.2.1
theorem dX12_struckBy_39 : decode cX12_struckBy 39 = .ok (.goto (-35), 3) := dGX12_710.2.2.2.1
theorem dX12_struckBy_42 : decode cX12_struckBy 42 = .ok (.iload_n 2, 1) := dGX12_710.2.2.2.2.1
theorem dX12_struckBy_43 : decode cX12_struckBy 43 = .ok (.ireturn, 1) := dGX12_710.2.2.2.2.2
theorem dGX12_711 : decode cX12_teachers 0 = .ok (.aload_n 0, 1) ∧ decode cX12_teachers 1 = .ok (.iload_n 1, 1) ∧ decode cX12_teachers 2 = .ok (.invokevirtual 195, 3) ∧ decode cX12_teachers 5 = .ok (.ifCond .eq 11, 3) ∧ decode cX12_teachers 8 = .ok (.aload_n 0, 1) ∧ decode cX12_teachers 9 = .ok (.iload_n 1, 1) := by decide +kernel
theorem dX12_teachers_0 : decode cX12_teachers 0 = .ok (.aload_n 0, 1) := dGX12_711.1
theorem dX12_teachers_1 : decode cX12_teachers 1 = .ok (.iload_n 1, 1) := dGX12_711.2.1
theorem dX12_teachers_2 : decode cX12_teachers 2 = .ok (.invokevirtual 195, 3) := dGX12_711.2.2.1
theorem dX12_teachers_5 : decode cX12_teachers 5 = .ok (.ifCond .eq 11, 3) := dGX12_711.2.2.2.1
theorem dX12_teachers_8 : decode cX12_teachers 8 = .ok (.aload_n 0, 1) := dGX12_711.2.2.2.2.1
theorem dX12_teachers_9 : decode cX12_teachers 9 = .ok (.iload_n 1, 1) := dGX12_711.2.2.2.2.2
theorem dGX12_712 : decode cX12_teachers 10 = .ok (.invokevirtual 488, 3) ∧ decode cX12_teachers 13 = .ok (.goto 4, 3) ∧ decode cX12_teachers 16 = .ok (.iconst (-1), 1) ∧ decode cX12_teachers 17 = .ok (.ireturn, 1) ∧ decode cX12_laysFar 0 = .ok (.iconst 0, 1) ∧ decode cX12_laysFar 1 = .ok (.istore_n 2, 1) := by decide +kernel
theorem dX12_teachers_10 : decode cX12_teachers 10 = .ok (.invokevirtual 488, 3) := dGX12_712.1
theorem dX12_teachers_13 : decode cX12_teachers 13 = .ok (.goto 4, 3) := dGX12_712.2.1
theorem dX12_teachers_16 : decode cX12_teachers 16 = .ok (.iconst (-1), 1) := dGX12_712.2.2.1
theorem dX12_teachers_17 : decode cX12_teachers 17 = .ok (.ireturn, 1) := dGX12_712.2.2.2.1
theorem dX12_laysFar_0 : decode cX12_laysFar 0 = .ok (.iconst 0, 1) := dGX12_712.2.2.2.2.1
theorem dX12_laysFar_1 : decode cX12_laysFar 1 = .ok (.istore_n 2, 1) := dGX12_712.2.2.2.2.2
theorem dGX12_713 : decode cX12_laysFar 2 = .ok (.iload_n 2, 1) ∧ decode cX12_laysFar 3 = .ok (.bipush 8, 2) ∧ decode cX12_laysFar 5 = .ok (.if_icmp .ge 27, 3) ∧ decode cX12_laysFar 8 = .ok (.aload_n 0, 1) ∧ decode cX12_laysFar 9 = .ok (.getfield 169, 3) ∧ decode cX12_laysFar 12 = .ok (.iload_n 2, 1) := by decide +kernel
theorem dX12_laysFar_2 : decode cX12_laysFar 2 = .ok (.iload_n 2, 1) := dGX12_713.1
theorem dX12_laysFar_3 : decode cX12_laysFar 3 = .ok (.bipush 8, 2) := dGX12_713.2.1
theorem dX12_laysFar_5 : decode cX12_laysFar 5 = .ok (.if_icmp .ge 27, 3) := dGX12_713.2.2.1
theorem dX12_laysFar_8 : decode cX12_laysFar 8 = .ok (.aload_n 0, 1) := dGX12_713.2.2.2.1
theorem dX12_laysFar_9 : decode cX12_laysFar 9 = .ok (.getfield 169, 3) := dGX12_713.2.2.2.2.1
theorem dX12_laysFar_12 : decode cX12_laysFar 12 = .ok (.iload_n 2, 1) := dGX12_713.2.2.2.2.2
theorem dGX12_714 : decode cX12_laysFar 13 = .ok (.iload_n 2, 1) ∧ decode cX12_laysFar 14 = .ok (.iload_n 1, 1) ∧ decode cX12_laysFar 15 = .ok (.if_icmp .ne 7, 3) ∧ decode cX12_laysFar 18 = .ok (.iconst 0, 1) ∧ decode cX12_laysFar 19 = .ok (.goto 6, 3) ∧ decode cX12_laysFar 22 = .ok (.ldc_w 434, 3) := by decide +kernel
theorem dX12_laysFar_13 : decode cX12_laysFar 13 = .ok (.iload_n 2, 1) := dGX12_714.1
theorem dX12_laysFar_14 : decode cX12_laysFar 14 = .ok (.iload_n 1, 1) := dGX12_714.2.1
theorem dX12_laysFar_15 : decode cX12_laysFar 15 = .ok (.if_icmp .ne 7, 3) := dGX12_714.2.2.1
theorem dX12_laysFar_18 : decode cX12_laysFar 18 = .ok (.iconst 0, 1) := dGX12_714.2.2.2.1
theorem dX12_laysFar_19 : decode cX12_laysFar 19 = .ok (.goto 6, 3) := dGX12_714.2.2.2.2.1
theorem dX12_laysFar_22 : decode cX12_laysFar 22 = .ok (.ldc_w 434, 3) := dGX12_714.2.2.2.2.2
theorem dGX12_715 : decode cX12_laysFar 25 = .ok (.iastore, 1) ∧ decode cX12_laysFar 26 = .ok (.iinc 2 1, 3) ∧ decode cX12_laysFar 29 = .ok (.goto (-27), 3) ∧ decode cX12_laysFar 32 = .ok (.iconst 0, 1) ∧ decode cX12_laysFar 33 = .ok (.istore_n 2, 1) ∧ decode cX12_laysFar 34 = .ok (.iload_n 2, 1) := by decide +kernel
theorem dX12_laysFar_25 : decode cX12_laysFar 25 = .ok (.iastore, 1) := dGX12_715.1
theorem dX12_laysFar_26 : decode cX12_laysFar 26 = .ok (.iinc 2 1, 3) := dGX12_715.2.1
theorem dX12_laysFar_29 : decode cX12_laysFar 29 = .ok (.goto (-27), 3) := dGX12_715.2.2.1
theorem dX12_laysFar_32 : decode cX12_laysFar 32 = .ok (.iconst 0, 1) := dGX12_715.2.2.2.1
theorem dX12_laysFar_33 : decode cX12_laysFar 33 = .ok (.istore_n 2, 1) := dGX12_715.2.2.2.2.1
theorem dX12_laysFar_34 : decode cX12_laysFar 34 = .ok (.iload_n 2, 1) := dGX12_715.2.2.2.2.2
theorem dGX12_716 : decode cX12_laysFar 35 = .ok (.bipush 8, 2) ∧ decode cX12_laysFar 37 = .ok (.if_icmp .ge 122, 3) ∧ decode cX12_laysFar 40 = .ok (.iconst 0, 1) ∧ decode cX12_laysFar 41 = .ok (.istore_n 3, 1) ∧ decode cX12_laysFar 42 = .ok (.iload_n 3, 1) ∧ decode cX12_laysFar 43 = .ok (.aload_n 0, 1) := by decide +kernel
theorem dX12_laysFar_35 : decode cX12_laysFar 35 = .ok (.bipush 8, 2) := dGX12_716.1
theorem dX12_laysFar_37 : decode cX12_laysFar 37 = .ok (.if_icmp .ge 122, 3) := dGX12_716.2.1
theorem dX12_laysFar_40 : decode cX12_laysFar 40 = .ok (.iconst 0, 1) := dGX12_716.2.2.1
theorem dX12_laysFar_41 : decode cX12_laysFar 41 = .ok (.istore_n 3, 1) := dGX12_716.2.2.2.1
theorem dX12_laysFar_42 : decode cX12_laysFar 42 = .ok (.iload_n 3, 1) := dGX12_716.2.2.2.2.1
theorem dX12_laysFar_43 : decode cX12_laysFar 43 = .ok (.aload_n 0, 1) := dGX12_716.2.2.2.2.2
theorem dGX12_717 : decode cX12_laysFar 44 = .ok (.getfield 179, 3) ∧ decode cX12_laysFar 47 = .ok (.if_icmp .ge 106, 3) ∧ decode cX12_laysFar 50 = .ok (.aload_n 0, 1) ∧ decode cX12_laysFar 51 = .ok (.iload_n 3, 1) ∧ decode cX12_laysFar 52 = .ok (.invokevirtual 488, 3) ∧ decode cX12_laysFar 55 = .ok (.istore 4, 2) := by decide +kernel
theorem dX12_laysFar_44 : decode cX12_laysFar 44 = .ok (.getfield 179, 3) := dGX12_717.1
theorem dX12_laysFar_47 : decode cX12_laysFar 47 = .ok (.if_icmp .ge 106, 3) := dGX12_717.2.1
theorem dX12_laysFar_50 : decode cX12_laysFar 50 = .ok (.aload_n 0, 1) := dGX12_717.2.2.1
theorem dX12_laysFar_51 : decode cX12_laysFar 51 = .ok (.iload_n 3, 1) := dGX12_717.2.2.2.1
theorem dX12_laysFar_52 : decode cX12_laysFar 52 = .ok (.invokevirtual 488, 3) := dGX12_717.2.2.2.2.1
theorem dX12_laysFar_55 : decode cX12_laysFar 55 = .ok (.istore 4, 2) := dGX12_717.2.2.2.2.2
theorem dGX12_718 : decode cX12_laysFar 57 = .ok (.iconst 0, 1) ∧ decode cX12_laysFar 58 = .ok (.istore 5, 2) ∧ decode cX12_laysFar 60 = .ok (.iload 5, 2) ∧ decode cX12_laysFar 62 = .ok (.aload_n 0, 1) ∧ decode cX12_laysFar 63 = .ok (.getfield 182, 3) ∧ decode cX12_laysFar 66 = .ok (.if_icmp .ge 81, 3) := by decide +kernel
theorem dX12_laysFar_57 : decode cX12_laysFar 57 = .ok (.iconst 0, 1) := dGX12_718.1
theorem dX12_laysFar_58 : decode cX12_laysFar 58 = .ok (.istore 5, 2) := dGX12_718.2.1
theorem dX12_laysFar_60 : decode cX12_laysFar 60 = .ok (.iload 5, 2) := dGX12_718.2.2.1
theorem dX12_laysFar_62 : decode cX12_laysFar 62 = .ok (.aload_n 0, 1) := dGX12_718.2.2.2.1
theorem dX12_laysFar_63 : decode cX12_laysFar 63 = .ok (.getfield 182, 3) := dGX12_718.2.2.2.2.1
theorem dX12_laysFar_66 : decode cX12_laysFar 66 = .ok (.if_icmp .ge 81, 3) := dGX12_718.2.2.2.2.2
theorem dGX12_719 : decode cX12_laysFar 69 = .ok (.iconst 0, 1) ∧ decode cX12_laysFar 70 = .ok (.istore 6, 2) ∧ decode cX12_laysFar 72 = .ok (.iload 6, 2) ∧ decode cX12_laysFar 74 = .ok (.aload_n 0, 1) ∧ decode cX12_laysFar 75 = .ok (.getfield 182, 3) ∧ decode cX12_laysFar 78 = .ok (.if_icmp .ge 63, 3) := by decide +kernel
theorem dX12_laysFar_69 : decode cX12_laysFar 69 = .ok (.iconst 0, 1) := dGX12_719.1
theorem dX12_laysFar_70 : decode cX12_laysFar 70 = .ok (.istore 6, 2) := dGX12_719.2.1
theorem dX12_laysFar_72 : decode cX12_laysFar 72 = .ok (.iload 6, 2) := dGX12_719.2.2.1
theorem dX12_laysFar_74 : decode cX12_laysFar 74 = .ok (.aload_n 0, 1) := dGX12_719.2.2.2.1
theorem dX12_laysFar_75 : decode cX12_laysFar 75 = .ok (.getfield 182, 3) := dGX12_719.2.2.2.2.1
theorem dX12_laysFar_78 : decode cX12_laysFar 78 = .ok (.if_icmp .ge 63, 3) := dGX12_719.2.2.2.2.2
theorem dGX12_720 : decode cX12_laysFar 81 = .ok (.iload 4, 2) ∧ decode cX12_laysFar 83 = .ok (.iload 5, 2) ∧ decode cX12_laysFar 85 = .ok (.invokestatic 362, 3) ∧ decode cX12_laysFar 88 = .ok (.ifCond .eq 47, 3) ∧ decode cX12_laysFar 91 = .ok (.iload 4, 2) ∧ decode cX12_laysFar 93 = .ok (.iload 6, 2) := by decide +kernel
theorem dX12_laysFar_81 : decode cX12_laysFar 81 = .ok (.iload 4, 2) := dGX12_720.1
theorem dX12_laysFar_83 : decode cX12_laysFar 83 = .ok (.iload 5, 2) := dGX12_720.2.1
theorem dX12_laysFar_85 : decode cX12_laysFar 85 = .ok (.invokestatic 362, 3) := dGX12_720.2.2.1
theorem dX12_laysFar_88 : decode cX12_laysFar 88 = .ok (.ifCond .eq 47, 3) := dGX12_720.2.2.2.1
theorem dX12_laysFar_91 : decode cX12_laysFar 91 = .ok (.iload 4, 2) := dGX12_720.2.2.2.2.1
theorem dX12_laysFar_93 : decode cX12_laysFar 93 = .ok (.iload 6, 2) := dGX12_720.2.2.2.2.2
theorem dGX12_721 : decode cX12_laysFar 95 = .ok (.invokestatic 362, 3) ∧ decode cX12_laysFar 98 = .ok (.ifCond .eq 37, 3) ∧ decode cX12_laysFar 101 = .ok (.aload_n 0, 1) ∧ decode cX12_laysFar 102 = .ok (.getfield 169, 3) ∧ decode cX12_laysFar 105 = .ok (.iload 6, 2) ∧ decode cX12_laysFar 107 = .ok (.iaload, 1) := by decide +kernel
theorem dX12_laysFar_95 : decode cX12_laysFar 95 = .ok (.invokestatic 362, 3) := dGX12_721.1
theorem dX12_laysFar_98 : decode cX12_laysFar 98 = .ok (.ifCond .eq 37, 3) := dGX12_721.2.1
theorem dX12_laysFar_101 : decode cX12_laysFar 101 = .ok (.aload_n 0, 1) := dGX12_721.2.2.1
theorem dX12_laysFar_102 : decode cX12_laysFar 102 = .ok (.getfield 169, 3) := dGX12_721.2.2.2.1
theorem dX12_laysFar_105 : decode cX12_laysFar 105 = .ok (.iload 6, 2) := dGX12_721.2.2.2.2.1
theorem dX12_laysFar_107 : decode cX12_laysFar 107 = .ok (.iaload, 1) := dGX12_721.2.2.2.2.2
theorem dGX12_722 : decode cX12_laysFar 108 = .ok (.iload_n 2, 1) ∧ decode cX12_laysFar 109 = .ok (.if_icmp .ne 26, 3) ∧ decode cX12_laysFar 112 = .ok (.aload_n 0, 1) ∧ decode cX12_laysFar 113 = .ok (.getfield 169, 3) ∧ decode cX12_laysFar 116 = .ok (.iload 5, 2) ∧ decode cX12_laysFar 118 = .ok (.iaload, 1) := by decide +kernel
theorem dX12_laysFar_108 : decode cX12_laysFar 108 = .ok (.iload_n 2, 1) := dGX12_722.1
theorem dX12_laysFar_109 : decode cX12_laysFar 109 = .ok (.if_icmp .ne 26, 3) := dGX12_722.2.1
theorem dX12_laysFar_112 : decode cX12_laysFar 112 = .ok (.aload_n 0, 1) := dGX12_722.2.2.1
theorem dX12_laysFar_113 : decode cX12_laysFar 113 = .ok (.getfield 169, 3) := dGX12_722.2.2.2.1
theorem dX12_laysFar_116 : decode cX12_laysFar 116 = .ok (.iload 5, 2) := dGX12_722.2.2.2.2.1
theorem dX12_laysFar_118 : decode cX12_laysFar 118 = .ok (.iaload, 1) := dGX12_722.2.2.2.2.2
theorem dGX12_723 : decode cX12_laysFar 119 = .ok (.iload_n 2, 1) ∧ decode cX12_laysFar 120 = .ok (.iconst 1, 1) ∧ decode cX12_laysFar 121 = .ok (.iadd, 1) ∧ decode cX12_laysFar 122 = .ok (.if_icmp .le 13, 3) ∧ decode cX12_laysFar 125 = .ok (.aload_n 0, 1) ∧ decode cX12_laysFar 126 = .ok (.getfield 169, 3) := by decide +kernel
theorem dX12_laysFar_119 : decode cX12_laysFar 119 = .ok (.iload_n 2, 1) := dGX12_723.1
theorem dX12_laysFar_120 : decode cX12_laysFar 120 = .ok (.iconst 1, 1) := dGX12_723.2.1
theorem dX12_laysFar_121 : decode cX12_laysFar 121 = .ok (.iadd, 1) := dGX12_723.2.2.1
theorem dX12_laysFar_122 : decode cX12_laysFar 122 = .ok (.if_icmp .le 13, 3) := dGX12_723.2.2.2.1
theorem dX12_laysFar_125 : decode cX12_laysFar 125 = .ok (.aload_n 0, 1) := dGX12_723.2.2.2.2.1
theorem dX12_laysFar_126 : decode cX12_laysFar 126 = .ok (.getfield 169, 3) := dGX12_723.2.2.2.2.2
theorem dGX12_724 : decode cX12_laysFar 129 = .ok (.iload 5, 2) ∧ decode cX12_laysFar 131 = .ok (.iload_n 2, 1) ∧ decode cX12_laysFar 132 = .ok (.iconst 1, 1) ∧ decode cX12_laysFar 133 = .ok (.iadd, 1) ∧ decode cX12_laysFar 134 = .ok (.iastore, 1) ∧ decode cX12_laysFar 135 = .ok (.iinc 6 1, 3) := by decide +kernel
theorem dX12_laysFar_129 : decode cX12_laysFar 129 = .ok (.iload 5, 2) := dGX12_724.1
theorem dX12_laysFar_131 : decode cX12_laysFar 131 = .ok (.iload_n 2, 1) := dGX12_724.2.1
theorem dX12_laysFar_132 : decode cX12_laysFar 132 = .ok (.iconst 1, 1) := dGX12_724.2.2.1
theorem dX12_laysFar_133 : decode cX12_laysFar 133 = .ok (.iadd, 1) := dGX12_724.2.2.2.1
theorem dX12_laysFar_134 : decode cX12_laysFar 134 = .ok (.iastore, 1) := dGX12_724.2.2.2.2.1
theorem dX12_laysFar_135 : decode cX12_laysFar 135 = .ok (.iinc 6 1, 3) := dGX12_724.2.2.2.2.2
theorem dGX12_725 : decode cX12_laysFar 138 = .ok (.goto (-66), 3) ∧ decode cX12_laysFar 141 = .ok (.iinc 5 1, 3) ∧ decode cX12_laysFar 144 = .ok (.goto (-84), 3) ∧ decode cX12_laysFar 147 = .ok (.iinc 3 1, 3) ∧ decode cX12_laysFar 150 = .ok (.goto (-108), 3) ∧ decode cX12_laysFar 153 = .ok (.iinc 2 1, 3) := by decide +kernel
theorem dX12_laysFar_138 : decode cX12_laysFar 138 = .ok (.goto (-66), 3) := dGX12_725.1
theorem dX12_laysFar_141 : decode cX12_laysFar 141 = .ok (.iinc 5 1, 3) := dGX12_725.2.1
theorem dX12_laysFar_144 : decode cX12_laysFar 144 = .ok (.goto (-84), 3) := dGX12_725.2.2.1
theorem dX12_laysFar_147 : decode cX12_laysFar 147 = .ok (.iinc 3 1, 3) := dGX12_725.2.2.2.1
theorem dX12_laysFar_150 : decode cX12_laysFar 150 = .ok (.goto (-108), 3) := dGX12_725.2.2.2.2.1
theorem dX12_laysFar_153 : decode cX12_laysFar 153 = .ok (.iinc 2 1, 3) := dGX12_725.2.2.2.2.2
theorem dGX12_726 : decode cX12_laysFar 156 = .ok (.goto (-122), 3) ∧ decode cX12_laysFar 159 = .ok (.return_, 1) ∧ decode cX12_thoseAt 0 = .ok (.iconst 0, 1) ∧ decode cX12_thoseAt 1 = .ok (.istore_n 3, 1) ∧ decode cX12_thoseAt 2 = .ok (.iconst 0, 1) ∧ decode cX12_thoseAt 3 = .ok (.istore 4, 2) := by decide +kernel
theorem dX12_laysFar_156 : decode cX12_laysFar 156 = .ok (.goto (-122), 3) := dGX12_726.1
theorem dX12_laysFar_159 : decode cX12_laysFar 159 = .ok (.return_, 1) := dGX12_726.2.1
theorem dX12_thoseAt_0 : decode cX12_thoseAt 0 = .ok (.iconst 0, 1) := dGX12_726.2.2.1
theorem dX12_thoseAt_1 : decode cX12_thoseAt 1 = .ok (.istore_n 3, 1) := dGX12_726.2.2.2.1
theorem dX12_thoseAt_2 : decode cX12_thoseAt 2 = .ok (.iconst 0, 1) := dGX12_726.2.2.2.2.1
theorem dX12_thoseAt_3 : decode cX12_thoseAt 3 = .ok (.istore 4, 2) := dGX12_726.2.2.2.2.2
theorem dGX12_727 : decode cX12_thoseAt 5 = .ok (.iload 4, 2) ∧ decode cX12_thoseAt 7 = .ok (.aload_n 0, 1) ∧ decode cX12_thoseAt 8 = .ok (.getfield 182, 3) ∧ decode cX12_thoseAt 11 = .ok (.if_icmp .ge 40, 3) ∧ decode cX12_thoseAt 14 = .ok (.iload_n 3, 1) ∧ decode cX12_thoseAt 15 = .ok (.iload_n 1, 1) := by decide +kernel
theorem dX12_thoseAt_5 : decode cX12_thoseAt 5 = .ok (.iload 4, 2) := dGX12_727.1
theorem dX12_thoseAt_7 : decode cX12_thoseAt 7 = .ok (.aload_n 0, 1) := dGX12_727.2.1
theorem dX12_thoseAt_8 : decode cX12_thoseAt 8 = .ok (.getfield 182, 3) := dGX12_727.2.2.1
theorem dX12_thoseAt_11 : decode cX12_thoseAt 11 = .ok (.if_icmp .ge 40, 3) := dGX12_727.2.2.2.1
theorem dX12_thoseAt_14 : decode cX12_thoseAt 14 = .ok (.iload_n 3, 1) := dGX12_727.2.2.2.2.1
theorem dX12_thoseAt_15 : decode cX12_thoseAt 15 = .ok (.iload_n 1, 1) := dGX12_727.2.2.2.2.2
theorem dGX12_728 : decode cX12_thoseAt 16 = .ok (.iload 4, 2) ∧ decode cX12_thoseAt 18 = .ok (.invokestatic 362, 3) ∧ decode cX12_thoseAt 21 = .ok (.ifCond .eq 21, 3) ∧ decode cX12_thoseAt 24 = .ok (.aload_n 0, 1) ∧ decode cX12_thoseAt 25 = .ok (.getfield 169, 3) ∧ decode cX12_thoseAt 28 = .ok (.iload 4, 2) := by decide +kernel
theorem dX12_thoseAt_16 : decode cX12_thoseAt 16 = .ok (.iload 4, 2) := dGX12_728.1
theorem dX12_thoseAt_18 : decode cX12_thoseAt 18 = .ok (.invokestatic 362, 3) := dGX12_728.2.1
theorem dX12_thoseAt_21 : decode cX12_thoseAt 21 = .ok (.ifCond .eq 21, 3) := dGX12_728.2.2.1
theorem dX12_thoseAt_24 : decode cX12_thoseAt 24 = .ok (.aload_n 0, 1) := dGX12_728.2.2.2.1
theorem dX12_thoseAt_25 : decode cX12_thoseAt 25 = .ok (.getfield 169, 3) := dGX12_728.2.2.2.2.1
theorem dX12_thoseAt_28 : decode cX12_thoseAt 28 = .ok (.iload 4, 2) := dGX12_728.2.2.2.2.2
theorem dGX12_729 : decode cX12_thoseAt 30 = .ok (.iaload, 1) ∧ decode cX12_thoseAt 31 = .ok (.iload_n 2, 1) ∧ decode cX12_thoseAt 32 = .ok (.if_icmp .ne 10, 3) ∧ decode cX12_thoseAt 35 = .ok (.iconst 1, 1) ∧ decode cX12_thoseAt 36 = .ok (.iload 4, 2) ∧ decode cX12_thoseAt 38 = .ok (.ishl, 1) := by decide +kernel
theorem dX12_thoseAt_30 : decode cX12_thoseAt 30 = .ok (.iaload, 1) := dGX12_729.1
theorem dX12_thoseAt_31 : decode cX12_thoseAt 31 = .ok (.iload_n 2, 1) := dGX12_729.2.1
theorem dX12_thoseAt_32 : decode cX12_thoseAt 32 = .ok (.if_icmp .ne 10, 3) := dGX12_729.2.2.1
theorem dX12_thoseAt_35 : decode cX12_thoseAt 35 = .ok (.iconst 1, 1) := dGX12_729.2.2.2.1
theorem dX12_thoseAt_36 : decode cX12_thoseAt 36 = .ok (.iload 4, 2) := dGX12_729.2.2.2.2.1
theorem dX12_thoseAt_38 : decode cX12_thoseAt 38 = .ok (.ishl, 1) := dGX12_729.2.2.2.2.2
theorem dGX12_730 : decode cX12_thoseAt 39 = .ok (.goto 4, 3) ∧ decode cX12_thoseAt 42 = .ok (.iconst 0, 1) ∧ decode cX12_thoseAt 43 = .ok (.ior, 1) ∧ decode cX12_thoseAt 44 = .ok (.istore_n 3, 1) ∧ decode cX12_thoseAt 45 = .ok (.iinc 4 1, 3) ∧ decode cX12_thoseAt 48 = .ok (.goto (-43), 3) := by decide +kernel
theorem dX12_thoseAt_39 : decode cX12_thoseAt 39 = .ok (.goto 4, 3) := dGX12_730.1
theorem dX12_thoseAt_42 : decode cX12_thoseAt 42 = .ok (.iconst 0, 1) := dGX12_730.2.1
theorem dX12_thoseAt_43 : decode cX12_thoseAt 43 = .ok (.ior, 1) := dGX12_730.2.2.1
theorem dX12_thoseAt_44 : decode cX12_thoseAt 44 = .ok (.istore_n 3, 1) := dGX12_730.2.2.2.1
theorem dX12_thoseAt_45 : decode cX12_thoseAt 45 = .ok (.iinc 4 1, 3) := dGX12_730.2.2.2.2.1
theorem dX12_thoseAt_48 : decode cX12_thoseAt 48 = .ok (.goto (-43), 3) := dGX12_730.2.2.2.2.2
theorem dGX12_731 : decode cX12_thoseAt 51 = .ok (.iload_n 3, 1) ∧ decode cX12_thoseAt 52 = .ok (.ireturn, 1) ∧ decode cX12_chain 0 = .ok (.aload_n 0, 1) ∧ decode cX12_chain 1 = .ok (.iload_n 1, 1) ∧ decode cX12_chain 2 = .ok (.invokevirtual 201, 3) ∧ decode cX12_chain 5 = .ok (.ifCond .eq 25, 3) := by decide +kernel
theorem dX12_thoseAt_51 : decode cX12_thoseAt 51 = .ok (.iload_n 3, 1) := dGX12_731.1
theorem dX12_thoseAt_52 : decode cX12_thoseAt 52 = .ok (.ireturn, 1) := dGX12_731.2.1
theorem dX12_chain_0 : decode cX12_chain 0 = .ok (.aload_n 0, 1) := dGX12_731.2.2.1
theorem dX12_chain_1 : decode cX12_chain 1 = .ok (.iload_n 1, 1) := dGX12_731.2.2.2.1
theorem dX12_chain_2 : decode cX12_chain 2 = .ok (.invokevirtual 201, 3) := dGX12_731.2.2.2.2.1
theorem dX12_chain_5 : decode cX12_chain 5 = .ok (.ifCond .eq 25, 3) := dGX12_731.2.2.2.2.2
theorem dGX12_732 : decode cX12_chain 8 = .ok (.aload_n 0, 1) ∧ decode cX12_chain 9 = .ok (.iload_n 2, 1) ∧ decode cX12_chain 10 = .ok (.invokevirtual 201, 3) ∧ decode cX12_chain 13 = .ok (.ifCond .eq 17, 3) ∧ decode cX12_chain 16 = .ok (.iload_n 3, 1) ∧ decode cX12_chain 17 = .ok (.i2l, 1) := by decide +kernel
theorem dX12_chain_8 : decode cX12_chain 8 = .ok (.aload_n 0, 1) := dGX12_732.1
theorem dX12_chain_9 : decode cX12_chain 9 = .ok (.iload_n 2, 1) := dGX12_732.2.1
theorem dX12_chain_10 : decode cX12_chain 10 = .ok (.invokevirtual 201, 3) := dGX12_732.2.2.1
theorem dX12_chain_13 : decode cX12_chain 13 = .ok (.ifCond .eq 17, 3) := dGX12_732.2.2.2.1
theorem dX12_chain_16 : decode cX12_chain 16 = .ok (.iload_n 3, 1) := dGX12_732.2.2.2.2.1
theorem dX12_chain_17 : decode cX12_chain 17 = .ok (.i2l, 1) := dGX12_732.2.2.2.2.2
theorem dGX12_733 : decode cX12_chain 18 = .ok (.ldc2_w 482, 3) ∧ decode cX12_chain 21 = .ok (.ldc2_w 491, 3) ∧ decode cX12_chain 24 = .ok (.invokestatic 175, 3) ∧ decode cX12_chain 27 = .ok (.ifCond .ne 6, 3) ∧ decode cX12_chain 30 = .ok (.bipush (-3), 2) ∧ decode cX12_chain 32 = .ok (.ireturn, 1) := by decide +kernel
theorem dX12_chain_18 : decode cX12_chain 18 = .ok (.ldc2_w 482, 3) := dGX12_733.1
theorem dX12_chain_21 : decode cX12_chain 21 = .ok (.ldc2_w 491, 3) := dGX12_733.2.1
theorem dX12_chain_24 : decode cX12_chain 24 = .ok (.invokestatic 175, 3) := dGX12_733.2.2.1
theorem dX12_chain_27 : decode cX12_chain 27 = .ok (.ifCond .ne 6, 3) := dGX12_733.2.2.2.1
theorem dX12_chain_30 : decode cX12_chain 30 = .ok (.bipush (-3), 2) := dGX12_733.2.2.2.2.1
theorem dX12_chain_32 : decode cX12_chain 32 = .ok (.ireturn, 1) := dGX12_733.2.2.2.2.2
theorem dGX12_734 : decode cX12_chain 33 = .ok (.aload_n 0, 1) ∧ decode cX12_chain 34 = .ok (.iload_n 2, 1) ∧ decode cX12_chain 35 = .ok (.invokevirtual 493, 3) ∧ decode cX12_chain 38 = .ok (.aload_n 0, 1) ∧ decode cX12_chain 39 = .ok (.getfield 169, 3) ∧ decode cX12_chain 42 = .ok (.iload_n 1, 1) := by decide +kernel
theorem dX12_chain_33 : decode cX12_chain 33 = .ok (.aload_n 0, 1) := dGX12_734.1
theorem dX12_chain_34 : decode cX12_chain 34 = .ok (.iload_n 2, 1) := dGX12_734.2.1
theorem dX12_chain_35 : decode cX12_chain 35 = .ok (.invokevirtual 493, 3) := dGX12_734.2.2.1
theorem dX12_chain_38 : decode cX12_chain 38 = .ok (.aload_n 0, 1) := dGX12_734.2.2.2.1
theorem dX12_chain_39 : decode cX12_chain 39 = .ok (.getfield 169, 3) := dGX12_734.2.2.2.2.1
theorem dX12_chain_42 : decode cX12_chain 42 = .ok (.iload_n 1, 1) := dGX12_734.2.2.2.2.2
theorem dGX12_735 : decode cX12_chain 43 = .ok (.iaload, 1) ∧ decode cX12_chain 44 = .ok (.istore 4, 2) ∧ decode cX12_chain 46 = .ok (.iload 4, 2) ∧ decode cX12_chain 48 = .ok (.ldc_w 434, 3) ∧ decode cX12_chain 51 = .ok (.if_icmp .ne 6, 3) ∧ decode cX12_chain 54 = .ok (.bipush (-2), 2) := by decide +kernel
theorem dX12_chain_43 : decode cX12_chain 43 = .ok (.iaload, 1) := dGX12_735.1
theorem dX12_chain_44 : decode cX12_chain 44 = .ok (.istore 4, 2) := dGX12_735.2.1
theorem dX12_chain_46 : decode cX12_chain 46 = .ok (.iload 4, 2) := dGX12_735.2.2.1
theorem dX12_chain_48 : decode cX12_chain 48 = .ok (.ldc_w 434, 3) := dGX12_735.2.2.2.1
theorem dX12_chain_51 : decode cX12_chain 51 = .ok (.if_icmp .ne 6, 3) := dGX12_735.2.2.2.2.1
theorem dX12_chain_54 : decode cX12_chain 54 = .ok (.bipush (-2), 2) := dGX12_735.2.2.2.2.2
theorem dGX12_736 : decode cX12_chain 56 = .ok (.ireturn, 1) ∧ decode cX12_chain 57 = .ok (.iload_n 3, 1) ∧ decode cX12_chain 58 = .ok (.iconst (-1), 1) ∧ decode cX12_chain 59 = .ok (.if_icmp .ne 6, 3) ∧ decode cX12_chain 62 = .ok (.iload 4, 2) ∧ decode cX12_chain 64 = .ok (.ireturn, 1) := by decide +kernel
theorem dX12_chain_56 : decode cX12_chain 56 = .ok (.ireturn, 1) := dGX12_736.1
theorem dX12_chain_57 : decode cX12_chain 57 = .ok (.iload_n 3, 1) := dGX12_736.2.1
theorem dX12_chain_58 : decode cX12_chain 58 = .ok (.iconst (-1), 1) := dGX12_736.2.2.1
theorem dX12_chain_59 : decode cX12_chain 59 = .ok (.if_icmp .ne 6, 3) := dGX12_736.2.2.2.1
theorem dX12_chain_62 : decode cX12_chain 62 = .ok (.iload 4, 2) := dGX12_736.2.2.2.2.1
theorem dX12_chain_64 : decode cX12_chain 64 = .ok (.ireturn, 1) := dGX12_736.2.2.2.2.2
theorem dGX12_737 : decode cX12_chain 65 = .ok (.iload_n 3, 1) ∧ decode cX12_chain 66 = .ok (.iload 4, 2) ∧ decode cX12_chain 68 = .ok (.if_icmp .lt 6, 3) ∧ decode cX12_chain 71 = .ok (.bipush (-3), 2) ∧ decode cX12_chain 73 = .ok (.ireturn, 1) ∧ decode cX12_chain 74 = .ok (.iconst 1, 1) := by decide +kernel
theorem dX12_chain_65 : decode cX12_chain 65 = .ok (.iload_n 3, 1) := dGX12_737.1
theorem dX12_chain_66 : decode cX12_chain 66 = .ok (.iload 4, 2) := dGX12_737.2.1
theorem dX12_chain_68 : decode cX12_chain 68 = .ok (.if_icmp .lt 6, 3) := dGX12_737.2.2.1
theorem dX12_chain_71 : decode cX12_chain 71 = .ok (.bipush (-3), 2) := dGX12_737.2.2.2.1
theorem dX12_chain_73 : decode cX12_chain 73 = .ok (.ireturn, 1) := dGX12_737.2.2.2.2.1
theorem dX12_chain_74 : decode cX12_chain 74 = .ok (.iconst 1, 1) := dGX12_737.2.2.2.2.2
theorem dGX12_738 : decode cX12_chain 75 = .ok (.iload_n 1, 1) ∧ decode cX12_chain 76 = .ok (.ishl, 1) ∧ decode cX12_chain 77 = .ok (.istore 5, 2) ∧ decode cX12_chain 79 = .ok (.iconst 0, 1) ∧ decode cX12_chain 80 = .ok (.istore 6, 2) ∧ decode cX12_chain 82 = .ok (.iconst 0, 1) := by decide +kernel
theorem dX12_chain_75 : decode cX12_chain 75 = .ok (.iload_n 1, 1) := dGX12_738.1
theorem dX12_chain_76 : decode cX12_chain 76 = .ok (.ishl, 1) := dGX12_738.2.1
theorem dX12_chain_77 : decode cX12_chain 77 = .ok (.istore 5, 2) := dGX12_738.2.2.1
theorem dX12_chain_79 : decode cX12_chain 79 = .ok (.iconst 0, 1) := dGX12_738.2.2.2.1
theorem dX12_chain_80 : decode cX12_chain 80 = .ok (.istore 6, 2) := dGX12_738.2.2.2.2.1
theorem dX12_chain_82 : decode cX12_chain 82 = .ok (.iconst 0, 1) := dGX12_738.2.2.2.2.2
theorem dGX12_739 : decode cX12_chain 83 = .ok (.istore 7, 2) ∧ decode cX12_chain 85 = .ok (.iload 7, 2) ∧ decode cX12_chain 87 = .ok (.iload_n 3, 1) ∧ decode cX12_chain 88 = .ok (.if_icmp .gt 69, 3) ∧ decode cX12_chain 91 = .ok (.iconst 0, 1) ∧ decode cX12_chain 92 = .ok (.istore 6, 2) := by decide +kernel
theorem dX12_chain_83 : decode cX12_chain 83 = .ok (.istore 7, 2) := dGX12_739.1
theorem dX12_chain_85 : decode cX12_chain 85 = .ok (.iload 7, 2) := dGX12_739.2.1
theorem dX12_chain_87 : decode cX12_chain 87 = .ok (.iload_n 3, 1) := dGX12_739.2.2.1
theorem dX12_chain_88 : decode cX12_chain 88 = .ok (.if_icmp .gt 69, 3) := dGX12_739.2.2.2.1
theorem dX12_chain_91 : decode cX12_chain 91 = .ok (.iconst 0, 1) := dGX12_739.2.2.2.2.1
theorem dX12_chain_92 : decode cX12_chain 92 = .ok (.istore 6, 2) := dGX12_739.2.2.2.2.2
theorem dGX12_740 : decode cX12_chain 94 = .ok (.aload_n 0, 1) ∧ decode cX12_chain 95 = .ok (.iload 6, 2) ∧ decode cX12_chain 97 = .ok (.invokevirtual 488, 3) ∧ decode cX12_chain 100 = .ok (.iload 5, 2) ∧ decode cX12_chain 102 = .ok (.iand, 1) ∧ decode cX12_chain 103 = .ok (.ifCond .eq 23, 3) := by decide +kernel
theorem dX12_chain_94 : decode cX12_chain 94 = .ok (.aload_n 0, 1) := dGX12_740.1
theorem dX12_chain_95 : decode cX12_chain 95 = .ok (.iload 6, 2) := dGX12_740.2.1
theorem dX12_chain_97 : decode cX12_chain 97 = .ok (.invokevirtual 488, 3) := dGX12_740.2.2.1
theorem dX12_chain_100 : decode cX12_chain 100 = .ok (.iload 5, 2) := dGX12_740.2.2.2.1
theorem dX12_chain_102 : decode cX12_chain 102 = .ok (.iand, 1) := dGX12_740.2.2.2.2.1
theorem dX12_chain_103 : decode cX12_chain 103 = .ok (.ifCond .eq 23, 3) := dGX12_740.2.2.2.2.2
theorem dGX12_741 : decode cX12_chain 106 = .ok (.aload_n 0, 1) ∧ decode cX12_chain 107 = .ok (.aload_n 0, 1) ∧ decode cX12_chain 108 = .ok (.iload 6, 2) ∧ decode cX12_chain 110 = .ok (.invokevirtual 488, 3) ∧ decode cX12_chain 113 = .ok (.iload 4, 2) ∧ decode cX12_chain 115 = .ok (.iload 7, 2) := by decide +kernel
theorem dX12_chain_106 : decode cX12_chain 106 = .ok (.aload_n 0, 1) := dGX12_741.1
theorem dX12_chain_107 : decode cX12_chain 107 = .ok (.aload_n 0, 1) := dGX12_741.2.1
theorem dX12_chain_108 : decode cX12_chain 108 = .ok (.iload 6, 2) := dGX12_741.2.2.1
theorem dX12_chain_110 : decode cX12_chain 110 = .ok (.invokevirtual 488, 3) := dGX12_741.2.2.2.1
theorem dX12_chain_113 : decode cX12_chain 113 = .ok (.iload 4, 2) := dGX12_741.2.2.2.2.1
theorem dX12_chain_115 : decode cX12_chain 115 = .ok (.iload 7, 2) := dGX12_741.2.2.2.2.2
theorem dGX12_742 : decode cX12_chain 117 = .ok (.isub, 1) ∧ decode cX12_chain 118 = .ok (.iconst 1, 1) ∧ decode cX12_chain 119 = .ok (.isub, 1) ∧ decode cX12_chain 120 = .ok (.invokevirtual 496, 3) ∧ decode cX12_chain 123 = .ok (.ifCond .ne 9, 3) ∧ decode cX12_chain 126 = .ok (.iinc 6 1, 3) := by decide +kernel
theorem dX12_chain_117 : decode cX12_chain 117 = .ok (.isub, 1) := dGX12_742.1
theorem dX12_chain_118 : decode cX12_chain 118 = .ok (.iconst 1, 1) := dGX12_742.2.1
theorem dX12_chain_119 : decode cX12_chain 119 = .ok (.isub, 1) := dGX12_742.2.2.1
theorem dX12_chain_120 : decode cX12_chain 120 = .ok (.invokevirtual 496, 3) := dGX12_742.2.2.2.1
theorem dX12_chain_123 : decode cX12_chain 123 = .ok (.ifCond .ne 9, 3) := dGX12_742.2.2.2.2.1
theorem dX12_chain_126 : decode cX12_chain 126 = .ok (.iinc 6 1, 3) := dGX12_742.2.2.2.2.2
theorem dGX12_743 : decode cX12_chain 129 = .ok (.goto (-35), 3) ∧ decode cX12_chain 132 = .ok (.aload_n 0, 1) ∧ decode cX12_chain 133 = .ok (.aload_n 0, 1) ∧ decode cX12_chain 134 = .ok (.iload 6, 2) ∧ decode cX12_chain 136 = .ok (.invokevirtual 488, 3) ∧ decode cX12_chain 139 = .ok (.iload 4, 2) := by decide +kernel
theorem dX12_chain_129 : decode cX12_chain 129 = .ok (.goto (-35), 3) := dGX12_743.1
theorem dX12_chain_132 : decode cX12_chain 132 = .ok (.aload_n 0, 1) := dGX12_743.2.1
theorem dX12_chain_133 : decode cX12_chain 133 = .ok (.aload_n 0, 1) := dGX12_743.2.2.1
theorem dX12_chain_134 : decode cX12_chain 134 = .ok (.iload 6, 2) := dGX12_743.2.2.2.1
theorem dX12_chain_136 : decode cX12_chain 136 = .ok (.invokevirtual 488, 3) := dGX12_743.2.2.2.2.1
theorem dX12_chain_139 : decode cX12_chain 139 = .ok (.iload 4, 2) := dGX12_743.2.2.2.2.2
theorem dGX12_744 : decode cX12_chain 141 = .ok (.iload 7, 2) ∧ decode cX12_chain 143 = .ok (.isub, 1) ∧ decode cX12_chain 144 = .ok (.iconst 1, 1) ∧ decode cX12_chain 145 = .ok (.isub, 1) ∧ decode cX12_chain 146 = .ok (.invokevirtual 496, 3) ∧ decode cX12_chain 149 = .ok (.istore 5, 2) := by decide +kernel
theorem dX12_chain_141 : decode cX12_chain 141 = .ok (.iload 7, 2) := dGX12_744.1
theorem dX12_chain_143 : decode cX12_chain 143 = .ok (.isub, 1) := dGX12_744.2.1
theorem dX12_chain_144 : decode cX12_chain 144 = .ok (.iconst 1, 1) := dGX12_744.2.2.1
theorem dX12_chain_145 : decode cX12_chain 145 = .ok (.isub, 1) := dGX12_744.2.2.2.1
theorem dX12_chain_146 : decode cX12_chain 146 = .ok (.invokevirtual 496, 3) := dGX12_744.2.2.2.2.1
theorem dX12_chain_149 : decode cX12_chain 149 = .ok (.istore 5, 2) := dGX12_744.2.2.2.2.2
theorem dGX12_745 : decode cX12_chain 151 = .ok (.iinc 7 1, 3) ∧ decode cX12_chain 154 = .ok (.goto (-69), 3) ∧ decode cX12_chain 157 = .ok (.iload 6, 2) ∧ decode cX12_chain 159 = .ok (.ireturn, 1) ∧ decode cX12_divisor 0 = .ok (.iload_n 0, 1) ∧ decode cX12_divisor 1 = .ok (.istore_n 2, 1) := by decide +kernel
theorem dX12_chain_151 : decode cX12_chain 151 = .ok (.iinc 7 1, 3) := dGX12_745.1
theorem dX12_chain_154 : decode cX12_chain 154 = .ok (.goto (-69), 3) := dGX12_745.2.1
theorem dX12_chain_157 : decode cX12_chain 157 = .ok (.iload 6, 2) := dGX12_745.2.2.1
theorem dX12_chain_159 : decode cX12_chain 159 = .ok (.ireturn, 1) := dGX12_745.2.2.2.1
theorem dX12_divisor_0 : decode cX12_divisor 0 = .ok (.iload_n 0, 1) := dGX12_745.2.2.2.2.1
theorem dX12_divisor_1 : decode cX12_divisor 1 = .ok (.istore_n 2, 1) := dGX12_745.2.2.2.2.2
theorem dGX12_746 : decode cX12_divisor 2 = .ok (.iload_n 1, 1) ∧ decode cX12_divisor 3 = .ok (.istore_n 3, 1) ∧ decode cX12_divisor 4 = .ok (.iload_n 3, 1) ∧ decode cX12_divisor 5 = .ok (.ifCond .eq 16, 3) ∧ decode cX12_divisor 8 = .ok (.iload_n 2, 1) ∧ decode cX12_divisor 9 = .ok (.iload_n 3, 1) := by decide +kernel
theorem dX12_divisor_2 : decode cX12_divisor 2 = .ok (.iload_n 1, 1) := dGX12_746.1
theorem dX12_divisor_3 : decode cX12_divisor 3 = .ok (.istore_n 3, 1) := dGX12_746.2.1
theorem dX12_divisor_4 : decode cX12_divisor 4 = .ok (.iload_n 3, 1) := dGX12_746.2.2.1
theorem dX12_divisor_5 : decode cX12_divisor 5 = .ok (.ifCond .eq 16, 3) := dGX12_746.2.2.2.1
theorem dX12_divisor_8 : decode cX12_divisor 8 = .ok (.iload_n 2, 1) := dGX12_746.2.2.2.2.1
theorem dX12_divisor_9 : decode cX12_divisor 9 = .ok (.iload_n 3, 1) := dGX12_746.2.2.2.2.2
theorem dGX12_747 : decode cX12_divisor 10 = .ok (.irem, 1) ∧ decode cX12_divisor 11 = .ok (.istore 4, 2) ∧ decode cX12_divisor 13 = .ok (.iload_n 3, 1) ∧ decode cX12_divisor 14 = .ok (.istore_n 2, 1) ∧ decode cX12_divisor 15 = .ok (.iload 4, 2) ∧ decode cX12_divisor 17 = .ok (.istore_n 3, 1) := by decide +kernel
theorem dX12_divisor_10 : decode cX12_divisor 10 = .ok (.irem, 1) := dGX12_747.1
theorem dX12_divisor_11 : decode cX12_divisor 11 = .ok (.istore 4, 2) := dGX12_747.2.1
theorem dX12_divisor_13 : decode cX12_divisor 13 = .ok (.iload_n 3, 1) := dGX12_747.2.2.1
theorem dX12_divisor_14 : decode cX12_divisor 14 = .ok (.istore_n 2, 1) := dGX12_747.2.2.2.1
theorem dX12_divisor_15 : decode cX12_divisor 15 = .ok (.iload 4, 2) := dGX12_747.2.2.2.2.1
theorem dX12_divisor_17 : decode cX12_divisor 17 = .ok (.istore_n 3, 1) := dGX12_747.2.2.2.2.2
theorem dGX12_748 : decode cX12_divisor 18 = .ok (.goto (-14), 3) ∧ decode cX12_divisor 21 = .ok (.iload_n 2, 1) ∧ decode cX12_divisor 22 = .ok (.ireturn, 1) ∧ decode cX12_odds 0 = .ok (.aload_n 0, 1) ∧ decode cX12_odds 1 = .ok (.iload_n 1, 1) ∧ decode cX12_odds 2 = .ok (.invokevirtual 201, 3) := by decide +kernel
theorem dX12_divisor_18 : decode cX12_divisor 18 = .ok (.goto (-14), 3) := dGX12_748.1
theorem dX12_divisor_21 : decode cX12_divisor 21 = .ok (.iload_n 2, 1) := dGX12_748.2.1
theorem dX12_divisor_22 : decode cX12_divisor 22 = .ok (.ireturn, 1) := dGX12_748.2.2.1
theorem dX12_odds_0 : decode cX12_odds 0 = .ok (.aload_n 0, 1) := dGX12_748.2.2.2.1
theorem dX12_odds_1 : decode cX12_odds 1 = .ok (.iload_n 1, 1) := dGX12_748.2.2.2.2.1
theorem dX12_odds_2 : decode cX12_odds 2 = .ok (.invokevirtual 201, 3) := dGX12_748.2.2.2.2.2
theorem dGX12_749 : decode cX12_odds 5 = .ok (.ifCond .eq 38, 3) ∧ decode cX12_odds 8 = .ok (.iload_n 2, 1) ∧ decode cX12_odds 9 = .ok (.i2l, 1) ∧ decode cX12_odds 10 = .ok (.lconst 1, 1) ∧ decode cX12_odds 11 = .ok (.ldc2_w 417, 3) ∧ decode cX12_odds 14 = .ok (.invokestatic 175, 3) := by decide +kernel
theorem dX12_odds_5 : decode cX12_odds 5 = .ok (.ifCond .eq 38, 3) := dGX12_749.1
theorem dX12_odds_8 : decode cX12_odds 8 = .ok (.iload_n 2, 1) := dGX12_749.2.1
theorem dX12_odds_9 : decode cX12_odds 9 = .ok (.i2l, 1) := dGX12_749.2.2.1
theorem dX12_odds_10 : decode cX12_odds 10 = .ok (.lconst 1, 1) := dGX12_749.2.2.2.1
theorem dX12_odds_11 : decode cX12_odds 11 = .ok (.ldc2_w 417, 3) := dGX12_749.2.2.2.2.1
theorem dX12_odds_14 : decode cX12_odds 14 = .ok (.invokestatic 175, 3) := dGX12_749.2.2.2.2.2
theorem dGX12_750 : decode cX12_odds 17 = .ok (.ifCond .eq 26, 3) ∧ decode cX12_odds 20 = .ok (.iload_n 3, 1) ∧ decode cX12_odds 21 = .ok (.i2l, 1) ∧ decode cX12_odds 22 = .ok (.lconst 0, 1) ∧ decode cX12_odds 23 = .ok (.ldc2_w 499, 3) ∧ decode cX12_odds 26 = .ok (.invokestatic 175, 3) := by decide +kernel
theorem dX12_odds_17 : decode cX12_odds 17 = .ok (.ifCond .eq 26, 3) := dGX12_750.1
theorem dX12_odds_20 : decode cX12_odds 20 = .ok (.iload_n 3, 1) := dGX12_750.2.1
theorem dX12_odds_21 : decode cX12_odds 21 = .ok (.i2l, 1) := dGX12_750.2.2.1
theorem dX12_odds_22 : decode cX12_odds 22 = .ok (.lconst 0, 1) := dGX12_750.2.2.2.1
theorem dX12_odds_23 : decode cX12_odds 23 = .ok (.ldc2_w 499, 3) := dGX12_750.2.2.2.2.1
theorem dX12_odds_26 : decode cX12_odds 26 = .ok (.invokestatic 175, 3) := dGX12_750.2.2.2.2.2
theorem dGX12_751 : decode cX12_odds 29 = .ok (.ifCond .eq 14, 3) ∧ decode cX12_odds 32 = .ok (.iload 4, 2) ∧ decode cX12_odds 34 = .ok (.i2l, 1) ∧ decode cX12_odds 35 = .ok (.lconst 0, 1) ∧ decode cX12_odds 36 = .ok (.lconst 1, 1) ∧ decode cX12_odds 37 = .ok (.invokestatic 175, 3) := by decide +kernel
theorem dX12_odds_29 : decode cX12_odds 29 = .ok (.ifCond .eq 14, 3) := dGX12_751.1
theorem dX12_odds_32 : decode cX12_odds 32 = .ok (.iload 4, 2) := dGX12_751.2.1
theorem dX12_odds_34 : decode cX12_odds 34 = .ok (.i2l, 1) := dGX12_751.2.2.1
theorem dX12_odds_35 : decode cX12_odds 35 = .ok (.lconst 0, 1) := dGX12_751.2.2.2.1
theorem dX12_odds_36 : decode cX12_odds 36 = .ok (.lconst 1, 1) := dGX12_751.2.2.2.2.1
theorem dX12_odds_37 : decode cX12_odds 37 = .ok (.invokestatic 175, 3) := dGX12_751.2.2.2.2.2
theorem dGX12_752 : decode cX12_odds 40 = .ok (.ifCond .ne 5, 3) ∧ decode cX12_odds 43 = .ok (.iconst (-1), 1) ∧ decode cX12_odds 44 = .ok (.ireturn, 1) ∧ decode cX12_odds 45 = .ok (.iconst 1, 1) ∧ decode cX12_odds 46 = .ok (.istore 5, 2) ∧ decode cX12_odds 48 = .ok (.iconst 0, 1) := by decide +kernel
theorem dX12_odds_40 : decode cX12_odds 40 = .ok (.ifCond .ne 5, 3) := dGX12_752.1
theorem dX12_odds_43 : decode cX12_odds 43 = .ok (.iconst (-1), 1) := dGX12_752.2.1
theorem dX12_odds_44 : decode cX12_odds 44 = .ok (.ireturn, 1) := dGX12_752.2.2.1
theorem dX12_odds_45 : decode cX12_odds 45 = .ok (.iconst 1, 1) := dGX12_752.2.2.2.1
theorem dX12_odds_46 : decode cX12_odds 46 = .ok (.istore 5, 2) := dGX12_752.2.2.2.2.1
theorem dX12_odds_48 : decode cX12_odds 48 = .ok (.iconst 0, 1) := dGX12_752.2.2.2.2.2
theorem dGX12_753 : decode cX12_odds 49 = .ok (.istore 6, 2) ∧ decode cX12_odds 51 = .ok (.iload 6, 2) ∧ decode cX12_odds 53 = .ok (.iload_n 2, 1) ∧ decode cX12_odds 54 = .ok (.if_icmp .ge 16, 3) ∧ decode cX12_odds 57 = .ok (.iload 5, 2) ∧ decode cX12_odds 59 = .ok (.bipush 10, 2) := by decide +kernel
theorem dX12_odds_49 : decode cX12_odds 49 = .ok (.istore 6, 2) := dGX12_753.1
theorem dX12_odds_51 : decode cX12_odds 51 = .ok (.iload 6, 2) := dGX12_753.2.1
theorem dX12_odds_53 : decode cX12_odds 53 = .ok (.iload_n 2, 1) := dGX12_753.2.2.1
theorem dX12_odds_54 : decode cX12_odds 54 = .ok (.if_icmp .ge 16, 3) := dGX12_753.2.2.2.1
theorem dX12_odds_57 : decode cX12_odds 57 = .ok (.iload 5, 2) := dGX12_753.2.2.2.2.1
theorem dX12_odds_59 : decode cX12_odds 59 = .ok (.bipush 10, 2) := dGX12_753.2.2.2.2.2
theorem dGX12_754 : decode cX12_odds 61 = .ok (.imul, 1) ∧ decode cX12_odds 62 = .ok (.istore 5, 2) ∧ decode cX12_odds 64 = .ok (.iinc 6 1, 3) ∧ decode cX12_odds 67 = .ok (.goto (-16), 3) ∧ decode cX12_odds 70 = .ok (.iconst 0, 1) ∧ decode cX12_odds 71 = .ok (.istore 6, 2) := by decide +kernel
theorem dX12_odds_61 : decode cX12_odds 61 = .ok (.imul, 1) := dGX12_754.1
theorem dX12_odds_62 : decode cX12_odds 62 = .ok (.istore 5, 2) := dGX12_754.2.1
theorem dX12_odds_64 : decode cX12_odds 64 = .ok (.iinc 6 1, 3) := dGX12_754.2.2.1
theorem dX12_odds_67 : decode cX12_odds 67 = .ok (.goto (-16), 3) := dGX12_754.2.2.2.1
theorem dX12_odds_70 : decode cX12_odds 70 = .ok (.iconst 0, 1) := dGX12_754.2.2.2.2.1
theorem dX12_odds_71 : decode cX12_odds 71 = .ok (.istore 6, 2) := dGX12_754.2.2.2.2.2
theorem dGX12_755 : decode cX12_odds 73 = .ok (.iconst 0, 1) ∧ decode cX12_odds 74 = .ok (.istore 7, 2) ∧ decode cX12_odds 76 = .ok (.iload 7, 2) ∧ decode cX12_odds 78 = .ok (.iload 5, 2) ∧ decode cX12_odds 80 = .ok (.if_icmp .ge 74, 3) ∧ decode cX12_odds 83 = .ok (.aload_n 0, 1) := by decide +kernel
theorem dX12_odds_73 : decode cX12_odds 73 = .ok (.iconst 0, 1) := dGX12_755.1
theorem dX12_odds_74 : decode cX12_odds 74 = .ok (.istore 7, 2) := dGX12_755.2.1
theorem dX12_odds_76 : decode cX12_odds 76 = .ok (.iload 7, 2) := dGX12_755.2.2.1
theorem dX12_odds_78 : decode cX12_odds 78 = .ok (.iload 5, 2) := dGX12_755.2.2.2.1
theorem dX12_odds_80 : decode cX12_odds 80 = .ok (.if_icmp .ge 74, 3) := dGX12_755.2.2.2.2.1
theorem dX12_odds_83 : decode cX12_odds 83 = .ok (.aload_n 0, 1) := dGX12_755.2.2.2.2.2
theorem dGX12_756 : decode cX12_odds 84 = .ok (.iconst 0, 1) ∧ decode cX12_odds 85 = .ok (.invokevirtual 419, 3) ∧ decode cX12_odds 88 = .ok (.iload 7, 2) ∧ decode cX12_odds 90 = .ok (.istore 8, 2) ∧ decode cX12_odds 92 = .ok (.iconst 0, 1) ∧ decode cX12_odds 93 = .ok (.istore 9, 2) := by decide +kernel
theorem dX12_odds_84 : decode cX12_odds 84 = .ok (.iconst 0, 1) := dGX12_756.1
theorem dX12_odds_85 : decode cX12_odds 85 = .ok (.invokevirtual 419, 3) := dGX12_756.2.1
theorem dX12_odds_88 : decode cX12_odds 88 = .ok (.iload 7, 2) := dGX12_756.2.2.1
theorem dX12_odds_90 : decode cX12_odds 90 = .ok (.istore 8, 2) := dGX12_756.2.2.2.1
theorem dX12_odds_92 : decode cX12_odds 92 = .ok (.iconst 0, 1) := dGX12_756.2.2.2.2.1
theorem dX12_odds_93 : decode cX12_odds 93 = .ok (.istore 9, 2) := dGX12_756.2.2.2.2.2
theorem dGX12_757 : decode cX12_odds 95 = .ok (.iload 9, 2) ∧ decode cX12_odds 97 = .ok (.iload_n 2, 1) ∧ decode cX12_odds 98 = .ok (.if_icmp .ge 25, 3) ∧ decode cX12_odds 101 = .ok (.aload_n 0, 1) ∧ decode cX12_odds 102 = .ok (.iload 8, 2) ∧ decode cX12_odds 104 = .ok (.bipush 10, 2) := by decide +kernel
theorem dX12_odds_95 : decode cX12_odds 95 = .ok (.iload 9, 2) := dGX12_757.1
theorem dX12_odds_97 : decode cX12_odds 97 = .ok (.iload_n 2, 1) := dGX12_757.2.1
theorem dX12_odds_98 : decode cX12_odds 98 = .ok (.if_icmp .ge 25, 3) := dGX12_757.2.2.1
theorem dX12_odds_101 : decode cX12_odds 101 = .ok (.aload_n 0, 1) := dGX12_757.2.2.2.1
theorem dX12_odds_102 : decode cX12_odds 102 = .ok (.iload 8, 2) := dGX12_757.2.2.2.2.1
theorem dX12_odds_104 : decode cX12_odds 104 = .ok (.bipush 10, 2) := dGX12_757.2.2.2.2.2
theorem dGX12_758 : decode cX12_odds 106 = .ok (.irem, 1) ∧ decode cX12_odds 107 = .ok (.invokevirtual 393, 3) ∧ decode cX12_odds 110 = .ok (.iload 8, 2) ∧ decode cX12_odds 112 = .ok (.bipush 10, 2) ∧ decode cX12_odds 114 = .ok (.idiv, 1) ∧ decode cX12_odds 115 = .ok (.istore 8, 2) := by decide +kernel
theorem dX12_odds_106 : decode cX12_odds 106 = .ok (.irem, 1) := dGX12_758.1
theorem dX12_odds_107 : decode cX12_odds 107 = .ok (.invokevirtual 393, 3) := dGX12_758.2.1
theorem dX12_odds_110 : decode cX12_odds 110 = .ok (.iload 8, 2) := dGX12_758.2.2.1
theorem dX12_odds_112 : decode cX12_odds 112 = .ok (.bipush 10, 2) := dGX12_758.2.2.2.1
theorem dX12_odds_114 : decode cX12_odds 114 = .ok (.idiv, 1) := dGX12_758.2.2.2.2.1
theorem dX12_odds_115 : decode cX12_odds 115 = .ok (.istore 8, 2) := dGX12_758.2.2.2.2.2
theorem dGX12_759 : decode cX12_odds 117 = .ok (.iinc 9 1, 3) ∧ decode cX12_odds 120 = .ok (.goto (-25), 3) ∧ decode cX12_odds 123 = .ok (.iload 6, 2) ∧ decode cX12_odds 125 = .ok (.aload_n 0, 1) ∧ decode cX12_odds 126 = .ok (.getfield 52, 3) ∧ decode cX12_odds 129 = .ok (.iload_n 1, 1) := by decide +kernel
theorem dX12_odds_117 : decode cX12_odds 117 = .ok (.iinc 9 1, 3) := dGX12_759.1
theorem dX12_odds_120 : decode cX12_odds 120 = .ok (.goto (-25), 3) := dGX12_759.2.1
theorem dX12_odds_123 : decode cX12_odds 123 = .ok (.iload 6, 2) := dGX12_759.2.2.1
theorem dX12_odds_125 : decode cX12_odds 125 = .ok (.aload_n 0, 1) := dGX12_759.2.2.2.1
theorem dX12_odds_126 : decode cX12_odds 126 = .ok (.getfield 52, 3) := dGX12_759.2.2.2.2.1
theorem dX12_odds_129 : decode cX12_odds 129 = .ok (.iload_n 1, 1) := dGX12_759.2.2.2.2.2
theorem dGX12_760 : decode cX12_odds 130 = .ok (.iaload, 1) ∧ decode cX12_odds 131 = .ok (.iload_n 3, 1) ∧ decode cX12_odds 132 = .ok (.if_icmp .lt 7, 3) ∧ decode cX12_odds 135 = .ok (.iconst 1, 1) ∧ decode cX12_odds 136 = .ok (.goto 4, 3) ∧ decode cX12_odds 139 = .ok (.iconst 0, 1) := by decide +kernel
theorem dX12_odds_130 : decode cX12_odds 130 = .ok (.iaload, 1) := dGX12_760.1
theorem dX12_odds_131 : decode cX12_odds 131 = .ok (.iload_n 3, 1) := dGX12_760.2.1
theorem dX12_odds_132 : decode cX12_odds 132 = .ok (.if_icmp .lt 7, 3) := dGX12_760.2.2.1
theorem dX12_odds_135 : decode cX12_odds 135 = .ok (.iconst 1, 1) := dGX12_760.2.2.2.1
theorem dX12_odds_136 : decode cX12_odds 136 = .ok (.goto 4, 3) := dGX12_760.2.2.2.2.1
theorem dX12_odds_139 : decode cX12_odds 139 = .ok (.iconst 0, 1) := dGX12_760.2.2.2.2.2
theorem dGX12_761 : decode cX12_odds 140 = .ok (.iadd, 1) ∧ decode cX12_odds 141 = .ok (.istore 6, 2) ∧ decode cX12_odds 143 = .ok (.aload_n 0, 1) ∧ decode cX12_odds 144 = .ok (.iconst 0, 1) ∧ decode cX12_odds 145 = .ok (.invokevirtual 428, 3) ∧ decode cX12_odds 148 = .ok (.iinc 7 1, 3) := by decide +kernel
theorem dX12_odds_140 : decode cX12_odds 140 = .ok (.iadd, 1) := dGX12_761.1
theorem dX12_odds_141 : decode cX12_odds 141 = .ok (.istore 6, 2) := dGX12_761.2.1
theorem dX12_odds_143 : decode cX12_odds 143 = .ok (.aload_n 0, 1) := dGX12_761.2.2.1
theorem dX12_odds_144 : decode cX12_odds 144 = .ok (.iconst 0, 1) := dGX12_761.2.2.2.1
theorem dX12_odds_145 : decode cX12_odds 145 = .ok (.invokevirtual 428, 3) := dGX12_761.2.2.2.2.1
theorem dX12_odds_148 : decode cX12_odds 148 = .ok (.iinc 7 1, 3) := dGX12_761.2.2.2.2.2
theorem dGX12_762 : decode cX12_odds 151 = .ok (.goto (-75), 3) ∧ decode cX12_odds 154 = .ok (.iload 6, 2) ∧ decode cX12_odds 156 = .ok (.iload 5, 2) ∧ decode cX12_odds 158 = .ok (.invokestatic 501, 3) ∧ decode cX12_odds 161 = .ok (.istore 7, 2) ∧ decode cX12_odds 163 = .ok (.iload 4, 2) := by decide +kernel
theorem dX12_odds_151 : decode cX12_odds 151 = .ok (.goto (-75), 3) := dGX12_762.1
theorem dX12_odds_154 : decode cX12_odds 154 = .ok (.iload 6, 2) := dGX12_762.2.1
theorem dX12_odds_156 : decode cX12_odds 156 = .ok (.iload 5, 2) := dGX12_762.2.2.1
theorem dX12_odds_158 : decode cX12_odds 158 = .ok (.invokestatic 501, 3) := dGX12_762.2.2.2.1
theorem dX12_odds_161 : decode cX12_odds 161 = .ok (.istore 7, 2) := dGX12_762.2.2.2.2.1
theorem dX12_odds_163 : decode cX12_odds 163 = .ok (.iload 4, 2) := dGX12_762.2.2.2.2.2
theorem dGX12_763 : decode cX12_odds 165 = .ok (.ifCond .ne 11, 3) ∧ decode cX12_odds 168 = .ok (.iload 6, 2) ∧ decode cX12_odds 170 = .ok (.iload 7, 2) ∧ decode cX12_odds 172 = .ok (.idiv, 1) ∧ decode cX12_odds 173 = .ok (.goto 8, 3) ∧ decode cX12_odds 176 = .ok (.iload 5, 2) := by decide +kernel
theorem dX12_odds_165 : decode cX12_odds 165 = .ok (.ifCond .ne 11, 3) := dGX12_763.1
theorem dX12_odds_168 : decode cX12_odds 168 = .ok (.iload 6, 2) := dGX12_763.2.1
theorem dX12_odds_170 : decode cX12_odds 170 = .ok (.iload 7, 2) := dGX12_763.2.2.1
theorem dX12_odds_172 : decode cX12_odds 172 = .ok (.idiv, 1) := dGX12_763.2.2.2.1
theorem dX12_odds_173 : decode cX12_odds 173 = .ok (.goto 8, 3) := dGX12_763.2.2.2.2.1
theorem dX12_odds_176 : decode cX12_odds 176 = .ok (.iload 5, 2) := dGX12_763.2.2.2.2.2
theorem dGX12_764 : decode cX12_odds 178 = .ok (.iload 7, 2) ∧ decode cX12_odds 180 = .ok (.idiv, 1) ∧ decode cX12_odds 181 = .ok (.ireturn, 1) ∧ decode cX12_seed 0 = .ok (.iload_n 1, 1) ∧ decode cX12_seed 1 = .ok (.i2l, 1) ∧ decode cX12_seed 2 = .ok (.lconst 0, 1) := by decide +kernel
theorem dX12_odds_178 : decode cX12_odds 178 = .ok (.iload 7, 2) := dGX12_764.1
theorem dX12_odds_180 : decode cX12_odds 180 = .ok (.idiv, 1) := dGX12_764.2.1
theorem dX12_odds_181 : decode cX12_odds 181 = .ok (.ireturn, 1) := dGX12_764.2.2.1
theorem dX12_seed_0 : decode cX12_seed 0 = .ok (.iload_n 1, 1) := dGX12_764.2.2.2.1
theorem dX12_seed_1 : decode cX12_seed 1 = .ok (.i2l, 1) := dGX12_764.2.2.2.2.1
theorem dX12_seed_2 : decode cX12_seed 2 = .ok (.lconst 0, 1) := dGX12_764.2.2.2.2.2
theorem dGX12_765 : decode cX12_seed 3 = .ok (.ldc2_w 504, 3) ∧ decode cX12_seed 6 = .ok (.invokestatic 175, 3) ∧ decode cX12_seed 9 = .ok (.ifCond .ne 5, 3) ∧ decode cX12_seed 12 = .ok (.iconst 0, 1) ∧ decode cX12_seed 13 = .ok (.ireturn, 1) ∧ decode cX12_seed 14 = .ok (.aload_n 0, 1) := by decide +kernel
theorem dX12_seed_3 : decode cX12_seed 3 = .ok (.ldc2_w 504, 3) := dGX12_765.1
theorem dX12_seed_6 : decode cX12_seed 6 = .ok (.invokestatic 175, 3) := dGX12_765.2.1
theorem dX12_seed_9 : decode cX12_seed 9 = .ok (.ifCond .ne 5, 3) := dGX12_765.2.2.1
theorem dX12_seed_12 : decode cX12_seed 12 = .ok (.iconst 0, 1) := dGX12_765.2.2.2.1
theorem dX12_seed_13 : decode cX12_seed 13 = .ok (.ireturn, 1) := dGX12_765.2.2.2.2.1
theorem dX12_seed_14 : decode cX12_seed 14 = .ok (.aload_n 0, 1) := dGX12_765.2.2.2.2.2
theorem dGX12_766 : decode cX12_seed 15 = .ok (.iload_n 1, 1) ∧ decode cX12_seed 16 = .ok (.putfield 13, 3) ∧ decode cX12_seed 19 = .ok (.iconst 1, 1) ∧ decode cX12_seed 20 = .ok (.ireturn, 1) ∧ decode cX12_keep 0 = .ok (.aload_n 0, 1) ∧ decode cX12_keep 1 = .ok (.iconst 1, 1) := by decide +kernel
theorem dX12_seed_15 : decode cX12_seed 15 = .ok (.iload_n 1, 1) := dGX12_766.1
theorem dX12_seed_16 : decode cX12_seed 16 = .ok (.putfield 13, 3) := dGX12_766.2.1
theorem dX12_seed_19 : decode cX12_seed 19 = .ok (.iconst 1, 1) := dGX12_766.2.2.1
theorem dX12_seed_20 : decode cX12_seed 20 = .ok (.ireturn, 1) := dGX12_766.2.2.2.1
theorem dX12_keep_0 : decode cX12_keep 0 = .ok (.aload_n 0, 1) := dGX12_766.2.2.2.2.1
theorem dX12_keep_1 : decode cX12_keep 1 = .ok (.iconst 1, 1) := dGX12_766.2.2.2.2.2
theorem dGX12_767 : decode cX12_keep 2 = .ok (.putfield 506, 3) ∧ decode cX12_keep 5 = .ok (.aload_n 0, 1) ∧ decode cX12_keep 6 = .ok (.iconst 1, 1) ∧ decode cX12_keep 7 = .ok (.invokevirtual 419, 3) ∧ decode cX12_keep 10 = .ok (.aload_n 0, 1) ∧ decode cX12_keep 11 = .ok (.invokevirtual 422, 3) := by decide +kernel
theorem dX12_keep_2 : decode cX12_keep 2 = .ok (.putfield 506, 3) := dGX12_767.1
theorem dX12_keep_5 : decode cX12_keep 5 = .ok (.aload_n 0, 1) := dGX12_767.2.1
theorem dX12_keep_6 : decode cX12_keep 6 = .ok (.iconst 1, 1) := dGX12_767.2.2.1
theorem dX12_keep_7 : decode cX12_keep 7 = .ok (.invokevirtual 419, 3) := dGX12_767.2.2.2.1
theorem dX12_keep_10 : decode cX12_keep 10 = .ok (.aload_n 0, 1) := dGX12_767.2.2.2.2.1
theorem dX12_keep_11 : decode cX12_keep 11 = .ok (.invokevirtual 422, 3) := dGX12_767.2.2.2.2.2
theorem dGX12_768 : decode cX12_keep 14 = .ok (.ireturn, 1) ∧ decode cX12_undo 0 = .ok (.aload_n 0, 1) ∧ decode cX12_undo 1 = .ok (.getfield 506, 3) ∧ decode cX12_undo 4 = .ok (.ifCond .ne 5, 3) ∧ decode cX12_undo 7 = .ok (.iconst 0, 1) ∧ decode cX12_undo 8 = .ok (.ireturn, 1) := by decide +kernel
theorem dX12_keep_14 : decode cX12_keep 14 = .ok (.ireturn, 1) := dGX12_768.1
theorem dX12_undo_0 : decode cX12_undo 0 = .ok (.aload_n 0, 1) := dGX12_768.2.1
theorem dX12_undo_1 : decode cX12_undo 1 = .ok (.getfield 506, 3) := dGX12_768.2.2.1
theorem dX12_undo_4 : decode cX12_undo 4 = .ok (.ifCond .ne 5, 3) := dGX12_768.2.2.2.1
theorem dX12_undo_7 : decode cX12_undo 7 = .ok (.iconst 0, 1) := dGX12_768.2.2.2.2.1
theorem dX12_undo_8 : decode cX12_undo 8 = .ok (.ireturn, 1) := dGX12_768.2.2.2.2.2
theorem dGX12_769 : decode cX12_undo 9 = .ok (.aload_n 0, 1) ∧ decode cX12_undo 10 = .ok (.iconst 1, 1) ∧ decode cX12_undo 11 = .ok (.invokevirtual 428, 3) ∧ decode cX12_undo 14 = .ok (.iconst 1, 1) ∧ decode cX12_undo 15 = .ok (.ireturn, 1) ∧ decode cX12_numberAt 0 = .ok (.iconst 0, 1) := by decide +kernel
theorem dX12_undo_9 : decode cX12_undo 9 = .ok (.aload_n 0, 1) := dGX12_769.1
theorem dX12_undo_10 : decode cX12_undo 10 = .ok (.iconst 1, 1) := dGX12_769.2.1
theorem dX12_undo_11 : decode cX12_undo 11 = .ok (.invokevirtual 428, 3) := dGX12_769.2.2.1
theorem dX12_undo_14 : decode cX12_undo 14 = .ok (.iconst 1, 1) := dGX12_769.2.2.2.1
theorem dX12_undo_15 : decode cX12_undo 15 = .ok (.ireturn, 1) := dGX12_769.2.2.2.2.1
theorem dX12_numberAt_0 : decode cX12_numberAt 0 = .ok (.iconst 0, 1) := dGX12_769.2.2.2.2.2
theorem dGX12_770 : decode cX12_numberAt 1 = .ok (.istore_n 2, 1) ∧ decode cX12_numberAt 2 = .ok (.iconst 0, 1) ∧ decode cX12_numberAt 3 = .ok (.istore_n 3, 1) ∧ decode cX12_numberAt 4 = .ok (.iload_n 3, 1) ∧ decode cX12_numberAt 5 = .ok (.iconst 4, 1) ∧ decode cX12_numberAt 6 = .ok (.if_icmp .ge 29, 3) := by decide +kernel
theorem dX12_numberAt_1 : decode cX12_numberAt 1 = .ok (.istore_n 2, 1) := dGX12_770.1
theorem dX12_numberAt_2 : decode cX12_numberAt 2 = .ok (.iconst 0, 1) := dGX12_770.2.1
theorem dX12_numberAt_3 : decode cX12_numberAt 3 = .ok (.istore_n 3, 1) := dGX12_770.2.2.1
theorem dX12_numberAt_4 : decode cX12_numberAt 4 = .ok (.iload_n 3, 1) := dGX12_770.2.2.2.1
theorem dX12_numberAt_5 : decode cX12_numberAt 5 = .ok (.iconst 4, 1) := dGX12_770.2.2.2.2.1
theorem dX12_numberAt_6 : decode cX12_numberAt 6 = .ok (.if_icmp .ge 29, 3) := dGX12_770.2.2.2.2.2
theorem dGX12_771 : decode cX12_numberAt 9 = .ok (.iload_n 2, 1) ∧ decode cX12_numberAt 10 = .ok (.bipush 8, 2) ∧ decode cX12_numberAt 12 = .ok (.ishl, 1) ∧ decode cX12_numberAt 13 = .ok (.aload_n 0, 1) ∧ decode cX12_numberAt 14 = .ok (.getfield 7, 3) ∧ decode cX12_numberAt 17 = .ok (.iconst 4, 1) := by decide +kernel
theorem dX12_numberAt_9 : decode cX12_numberAt 9 = .ok (.iload_n 2, 1) := dGX12_771.1
theorem dX12_numberAt_10 : decode cX12_numberAt 10 = .ok (.bipush 8, 2) := dGX12_771.2.1
theorem dX12_numberAt_12 : decode cX12_numberAt 12 = .ok (.ishl, 1) := dGX12_771.2.2.1
theorem dX12_numberAt_13 : decode cX12_numberAt 13 = .ok (.aload_n 0, 1) := dGX12_771.2.2.2.1
theorem dX12_numberAt_14 : decode cX12_numberAt 14 = .ok (.getfield 7, 3) := dGX12_771.2.2.2.2.1
theorem dX12_numberAt_17 : decode cX12_numberAt 17 = .ok (.iconst 4, 1) := dGX12_771.2.2.2.2.2
theorem dGX12_772 : decode cX12_numberAt 18 = .ok (.iload_n 1, 1) ∧ decode cX12_numberAt 19 = .ok (.imul, 1) ∧ decode cX12_numberAt 20 = .ok (.iload_n 3, 1) ∧ decode cX12_numberAt 21 = .ok (.iadd, 1) ∧ decode cX12_numberAt 22 = .ok (.baload, 1) ∧ decode cX12_numberAt 23 = .ok (.sipush 255, 3) := by decide +kernel
theorem dX12_numberAt_18 : decode cX12_numberAt 18 = .ok (.iload_n 1, 1) := dGX12_772.1
theorem dX12_numberAt_19 : decode cX12_numberAt 19 = .ok (.imul, 1) := dGX12_772.2.1
theorem dX12_numberAt_20 : decode cX12_numberAt 20 = .ok (.iload_n 3, 1) := dGX12_772.2.2.1
theorem dX12_numberAt_21 : decode cX12_numberAt 21 = .ok (.iadd, 1) := dGX12_772.2.2.2.1
theorem dX12_numberAt_22 : decode cX12_numberAt 22 = .ok (.baload, 1) := dGX12_772.2.2.2.2.1
theorem dX12_numberAt_23 : decode cX12_numberAt 23 = .ok (.sipush 255, 3) := dGX12_772.2.2.2.2.2
theorem dGX12_773 : decode cX12_numberAt 26 = .ok (.iand, 1) ∧ decode cX12_numberAt 27 = .ok (.ior, 1) ∧ decode cX12_numberAt 28 = .ok (.istore_n 2, 1) ∧ decode cX12_numberAt 29 = .ok (.iinc 3 1, 3) ∧ decode cX12_numberAt 32 = .ok (.goto (-28), 3) ∧ decode cX12_numberAt 35 = .ok (.iload_n 2, 1) := by decide +kernel
theorem dX12_numberAt_26 : decode cX12_numberAt 26 = .ok (.iand, 1) := dGX12_773.1
theorem dX12_numberAt_27 : decode cX12_numberAt 27 = .ok (.ior, 1) := dGX12_773.2.1
theorem dX12_numberAt_28 : decode cX12_numberAt 28 = .ok (.istore_n 2, 1) := dGX12_773.2.2.1
theorem dX12_numberAt_29 : decode cX12_numberAt 29 = .ok (.iinc 3 1, 3) := dGX12_773.2.2.2.1
theorem dX12_numberAt_32 : decode cX12_numberAt 32 = .ok (.goto (-28), 3) := dGX12_773.2.2.2.2.1
theorem dX12_numberAt_35 : decode cX12_numberAt 35 = .ok (.iload_n 2, 1) := dGX12_773.2.2.2.2.2
theorem dGX12_774 : decode cX12_numberAt 36 = .ok (.ireturn, 1) ∧ decode cX12_check 0 = .ok (.iload_n 1, 1) ∧ decode cX12_check 1 = .ok (.i2l, 1) ∧ decode cX12_check 2 = .ok (.lconst 0, 1) ∧ decode cX12_check 3 = .ok (.ldc2_w 410, 3) ∧ decode cX12_check 6 = .ok (.invokestatic 175, 3) := by decide +kernel
theorem dX12_numberAt_36 : decode cX12_numberAt 36 = .ok (.ireturn, 1) := dGX12_774.1
theorem dX12_check_0 : decode cX12_check 0 = .ok (.iload_n 1, 1) := dGX12_774.2.1
theorem dX12_check_1 : decode cX12_check 1 = .ok (.i2l, 1) := dGX12_774.2.2.1
theorem dX12_check_2 : decode cX12_check 2 = .ok (.lconst 0, 1) := dGX12_774.2.2.2.1
theorem dX12_check_3 : decode cX12_check 3 = .ok (.ldc2_w 410, 3) := dGX12_774.2.2.2.2.1
theorem dX12_check_6 : decode cX12_check 6 = .ok (.invokestatic 175, 3) := dGX12_774.2.2.2.2.2
theorem dGX12_775 : decode cX12_check 9 = .ok (.ifCond .eq 13, 3) ∧ decode cX12_check 12 = .ok (.iload_n 1, 1) ∧ decode cX12_check 13 = .ok (.aload_n 0, 1) ∧ decode cX12_check 14 = .ok (.getfield 204, 3) ∧ decode cX12_check 17 = .ok (.iconst 4, 1) ∧ decode cX12_check 18 = .ok (.idiv, 1) := by decide +kernel
theorem dX12_check_9 : decode cX12_check 9 = .ok (.ifCond .eq 13, 3) := dGX12_775.1
theorem dX12_check_12 : decode cX12_check 12 = .ok (.iload_n 1, 1) := dGX12_775.2.1
theorem dX12_check_13 : decode cX12_check 13 = .ok (.aload_n 0, 1) := dGX12_775.2.2.1
theorem dX12_check_14 : decode cX12_check 14 = .ok (.getfield 204, 3) := dGX12_775.2.2.2.1
theorem dX12_check_17 : decode cX12_check 17 = .ok (.iconst 4, 1) := dGX12_775.2.2.2.2.1
theorem dX12_check_18 : decode cX12_check 18 = .ok (.idiv, 1) := dGX12_775.2.2.2.2.2
theorem dGX12_776 : decode cX12_check 19 = .ok (.if_icmp .le 6, 3) ∧ decode cX12_check 22 = .ok (.bipush (-2), 2) ∧ decode cX12_check 24 = .ok (.ireturn, 1) ∧ decode cX12_check 25 = .ok (.aload_n 0, 1) ∧ decode cX12_check 26 = .ok (.iconst 0, 1) ∧ decode cX12_check 27 = .ok (.putfield 204, 3) := by decide +kernel
theorem dX12_check_19 : decode cX12_check 19 = .ok (.if_icmp .le 6, 3) := dGX12_776.1
theorem dX12_check_22 : decode cX12_check 22 = .ok (.bipush (-2), 2) := dGX12_776.2.1
theorem dX12_check_24 : decode cX12_check 24 = .ok (.ireturn, 1) := dGX12_776.2.2.1
theorem dX12_check_25 : decode cX12_check 25 = .ok (.aload_n 0, 1) := dGX12_776.2.2.2.1
theorem dX12_check_26 : decode cX12_check 26 = .ok (.iconst 0, 1) := dGX12_776.2.2.2.2.1
theorem dX12_check_27 : decode cX12_check 27 = .ok (.putfield 204, 3) := dGX12_776.2.2.2.2.2
theorem dGX12_777 : decode cX12_check 30 = .ok (.iconst 0, 1) ∧ decode cX12_check 31 = .ok (.istore_n 2, 1) ∧ decode cX12_check 32 = .ok (.iload_n 2, 1) ∧ decode cX12_check 33 = .ok (.iload_n 1, 1) ∧ decode cX12_check 34 = .ok (.if_icmp .ge 33, 3) ∧ decode cX12_check 37 = .ok (.iload_n 2, 1) := by decide +kernel
theorem dX12_check_30 : decode cX12_check 30 = .ok (.iconst 0, 1) := dGX12_777.1
theorem dX12_check_31 : decode cX12_check 31 = .ok (.istore_n 2, 1) := dGX12_777.2.1
theorem dX12_check_32 : decode cX12_check 32 = .ok (.iload_n 2, 1) := dGX12_777.2.2.1
theorem dX12_check_33 : decode cX12_check 33 = .ok (.iload_n 1, 1) := dGX12_777.2.2.2.1
theorem dX12_check_34 : decode cX12_check 34 = .ok (.if_icmp .ge 33, 3) := dGX12_777.2.2.2.2.1
theorem dX12_check_37 : decode cX12_check 37 = .ok (.iload_n 2, 1) := dGX12_777.2.2.2.2.2
theorem dGX12_778 : decode cX12_check 38 = .ok (.aload_n 0, 1) ∧ decode cX12_check 39 = .ok (.getfield 172, 3) ∧ decode cX12_check 42 = .ok (.if_icmp .eq 17, 3) ∧ decode cX12_check 45 = .ok (.aload_n 0, 1) ∧ decode cX12_check 46 = .ok (.iload_n 2, 1) ∧ decode cX12_check 47 = .ok (.invokevirtual 509, 3) := by decide +kernel
theorem dX12_check_38 : decode cX12_check 38 = .ok (.aload_n 0, 1) := dGX12_778.1
theorem dX12_check_39 : decode cX12_check 39 = .ok (.getfield 172, 3) := dGX12_778.2.1
theorem dX12_check_42 : decode cX12_check 42 = .ok (.if_icmp .eq 17, 3) := dGX12_778.2.2.1
theorem dX12_check_45 : decode cX12_check 45 = .ok (.aload_n 0, 1) := dGX12_778.2.2.2.1
theorem dX12_check_46 : decode cX12_check 46 = .ok (.iload_n 2, 1) := dGX12_778.2.2.2.2.1
theorem dX12_check_47 : decode cX12_check 47 = .ok (.invokevirtual 509, 3) := dGX12_778.2.2.2.2.2
theorem dGX12_779 : decode cX12_check 50 = .ok (.aload_n 0, 1) ∧ decode cX12_check 51 = .ok (.getfield 21, 3) ∧ decode cX12_check 54 = .ok (.iload_n 2, 1) ∧ decode cX12_check 55 = .ok (.iaload, 1) ∧ decode cX12_check 56 = .ok (.if_icmp .eq 5, 3) ∧ decode cX12_check 59 = .ok (.iload_n 2, 1) := by decide +kernel
theorem dX12_check_50 : decode cX12_check 50 = .ok (.aload_n 0, 1) := dGX12_779.1
theorem dX12_check_51 : decode cX12_check 51 = .ok (.getfield 21, 3) := dGX12_779.2.1
theorem dX12_check_54 : decode cX12_check 54 = .ok (.iload_n 2, 1) := dGX12_779.2.2.1
theorem dX12_check_55 : decode cX12_check 55 = .ok (.iaload, 1) := dGX12_779.2.2.2.1
theorem dX12_check_56 : decode cX12_check 56 = .ok (.if_icmp .eq 5, 3) := dGX12_779.2.2.2.2.1
theorem dX12_check_59 : decode cX12_check 59 = .ok (.iload_n 2, 1) := dGX12_779.2.2.2.2.2
theorem dGX12_780 : decode cX12_check 60 = .ok (.ireturn, 1) ∧ decode cX12_check 61 = .ok (.iinc 2 1, 3) ∧ decode cX12_check 64 = .ok (.goto (-32), 3) ∧ decode cX12_check 67 = .ok (.iconst (-1), 1) ∧ decode cX12_check 68 = .ok (.ireturn, 1) ∧ decode cX12_count 0 = .ok (.iload_n 1, 1) := by decide +kernel
theorem dX12_check_60 : decode cX12_check 60 = .ok (.ireturn, 1) := dGX12_780.1
theorem dX12_check_61 : decode cX12_check 61 = .ok (.iinc 2 1, 3) := dGX12_780.2.1
theorem dX12_check_64 : decode cX12_check 64 = .ok (.goto (-32), 3) := dGX12_780.2.2.1
theorem dX12_check_67 : decode cX12_check 67 = .ok (.iconst (-1), 1) := dGX12_780.2.2.2.1
theorem dX12_check_68 : decode cX12_check 68 = .ok (.ireturn, 1) := dGX12_780.2.2.2.2.1
theorem dX12_count_0 : decode cX12_count 0 = .ok (.iload_n 1, 1) := dGX12_780.2.2.2.2.2
theorem dGX12_781 : decode cX12_count 1 = .ok (.i2l, 1) ∧ decode cX12_count 2 = .ok (.ldc2_w 512, 3) ∧ decode cX12_count 5 = .ok (.ldc2_w 514, 3) ∧ decode cX12_count 8 = .ok (.invokestatic 175, 3) ∧ decode cX12_count 11 = .ok (.ifCond .eq 21, 3) ∧ decode cX12_count 14 = .ok (.aload_n 0, 1) := by decide +kernel
theorem dX12_count_1 : decode cX12_count 1 = .ok (.i2l, 1) := dGX12_781.1
theorem dX12_count_2 : decode cX12_count 2 = .ok (.ldc2_w 512, 3) := dGX12_781.2.1
theorem dX12_count_5 : decode cX12_count 5 = .ok (.ldc2_w 514, 3) := dGX12_781.2.2.1
theorem dX12_count_8 : decode cX12_count 8 = .ok (.invokestatic 175, 3) := dGX12_781.2.2.2.1
theorem dX12_count_11 : decode cX12_count 11 = .ok (.ifCond .eq 21, 3) := dGX12_781.2.2.2.2.1
theorem dX12_count_14 : decode cX12_count 14 = .ok (.aload_n 0, 1) := dGX12_781.2.2.2.2.2
theorem dGX12_782 : decode cX12_count 15 = .ok (.getfield 61, 3) ∧ decode cX12_count 18 = .ok (.iload_n 1, 1) ∧ decode cX12_count 19 = .ok (.bipush 100, 2) ∧ decode cX12_count 21 = .ok (.isub, 1) ∧ decode cX12_count 22 = .ok (.baload, 1) ∧ decode cX12_count 23 = .ok (.ifCond .eq 7, 3) := by decide +kernel
theorem dX12_count_15 : decode cX12_count 15 = .ok (.getfield 61, 3) := dGX12_782.1
theorem dX12_count_18 : decode cX12_count 18 = .ok (.iload_n 1, 1) := dGX12_782.2.1
theorem dX12_count_19 : decode cX12_count 19 = .ok (.bipush 100, 2) := dGX12_782.2.2.1
theorem dX12_count_21 : decode cX12_count 21 = .ok (.isub, 1) := dGX12_782.2.2.2.1
theorem dX12_count_22 : decode cX12_count 22 = .ok (.baload, 1) := dGX12_782.2.2.2.2.1
theorem dX12_count_23 : decode cX12_count 23 = .ok (.ifCond .eq 7, 3) := dGX12_782.2.2.2.2.2
theorem dGX12_783 : decode cX12_count 26 = .ok (.iconst 1, 1) ∧ decode cX12_count 27 = .ok (.goto 4, 3) ∧ decode cX12_count 30 = .ok (.iconst 0, 1) ∧ decode cX12_count 31 = .ok (.ireturn, 1) ∧ decode cX12_count 32 = .ok (.iload_n 1, 1) ∧ decode cX12_count 33 = .ok (.tableswitch 105 0 9 #[55, 60, 65, 70, 75, 80, 85, 90, 95, 100], 55) := by decide +kernel
theorem dX12_count_26 : decode cX12_count 26 = .ok (.iconst 1, 1) := dGX12_783.1
theorem dX12_count_27 : decode cX12_count 27 = .ok (.goto 4, 3) := dGX12_783.2.1
theorem dX12_count_30 : decode cX12_count 30 = .ok (.iconst 0, 1) := dGX12_783.2.2.1
theorem dX12_count_31 : decode cX12_count 31 = .ok (.ireturn, 1) := dGX12_783.2.2.2.1
theorem dX12_count_32 : decode cX12_count 32 = .ok (.iload_n 1, 1) := dGX12_783.2.2.2.2.1
theorem dX12_count_33 : decode cX12_count 33 = .ok (.tableswitch 105 0 9 #[55, 60, 65, 70, 75, 80, 85, 90, 95, 100], 55) := dGX12_783.2.2.2.2.2
theorem dGX12_784 : decode cX12_count 88 = .ok (.aload_n 0, 1) ∧ decode cX12_count 89 = .ok (.getfield 172, 3) ∧ decode cX12_count 92 = .ok (.ireturn, 1) ∧ decode cX12_count 93 = .ok (.aload_n 0, 1) ∧ decode cX12_count 94 = .ok (.getfield 179, 3) ∧ decode cX12_count 97 = .ok (.ireturn, 1) := by decide +kernel
theorem dX12_count_88 : decode cX12_count 88 = .ok (.aload_n 0, 1) := dGX12_784.1
theorem dX12_count_89 : decode cX12_count 89 = .ok (.getfield 172, 3) := dGX12_784.2.1
theorem dX12_count_92 : decode cX12_count 92 = .ok (.ireturn, 1) := dGX12_784.2.2.1
theorem dX12_count_93 : decode cX12_count 93 = .ok (.aload_n 0, 1) := dGX12_784.2.2.2.1
theorem dX12_count_94 : decode cX12_count 94 = .ok (.getfield 179, 3) := dGX12_784.2.2.2.2.1
theorem dX12_count_97 : decode cX12_count 97 = .ok (.ireturn, 1) := dGX12_784.2.2.2.2.2
theorem dGX12_785 : decode cX12_count 98 = .ok (.aload_n 0, 1) ∧ decode cX12_count 99 = .ok (.getfield 182, 3) ∧ decode cX12_count 102 = .ok (.ireturn, 1) ∧ decode cX12_count 103 = .ok (.aload_n 0, 1) ∧ decode cX12_count 104 = .ok (.getfield 321, 3) ∧ decode cX12_count 107 = .ok (.ireturn, 1) := by decide +kernel
theorem dX12_count_98 : decode cX12_count 98 = .ok (.aload_n 0, 1) := dGX12_785.1
theorem dX12_count_99 : decode cX12_count 99 = .ok (.getfield 182, 3) := dGX12_785.2.1
theorem dX12_count_102 : decode cX12_count 102 = .ok (.ireturn, 1) := dGX12_785.2.2.1
theorem dX12_count_103 : decode cX12_count 103 = .ok (.aload_n 0, 1) := dGX12_785.2.2.2.1
theorem dX12_count_104 : decode cX12_count 104 = .ok (.getfield 321, 3) := dGX12_785.2.2.2.2.1
theorem dX12_count_107 : decode cX12_count 107 = .ok (.ireturn, 1) := dGX12_785.2.2.2.2.2
theorem dGX12_786 : decode cX12_count 108 = .ok (.aload_n 0, 1) ∧ decode cX12_count 109 = .ok (.getfield 204, 3) ∧ decode cX12_count 112 = .ok (.ireturn, 1) ∧ decode cX12_count 113 = .ok (.aload_n 0, 1) ∧ decode cX12_count 114 = .ok (.getfield 334, 3) ∧ decode cX12_count 117 = .ok (.ireturn, 1) := by decide +kernel
theorem dX12_count_108 : decode cX12_count 108 = .ok (.aload_n 0, 1) := dGX12_786.1
theorem dX12_count_109 : decode cX12_count 109 = .ok (.getfield 204, 3) := dGX12_786.2.1
theorem dX12_count_112 : decode cX12_count 112 = .ok (.ireturn, 1) := dGX12_786.2.2.1
theorem dX12_count_113 : decode cX12_count 113 = .ok (.aload_n 0, 1) := dGX12_786.2.2.2.1
theorem dX12_count_114 : decode cX12_count 114 = .ok (.getfield 334, 3) := dGX12_786.2.2.2.2.1
theorem dX12_count_117 : decode cX12_count 117 = .ok (.ireturn, 1) := dGX12_786.2.2.2.2.2
theorem dGX12_787 : decode cX12_count 118 = .ok (.aload_n 0, 1) ∧ decode cX12_count 119 = .ok (.getfield 13, 3) ∧ decode cX12_count 122 = .ok (.ireturn, 1) ∧ decode cX12_count 123 = .ok (.aload_n 0, 1) ∧ decode cX12_count 124 = .ok (.getfield 372, 3) ∧ decode cX12_count 127 = .ok (.ireturn, 1) := by decide +kernel
theorem dX12_count_118 : decode cX12_count 118 = .ok (.aload_n 0, 1) := dGX12_787.1
theorem dX12_count_119 : decode cX12_count 119 = .ok (.getfield 13, 3) := dGX12_787.2.1
theorem dX12_count_122 : decode cX12_count 122 = .ok (.ireturn, 1) := dGX12_787.2.2.1
theorem dX12_count_123 : decode cX12_count 123 = .ok (.aload_n 0, 1) := dGX12_787.2.2.2.1
theorem dX12_count_124 : decode cX12_count 124 = .ok (.getfield 372, 3) := dGX12_787.2.2.2.2.1
theorem dX12_count_127 : decode cX12_count 127 = .ok (.ireturn, 1) := dGX12_787.2.2.2.2.2
theorem dGX12_788 : decode cX12_count 128 = .ok (.aload_n 0, 1) ∧ decode cX12_count 129 = .ok (.invokevirtual 425, 3) ∧ decode cX12_count 132 = .ok (.ireturn, 1) ∧ decode cX12_count 133 = .ok (.aload_n 0, 1) ∧ decode cX12_count 134 = .ok (.invokevirtual 422, 3) ∧ decode cX12_count 137 = .ok (.ireturn, 1) := by decide +kernel
theorem dX12_count_128 : decode cX12_count 128 = .ok (.aload_n 0, 1) := dGX12_788.1
theorem dX12_count_129 : decode cX12_count 129 = .ok (.invokevirtual 425, 3) := dGX12_788.2.1
theorem dX12_count_132 : decode cX12_count 132 = .ok (.ireturn, 1) := dGX12_788.2.2.1
theorem dX12_count_133 : decode cX12_count 133 = .ok (.aload_n 0, 1) := dGX12_788.2.2.2.1
theorem dX12_count_134 : decode cX12_count 134 = .ok (.invokevirtual 422, 3) := dGX12_788.2.2.2.2.1
theorem dX12_count_137 : decode cX12_count 137 = .ok (.ireturn, 1) := dGX12_788.2.2.2.2.2
theorem dGX12_789 : decode cX12_count 138 = .ok (.iconst (-1), 1) ∧ decode cX12_count 139 = .ok (.ireturn, 1) := by decide +kernel
theorem dX12_count_138 : decode cX12_count 138 = .ok (.iconst (-1), 1) := dGX12_789.1
theorem dX12_count_139 : decode cX12_count 139 = .ok (.ireturn, 1) := dGX12_789.2
