set_option maxRecDepth 100000 in
theorem ok_112 : okM 112 = true := by decide +kernel
set_option maxRecDepth 100000 in
theorem ok_113 : okM 113 = true := by decide +kernel
set_option maxRecDepth 100000 in
theorem ok_114 : okM 114 = true := by decide +kernel
set_option maxRecDepth 100000 in
theorem ok_115 : okM 115 = true := by decide +kernel
set_option maxRecDepth 100000 in
theorem ok_116 : okM 116 = true := by decide +kernel
set_option maxRecDepth 100000 in
theorem ok_117 : okM 117 = true := by decide +kernel
set_option maxRecDepth 100000 in
theorem ok_118 : okM 118 = true := by decide +kernel
set_option maxRecDepth 100000 in
theorem ok_119 : okM 119 = true := by decide +kernel
set_option maxRecDepth 100000 in
theorem ok_120 : okM 120 = true := by decide +kernel
set_option maxRecDepth 100000 in
theorem ok_121 : okM 121 = true := by decide +kernel
set_option maxRecDepth 100000 in
theorem ok_122 : okM 122 = true := by decide +kernel
set_option maxRecDepth 100000 in
theorem ok_123 : okM 123 = true := by decide +kernel
set_option maxRecDepth 100000 in
theorem ok_124 : okM 124 = true := by decide +kernel
set_option maxRecDepth 100000 in
theorem ok_125 : okM 125 = true := by decide +kernel
set_option maxRecDepth 100000 in
theorem ok_126 : okM 126 = true := by decide +kernel
set_option maxRecDepth 100000 in
theorem ok_127 : okM 127 = true := by decide +kernel
set_option maxRecDepth 100000 in
theorem ok_128 : okM 128 = true := by decide +kernel
set_option maxRecDepth 100000 in
theorem ok_129 : okM 129 = true := by decide +kernel
set_option maxRecDepth 100000 in
theorem ok_130 : okM 130 = true := by decide +kernel
set_option maxRecDepth 100000 in
theorem ok_131 : okM 131 = true := by decide +kernel
set_option maxRecDepth 100000 in
theorem ok_132 : okM 132 = true := by decide +kernel
set_option maxRecDepth 100000 in
theorem ok_133 : okM 133 = true := by decide +kernel
set_option maxRecDepth 100000 in
theorem ok_134 : okM 134 = true := by decide +kernel
set_option maxRecDepth 100000 in
theorem ok_135 : okM 135 = true := by decide +kernel
set_option maxRecDepth 100000 in
theorem ok_136 : okM 136 = true := by decide +kernel
set_option maxRecDepth 100000 in
theorem ok_137 : okM 137 = true := by decide +kernel
set_option maxRecDepth 100000 in
theorem ok_138 : okM 138 = true := by decide +kernel
set_option maxRecDepth 100000 in
theorem ok_139 : okM 139 = true := by decide +kernel
set_option maxRecDepth 100000 in
theorem ok_140 : okM 140 = true := by decide +kernel
set_option maxRecDepth 100000 in
theorem ok_141 : okM 141 = true := by decide +kernel
set_option maxRecDepth 100000 in
theorem ok_142 : okM 142 = true := by decide +kernel
set_option maxRecDepth 100000 in
theorem ok_143 : okM 143 = true := by decide +kernel
set_option maxRecDepth 100000 in
theorem ok_144 : okM 144 = true := by decide +kernel
set_option maxRecDepth 100000 in
theorem ok_145 : okM 145 = true := by decide +kernel
set_option maxRecDepth 100000 in
theorem ok_146 : okM 146 = true := by decide +kernel
set_option maxRecDepth 100000 in
theorem ok_147 : okM 147 = true := by decide +kernel
set_option maxRecDepth 100000 in
theorem ok_148 : okM 148 = true := by decide +kernel
set_option maxRecDepth 100000 in
theorem ok_149 : okM 149 = true := by decide +kernel
set_option maxRecDepth 100000 in
theorem ok_150 : okM 150 = true := by decide +kernel
set_option maxRecDepth 100000 in
theorem ok_151 : okM 151 = true := by decide +kernel
set_option maxRecDepth 100000 in
theorem ok_152 : okM 152 = true := by decide +kernel
set_option maxRecDepth 100000 in
theorem ok_153 : okM 153 = true := by decide +kernel
set_option maxRecDepth 100000 in
theorem ok_154 : okM 154 = true := by decide +kernel
set_option maxRecDepth 100000 in
theorem ok_155 : okM 155 = true := by decide +kernel
set_option maxRecDepth 100000 in
theorem ok_156 : okM 156 = true := by decide +kernel
set_option maxRecDepth 100000 in
theorem ok_157 : okM 157 = true := by decide +kernel
set_option maxRecDepth 100000 in
theorem ok_158 : okM 158 = true := by decide +kernel
set_option maxRecDepth 100000 in
theorem ok_159 : okM 159 = true := by decide +kernel
set_option maxRecDepth 100000 in
theorem ok_160 : okM 160 = true := by decide +kernel
set_option maxRecDepth 100000 in
theorem ok_161 : okM 161 = true := by decide +kernel
set_option maxRecDepth 100000 in
theorem ok_162 : okM 162 = true := by decide +kernel
set_option maxRecDepth 100000 in
theorem ok_163 : okM 163 = true := by decide +kernel
set_option maxRecDepth 100000 in
theorem ok_164 : okM 164 = true := by decide +kernel
set_option maxRecDepth 100000 in
theorem ok_165 : okM 165 = true := by decide +kernel
set_option maxRecDepth 100000 in
theorem ok_166 : okM 166 = true := by decide +kernel
set_option maxRecDepth 100000 in
theorem ok_167 : okM 167 = true := by decide +kernel
set_option maxRecDepth 100000 in
theorem ok_168 : okM 168 = true := by decide +kernel
set_option maxRecDepth 100000 in
theorem ok_169 : okM 169 = true := by decide +kernel
set_option maxRecDepth 100000 in
theorem ok_170 : okM 170 = true := by decide +kernel
set_option maxRecDepth 100000 in
theorem ok_171 : okM 171 = true := by decide +kernel
set_option maxRecDepth 100000 in
theorem ok_172 : okM 172 = true := by decide +kernel
set_option maxRecDepth 100000 in
theorem ok_173 : okM 173 = true := by decide +kernel
set_option maxRecDepth 100000 in
theorem ok_174 : okM 174 = true := by decide +kernel
set_option maxRecDepth 100000 in
theorem ok_175 : okM 175 = true := by decide +kernel
set_option maxRecDepth 100000 in
theorem ok_176 : okM 176 = true := by decide +kernel
set_option maxRecDepth 100000 in
theorem ok_177 : okM 177 = true := by decide +kernel
set_option maxRecDepth 100000 in
theorem ok_178 : okM 178 = true := by decide +kernel
set_option maxRecDepth 100000 in
theorem ok_179 : okM 179 = true := by decide +kernel
set_option maxRecDepth 100000 in
theorem ok_180 : okM 180 = true := by decide +kernel
set_option maxRecDepth 100000 in
theorem ok_181 : okM 181 = true := by decide +kernel
set_option maxRecDepth 100000 in
theorem ok_182 : okM 182 = true := by decide +kernel
set_option maxRecDepth 100000 in
theorem ok_183 : okM 183 = true := by decide +kernel
set_option maxRecDepth 100000 in
theorem ok_184 : okM 184 = true := by decide +kernel
set_option maxRecDepth 100000 in
theorem ok_185 : okM 185 = true := by decide +kernel
set_option maxRecDepth 100000 in
theorem ok_186 : okM 186 = true := by decide +kernel
set_option maxRecDepth 100000 in
theorem ok_187 : okM 187 = true := by decide +kernel
set_option maxRecDepth 100000 in
theorem ok_188 : okM 188 = true := by decide +kernel
set_option maxRecDepth 100000 in
theorem ok_189 : okM 189 = true := by decide +kernel
set_option maxRecDepth 100000 in
theorem ok_190 : okM 190 = true := by decide +kernel
set_option maxRecDepth 100000 in
theorem ok_191 : okM 191 = true := by decide +kernel
set_option maxRecDepth 100000 in
theorem ok_192 : okM 192 = true := by decide +kernel
set_option maxRecDepth 100000 in
theorem ok_193 : okM 193 = true := by decide +kernel
set_option maxRecDepth 100000 in
theorem ok_194 : okM 194 = true := by decide +kernel
set_option maxRecDepth 100000 in
theorem ok_195 : okM 195 = true := by decide +kernel
set_option maxRecDepth 100000 in
theorem ok_196 : okM 196 = true := by decide +kernel
set_option maxRecDepth 100000 in
theorem ok_197 : okM 197 = true := by decide +kernel
set_option maxRecDepth 100000 in
theorem ok_198 : okM 198 = true := by decide +kernel
set_option maxRecDepth 100000 in
theorem ok_199 : okM 199 = true := by decide +kernel
set_option maxRecDepth 100000 in
theorem ok_200 : okM 200 = true := by decide +kernel
set_option maxRecDepth 100000 in
theorem ok_201 : okM 201 = true := by decide +kernel
set_option maxRecDepth 100000 in
theorem ok_202 : okM 202 = true := by decide +kernel
set_option maxRecDepth 100000 in
theorem ok_203 : okM 203 = true := by decide +kernel
set_option maxRecDepth 100000 in
theorem ok_204 : okM 204 = true := by decide +kernel
set_option maxRecDepth 100000 in
theorem ok_205 : okM 205 = true := by decide +kernel
set_option maxRecDepth 100000 in
theorem ok_206 : okM 206 = true := by decide +kernel
set_option maxRecDepth 100000 in
theorem ok_207 : okM 207 = true := by decide +kernel
set_option maxRecDepth 100000 in
theorem ok_208 : okM 208 = true := by decide +kernel
set_option maxRecDepth 100000 in
theorem ok_209 : okM 209 = true := by decide +kernel
set_option maxRecDepth 100000 in
theorem ok_210 : okM 210 = true := by decide +kernel
set_option maxRecDepth 100000 in
theorem ok_211 : okM 211 = true := by decide +kernel
set_option maxRecDepth 100000 in
theorem ok_212 : okM 212 = true := by decide +kernel
set_option maxRecDepth 100000 in
theorem ok_213 : okM 213 = true := by decide +kernel
set_option maxRecDepth 100000 in
theorem ok_214 : okM 214 = true := by decide +kernel
set_option maxRecDepth 100000 in
theorem ok_215 : okM 215 = true := by decide +kernel
set_option maxRecDepth 100000 in
theorem ok_216 : okM 216 = true := by decide +kernel
set_option maxRecDepth 100000 in
theorem ok_217 : okM 217 = true := by decide +kernel
set_option maxRecDepth 100000 in
theorem ok_218 : okM 218 = true := by decide +kernel
set_option maxRecDepth 100000 in
theorem ok_219 : okM 219 = true := by decide +kernel
set_option maxRecDepth 100000 in
theorem ok_220 : okM 220 = true := by decide +kernel
set_option maxRecDepth 100000 in
theorem ok_221 : okM 221 = true := by decide +kernel
set_option maxRecDepth 100000 in
theorem ok_222 : okM 222 = true := by decide +kernel
set_option maxRecDepth 100000 in
theorem ok_223 : okM 223 = true := by decide +kernel
set_option maxRecDepth 100000 in
theorem ok_224 : okM 224 = true := by decide +kernel
def oki (t : Nat) : Prop := okM t = true
set_option maxRecDepth 100000 in
theorem oki_all_25 : ∀ t, t < 25 → oki t := lt_s (lt_s (lt_s (lt_s (lt_s (lt_s (lt_s (lt_s (lt_s (lt_s (lt_s (lt_s (lt_s (lt_s (lt_s (lt_s (lt_s (lt_s (lt_s (lt_s (lt_s (lt_s (lt_s (lt_s (lt_s (lt_0) (ok_0)) (ok_1)) (ok_2)) (ok_3)) (ok_4)) (ok_5)) (ok_6)) (ok_7)) (ok_8)) (ok_9)) (ok_10)) (ok_11)) (ok_12)) (ok_13)) (ok_14)) (ok_15)) (ok_16)) (ok_17)) (ok_18)) (ok_19)) (ok_20)) (ok_21)) (ok_22)) (ok_23)) (ok_24)
set_option maxRecDepth 100000 in
theorem oki_all_50 : ∀ t, t < 50 → oki t := lt_s (lt_s (lt_s (lt_s (lt_s (lt_s (lt_s (lt_s (lt_s (lt_s (lt_s (lt_s (lt_s (lt_s (lt_s (lt_s (lt_s (lt_s (lt_s (lt_s (lt_s (lt_s (lt_s (lt_s (lt_s (oki_all_25) (ok_25)) (ok_26)) (ok_27)) (ok_28)) (ok_29)) (ok_30)) (ok_31)) (ok_32)) (ok_33)) (ok_34)) (ok_35)) (ok_36)) (ok_37)) (ok_38)) (ok_39)) (ok_40)) (ok_41)) (ok_42)) (ok_43)) (ok_44)) (ok_45)) (ok_46)) (ok_47)) (ok_48)) (ok_49)
set_option maxRecDepth 100000 in
theorem oki_all_75 : ∀ t, t < 75 → oki t := lt_s (lt_s (lt_s (lt_s (lt_s (lt_s (lt_s (lt_s (lt_s (lt_s (lt_s (lt_s (lt_s (lt_s (lt_s (lt_s (lt_s (lt_s (lt_s (lt_s (lt_s (lt_s (lt_s (lt_s (lt_s (oki_all_50) (ok_50)) (ok_51)) (ok_52)) (ok_53)) (ok_54)) (ok_55)) (ok_56)) (ok_57)) (ok_58)) (ok_59)) (ok_60)) (ok_61)) (ok_62)) (ok_63)) (ok_64)) (ok_65)) (ok_66)) (ok_67)) (ok_68)) (ok_69)) (ok_70)) (ok_71)) (ok_72)) (ok_73)) (ok_74)
set_option maxRecDepth 100000 in
theorem oki_all_100 : ∀ t, t < 100 → oki t := lt_s (lt_s (lt_s (lt_s (lt_s (lt_s (lt_s (lt_s (lt_s (lt_s (lt_s (lt_s (lt_s (lt_s (lt_s (lt_s (lt_s (lt_s (lt_s (lt_s (lt_s (lt_s (lt_s (lt_s (lt_s (oki_all_75) (ok_75)) (ok_76)) (ok_77)) (ok_78)) (ok_79)) (ok_80)) (ok_81)) (ok_82)) (ok_83)) (ok_84)) (ok_85)) (ok_86)) (ok_87)) (ok_88)) (ok_89)) (ok_90)) (ok_91)) (ok_92)) (ok_93)) (ok_94)) (ok_95)) (ok_96)) (ok_97)) (ok_98)) (ok_99)
set_option maxRecDepth 100000 in
theorem oki_all_125 : ∀ t, t < 125 → oki t := lt_s (lt_s (lt_s (lt_s (lt_s (lt_s (lt_s (lt_s (lt_s (lt_s (lt_s (lt_s (lt_s (lt_s (lt_s (lt_s (lt_s (lt_s (lt_s (lt_s (lt_s (lt_s (lt_s (lt_s (lt_s (oki_all_100) (ok_100)) (ok_101)) (ok_102)) (ok_103)) (ok_104)) (ok_105)) (ok_106)) (ok_107)) (ok_108)) (ok_109)) (ok_110)) (ok_111)) (ok_112)) (ok_113)) (ok_114)) (ok_115)) (ok_116)) (ok_117)) (ok_118)) (ok_119)) (ok_120)) (ok_121)) (ok_122)) (ok_123)) (ok_124)
set_option maxRecDepth 100000 in
theorem oki_all_150 : ∀ t, t < 150 → oki t := lt_s (lt_s (lt_s (lt_s (lt_s (lt_s (lt_s (lt_s (lt_s (lt_s (lt_s (lt_s (lt_s (lt_s (lt_s (lt_s (lt_s (lt_s (lt_s (lt_s (lt_s (lt_s (lt_s (lt_s (lt_s (oki_all_125) (ok_125)) (ok_126)) (ok_127)) (ok_128)) (ok_129)) (ok_130)) (ok_131)) (ok_132)) (ok_133)) (ok_134)) (ok_135)) (ok_136)) (ok_137)) (ok_138)) (ok_139)) (ok_140)) (ok_141)) (ok_142)) (ok_143)) (ok_144)) (ok_145)) (ok_146)) (ok_147)) (ok_148)) (ok_149)
set_option maxRecDepth 100000 in
theorem oki_all_175 : ∀ t, t < 175 → oki t := lt_s (lt_s (lt_s (lt_s (lt_s (lt_s (lt_s (lt_s (lt_s (lt_s (lt_s (lt_s (lt_s (lt_s (lt_s (lt_s (lt_s (lt_s (lt_s (lt_s (lt_s (lt_s (lt_s (lt_s (lt_s (oki_all_150) (ok_150)) (ok_151)) (ok_152)) (ok_153)) (ok_154)) (ok_155)) (ok_156)) (ok_157)) (ok_158)) (ok_159)) (ok_160)) (ok_161)) (ok_162)) (ok_163)) (ok_164)) (ok_165)) (ok_166)) (ok_167)) (ok_168)) (ok_169)) (ok_170)) (ok_171)) (ok_172)) (ok_173)) (ok_174)
set_option maxRecDepth 100000 in
theorem oki_all_200 : ∀ t, t < 200 → oki t := lt_s (lt_s (lt_s (lt_s (lt_s (lt_s (lt_s (lt_s (lt_s (lt_s (lt_s (lt_s (lt_s (lt_s (lt_s (lt_s (lt_s (lt_s (lt_s (lt_s (lt_s (lt_s (lt_s (lt_s (lt_s (oki_all_175) (ok_175)) (ok_176)) (ok_177)) (ok_178)) (ok_179)) (ok_180)) (ok_181)) (ok_182)) (ok_183)) (ok_184)) (ok_185)) (ok_186)) (ok_187)) (ok_188)) (ok_189)) (ok_190)) (ok_191)) (ok_192)) (ok_193)) (ok_194)) (ok_195)) (ok_196)) (ok_197)) (ok_198)) (ok_199)
set_option maxRecDepth 100000 in
theorem oki_all_225 : ∀ t, t < 225 → oki t := lt_s (lt_s (lt_s (lt_s (lt_s (lt_s (lt_s (lt_s (lt_s (lt_s (lt_s (lt_s (lt_s (lt_s (lt_s (lt_s (lt_s (lt_s (lt_s (lt_s (lt_s (lt_s (lt_s (lt_s (lt_s (oki_all_200) (ok_200)) (ok_201)) (ok_202)) (ok_203)) (ok_204)) (ok_205)) (ok_206)) (ok_207)) (ok_208)) (ok_209)) (ok_210)) (ok_211)) (ok_212)) (ok_213)) (ok_214)) (ok_215)) (ok_216)) (ok_217)) (ok_218)) (ok_219)) (ok_220)) (ok_221)) (ok_222)) (ok_223)) (ok_224)
theorem oki_all : ∀ t, t < NM → oki t := oki_all_225
