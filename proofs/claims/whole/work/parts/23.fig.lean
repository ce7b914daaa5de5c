/-! The figures of the methods, by program. -/
theorem hcat_lt {k : Nat} (h : k < 244) : hcat k = [] := by unfold hcat; exact if_pos h
def rmin (x y : Int) : Int := if y < x then y else x
def rmax (x y : Int) : Int := if x < y then y else x
theorem bit01 (p : Prop) [Decidable p] : (if p then (1 : Int) else 0) = 0 ∨ (if p then (1 : Int) else 0) = 1 := by split <;> simp
theorem rq_0 : rows 0 = rw_0 := rfl
theorem rt_0 : rett 0 = none := rfl
theorem rq_1 : rows 1 = rw_1 := rfl
theorem rt_1 : rett 1 = none := rfl
theorem rq_2 : rows 2 = rw_2 := rfl
theorem rt_2 : rett 2 = none := rfl
theorem rq_3 : rows 3 = rw_3 := rfl
theorem rt_3 : rett 3 = (some .boolean) := rfl
theorem rq_4 : rows 4 = rw_4 := rfl
theorem rt_4 : rett 4 = (some .int) := rfl
theorem rq_5 : rows 5 = rw_5 := rfl
theorem rt_5 : rett 5 = (some .int) := rfl
theorem rq_6 : rows 6 = rw_6 := rfl
theorem rt_6 : rett 6 = (some .boolean) := rfl
theorem rq_7 : rows 7 = rw_7 := rfl
theorem rt_7 : rett 7 = (some .boolean) := rfl
theorem rq_8 : rows 8 = rw_8 := rfl
theorem rt_8 : rett 8 = (some .boolean) := rfl
theorem rq_9 : rows 9 = rw_9 := rfl
theorem rt_9 : rett 9 = (some .boolean) := rfl
theorem rq_10 : rows 10 = rw_10 := rfl
theorem rt_10 : rett 10 = (some .int) := rfl
theorem rq_11 : rows 11 = rw_11 := rfl
theorem rt_11 : rett 11 = (some .int) := rfl
theorem rq_12 : rows 12 = rw_12 := rfl
theorem rt_12 : rett 12 = (some .int) := rfl
theorem rq_13 : rows 13 = rw_13 := rfl
theorem rt_13 : rett 13 = (some .int) := rfl
theorem rq_14 : rows 14 = rw_14 := rfl
theorem rt_14 : rett 14 = none := rfl
theorem rq_15 : rows 15 = rw_15 := rfl
theorem rt_15 : rett 15 = none := rfl
theorem rq_16 : rows 16 = rw_16 := rfl
theorem rt_16 : rett 16 = (some .int) := rfl
theorem rq_17 : rows 17 = rw_17 := rfl
theorem rt_17 : rett 17 = (some .int) := rfl
theorem rq_18 : rows 18 = rw_18 := rfl
theorem rt_18 : rett 18 = none := rfl
theorem rq_19 : rows 19 = rw_19 := rfl
theorem rt_19 : rett 19 = none := rfl
theorem rq_20 : rows 20 = rw_20 := rfl
theorem rt_20 : rett 20 = (some (.object "FencingMeet$Meet")) := rfl
theorem rq_21 : rows 21 = rw_21 := rfl
theorem rt_21 : rett 21 = none := rfl
theorem rq_22 : rows 22 = rw_22 := rfl
theorem rt_22 : rett 22 = none := rfl
theorem rq_23 : rows 23 = rw_23 := rfl
theorem rt_23 : rett 23 = none := rfl
theorem rq_24 : rows 24 = rw_24 := rfl
theorem rt_24 : rett 24 = none := rfl
theorem rq_25 : rows 25 = rw_25 := rfl
theorem rt_25 : rett 25 = none := rfl
theorem rq_26 : rows 26 = rw_26 := rfl
theorem rt_26 : rett 26 = none := rfl
theorem rq_27 : rows 27 = rw_27 := rfl
theorem rt_27 : rett 27 = none := rfl
theorem rq_28 : rows 28 = rw_28 := rfl
theorem rt_28 : rett 28 = none := rfl
theorem rq_29 : rows 29 = rw_29 := rfl
theorem rt_29 : rett 29 = none := rfl
theorem rq_30 : rows 30 = rw_30 := rfl
theorem rt_30 : rett 30 = none := rfl
theorem rq_31 : rows 31 = rw_31 := rfl
theorem rt_31 : rett 31 = (some .int) := rfl
theorem rq_32 : rows 32 = rw_32 := rfl
theorem rt_32 : rett 32 = (some .int) := rfl
theorem rq_33 : rows 33 = rw_33 := rfl
theorem rt_33 : rett 33 = none := rfl
theorem rq_34 : rows 34 = rw_34 := rfl
theorem rt_34 : rett 34 = (some .int) := rfl
theorem rq_35 : rows 35 = rw_35 := rfl
theorem rt_35 : rett 35 = none := rfl
theorem rq_36 : rows 36 = rw_36 := rfl
theorem rt_36 : rett 36 = none := rfl
theorem rq_37 : rows 37 = rw_37 := rfl
theorem rt_37 : rett 37 = (some .int) := rfl
theorem rq_38 : rows 38 = rw_38 := rfl
theorem rt_38 : rett 38 = none := rfl
theorem rq_39 : rows 39 = rw_39 := rfl
theorem rt_39 : rett 39 = none := rfl
theorem rq_40 : rows 40 = rw_40 := rfl
theorem rt_40 : rett 40 = (some .int) := rfl
theorem rq_41 : rows 41 = rw_41 := rfl
theorem rt_41 : rett 41 = (some .int) := rfl
theorem rq_42 : rows 42 = rw_42 := rfl
theorem rt_42 : rett 42 = none := rfl
theorem rq_43 : rows 43 = rw_43 := rfl
theorem rt_43 : rett 43 = none := rfl
theorem rq_44 : rows 44 = rw_44 := rfl
theorem rt_44 : rett 44 = none := rfl
theorem rq_45 : rows 45 = rw_45 := rfl
theorem rt_45 : rett 45 = none := rfl
theorem rq_46 : rows 46 = rw_46 := rfl
theorem rt_46 : rett 46 = none := rfl
theorem rq_47 : rows 47 = rw_47 := rfl
theorem rt_47 : rett 47 = (some .int) := rfl
theorem rq_48 : rows 48 = rw_48 := rfl
theorem rt_48 : rett 48 = (some .int) := rfl
theorem rq_49 : rows 49 = rw_49 := rfl
theorem rt_49 : rett 49 = (some .int) := rfl
theorem rq_50 : rows 50 = rw_50 := rfl
theorem rt_50 : rett 50 = none := rfl
theorem rq_51 : rows 51 = rw_51 := rfl
theorem rt_51 : rett 51 = none := rfl
theorem rq_52 : rows 52 = rw_52 := rfl
theorem rt_52 : rett 52 = none := rfl
theorem rq_53 : rows 53 = rw_53 := rfl
theorem rt_53 : rett 53 = none := rfl
theorem rq_54 : rows 54 = rw_54 := rfl
theorem rt_54 : rett 54 = (some .boolean) := rfl
theorem rq_55 : rows 55 = rw_55 := rfl
theorem rt_55 : rett 55 = none := rfl
theorem rq_56 : rows 56 = rw_56 := rfl
theorem rt_56 : rett 56 = none := rfl
theorem rq_57 : rows 57 = rw_57 := rfl
theorem rt_57 : rett 57 = (some .int) := rfl
theorem rq_58 : rows 58 = rw_58 := rfl
theorem rt_58 : rett 58 = (some .int) := rfl
theorem rq_59 : rows 59 = rw_59 := rfl
theorem rt_59 : rett 59 = (some .int) := rfl
theorem rq_60 : rows 60 = rw_60 := rfl
theorem rt_60 : rett 60 = none := rfl
theorem rq_61 : rows 61 = rw_61 := rfl
theorem rt_61 : rett 61 = none := rfl
theorem rq_62 : rows 62 = rw_62 := rfl
theorem rt_62 : rett 62 = none := rfl
theorem rq_63 : rows 63 = rw_63 := rfl
theorem rt_63 : rett 63 = (some .int) := rfl
theorem rq_64 : rows 64 = rw_64 := rfl
theorem rt_64 : rett 64 = none := rfl
theorem rq_65 : rows 65 = rw_65 := rfl
theorem rt_65 : rett 65 = (some .boolean) := rfl
theorem rq_66 : rows 66 = rw_66 := rfl
theorem rt_66 : rett 66 = none := rfl
theorem rq_67 : rows 67 = rw_67 := rfl
theorem rt_67 : rett 67 = (some .boolean) := rfl
theorem rq_68 : rows 68 = rw_68 := rfl
theorem rt_68 : rett 68 = none := rfl
theorem rq_69 : rows 69 = rw_69 := rfl
theorem rt_69 : rett 69 = (some .int) := rfl
theorem rq_70 : rows 70 = rw_70 := rfl
theorem rt_70 : rett 70 = (some .int) := rfl
theorem rq_71 : rows 71 = rw_71 := rfl
theorem rt_71 : rett 71 = (some .boolean) := rfl
theorem rq_72 : rows 72 = rw_72 := rfl
theorem rt_72 : rett 72 = (some .boolean) := rfl
theorem rq_73 : rows 73 = rw_73 := rfl
theorem rt_73 : rett 73 = (some .int) := rfl
theorem rq_74 : rows 74 = rw_74 := rfl
theorem rt_74 : rett 74 = (some .int) := rfl
theorem rq_75 : rows 75 = rw_75 := rfl
theorem rt_75 : rett 75 = (some .int) := rfl
theorem rq_76 : rows 76 = rw_76 := rfl
theorem rt_76 : rett 76 = none := rfl
theorem rq_77 : rows 77 = rw_77 := rfl
theorem rt_77 : rett 77 = none := rfl
theorem rq_78 : rows 78 = rw_78 := rfl
theorem rt_78 : rett 78 = (some .int) := rfl
theorem rq_79 : rows 79 = rw_79 := rfl
theorem rt_79 : rett 79 = none := rfl
theorem rq_80 : rows 80 = rw_80 := rfl
theorem rt_80 : rett 80 = none := rfl
theorem rq_81 : rows 81 = rw_81 := rfl
theorem rt_81 : rett 81 = none := rfl
theorem rq_82 : rows 82 = rw_82 := rfl
theorem rt_82 : rett 82 = none := rfl
theorem rq_83 : rows 83 = rw_83 := rfl
theorem rt_83 : rett 83 = none := rfl
theorem rq_84 : rows 84 = rw_84 := rfl
theorem rt_84 : rett 84 = none := rfl
theorem rq_85 : rows 85 = rw_85 := rfl
theorem rt_85 : rett 85 = none := rfl
theorem rq_86 : rows 86 = rw_86 := rfl
theorem rt_86 : rett 86 = (some .int) := rfl
theorem rq_87 : rows 87 = rw_87 := rfl
theorem rt_87 : rett 87 = (some .int) := rfl
theorem rq_88 : rows 88 = rw_88 := rfl
theorem rt_88 : rett 88 = (some .int) := rfl
theorem rq_89 : rows 89 = rw_89 := rfl
theorem rt_89 : rett 89 = (some .int) := rfl
theorem rq_90 : rows 90 = rw_90 := rfl
theorem rt_90 : rett 90 = (some .int) := rfl
theorem rq_91 : rows 91 = rw_91 := rfl
theorem rt_91 : rett 91 = none := rfl
theorem rq_92 : rows 92 = rw_92 := rfl
theorem rt_92 : rett 92 = none := rfl
theorem rq_93 : rows 93 = rw_93 := rfl
theorem rt_93 : rett 93 = (some .int) := rfl
theorem rq_94 : rows 94 = rw_94 := rfl
theorem rt_94 : rett 94 = (some .int) := rfl
theorem rq_95 : rows 95 = rw_95 := rfl
theorem rt_95 : rett 95 = none := rfl
theorem rq_96 : rows 96 = rw_96 := rfl
theorem rt_96 : rett 96 = none := rfl
theorem rq_97 : rows 97 = rw_97 := rfl
theorem rt_97 : rett 97 = (some .int) := rfl
theorem rq_98 : rows 98 = rw_98 := rfl
theorem rt_98 : rett 98 = (some .int) := rfl
theorem rq_99 : rows 99 = rw_99 := rfl
theorem rt_99 : rett 99 = (some .int) := rfl
theorem rq_100 : rows 100 = rw_100 := rfl
theorem rt_100 : rett 100 = (some .boolean) := rfl
theorem rq_101 : rows 101 = rw_101 := rfl
theorem rt_101 : rett 101 = (some .boolean) := rfl
theorem rq_102 : rows 102 = rw_102 := rfl
theorem rt_102 : rett 102 = (some .int) := rfl
theorem rq_103 : rows 103 = rw_103 := rfl
theorem rt_103 : rett 103 = none := rfl
theorem rq_104 : rows 104 = rw_104 := rfl
theorem rt_104 : rett 104 = none := rfl
theorem rq_105 : rows 105 = rw_105 := rfl
theorem rt_105 : rett 105 = (some .int) := rfl
theorem rq_106 : rows 106 = rw_106 := rfl
theorem rt_106 : rett 106 = (some .int) := rfl
theorem rq_107 : rows 107 = rw_107 := rfl
theorem rt_107 : rett 107 = (some .int) := rfl
theorem rq_108 : rows 108 = rw_108 := rfl
theorem rt_108 : rett 108 = (some .int) := rfl
theorem rq_109 : rows 109 = rw_109 := rfl
theorem rt_109 : rett 109 = (some .int) := rfl
theorem rq_110 : rows 110 = rw_110 := rfl
theorem rt_110 : rett 110 = (some .int) := rfl
theorem rq_111 : rows 111 = rw_111 := rfl
theorem rt_111 : rett 111 = (some .int) := rfl
theorem rq_112 : rows 112 = rw_112 := rfl
theorem rt_112 : rett 112 = (some .int) := rfl
theorem rq_113 : rows 113 = rw_113 := rfl
theorem rt_113 : rett 113 = (some .int) := rfl
theorem rq_114 : rows 114 = rw_114 := rfl
theorem rt_114 : rett 114 = (some .int) := rfl
theorem rq_115 : rows 115 = rw_115 := rfl
theorem rt_115 : rett 115 = (some .int) := rfl
theorem rq_116 : rows 116 = rw_116 := rfl
theorem rt_116 : rett 116 = (some .int) := rfl
theorem rq_117 : rows 117 = rw_117 := rfl
theorem rt_117 : rett 117 = (some .int) := rfl
theorem rq_118 : rows 118 = rw_118 := rfl
theorem rt_118 : rett 118 = (some .int) := rfl
theorem rq_119 : rows 119 = rw_119 := rfl
theorem rt_119 : rett 119 = (some .int) := rfl
theorem rq_120 : rows 120 = rw_120 := rfl
theorem rt_120 : rett 120 = (some .int) := rfl
theorem rq_121 : rows 121 = rw_121 := rfl
theorem rt_121 : rett 121 = (some .int) := rfl
theorem rq_122 : rows 122 = rw_122 := rfl
theorem rt_122 : rett 122 = (some .int) := rfl
theorem rq_123 : rows 123 = rw_123 := rfl
theorem rt_123 : rett 123 = (some .double) := rfl
theorem rq_124 : rows 124 = rw_124 := rfl
theorem rt_124 : rett 124 = (some .int) := rfl
theorem rq_125 : rows 125 = rw_125 := rfl
theorem rt_125 : rett 125 = (some .int) := rfl
theorem rq_126 : rows 126 = rw_126 := rfl
theorem rt_126 : rett 126 = (some .int) := rfl
theorem rq_127 : rows 127 = rw_127 := rfl
theorem rt_127 : rett 127 = (some .int) := rfl
theorem rq_128 : rows 128 = rw_128 := rfl
theorem rt_128 : rett 128 = (some .int) := rfl
theorem rq_129 : rows 129 = rw_129 := rfl
theorem rt_129 : rett 129 = (some .int) := rfl
theorem rq_130 : rows 130 = rw_130 := rfl
theorem rt_130 : rett 130 = (some .int) := rfl
theorem rq_131 : rows 131 = rw_131 := rfl
theorem rt_131 : rett 131 = (some .int) := rfl
theorem rq_132 : rows 132 = rw_132 := rfl
theorem rt_132 : rett 132 = (some .int) := rfl
theorem rq_133 : rows 133 = rw_133 := rfl
theorem rt_133 : rett 133 = (some .int) := rfl
theorem rq_134 : rows 134 = rw_134 := rfl
theorem rt_134 : rett 134 = (some .int) := rfl
theorem rq_135 : rows 135 = rw_135 := rfl
theorem rt_135 : rett 135 = (some .int) := rfl
theorem rq_136 : rows 136 = rw_136 := rfl
theorem rt_136 : rett 136 = none := rfl
theorem rq_137 : rows 137 = rw_137 := rfl
theorem rt_137 : rett 137 = (some .int) := rfl
theorem rq_138 : rows 138 = rw_138 := rfl
theorem rt_138 : rett 138 = (some .int) := rfl
theorem rq_139 : rows 139 = rw_139 := rfl
theorem rt_139 : rett 139 = (some .int) := rfl
theorem rq_140 : rows 140 = rw_140 := rfl
theorem rt_140 : rett 140 = none := rfl
theorem rq_141 : rows 141 = rw_141 := rfl
theorem rt_141 : rett 141 = none := rfl
theorem rq_142 : rows 142 = rw_142 := rfl
theorem rt_142 : rett 142 = (some .boolean) := rfl
theorem rq_143 : rows 143 = rw_143 := rfl
theorem rt_143 : rett 143 = none := rfl
theorem rq_144 : rows 144 = rw_144 := rfl
theorem rt_144 : rett 144 = none := rfl
theorem rq_145 : rows 145 = rw_145 := rfl
theorem rt_145 : rett 145 = none := rfl
theorem rq_146 : rows 146 = rw_146 := rfl
theorem rt_146 : rett 146 = none := rfl
theorem rq_147 : rows 147 = rw_147 := rfl
theorem rt_147 : rett 147 = none := rfl
theorem rq_148 : rows 148 = rw_148 := rfl
theorem rt_148 : rett 148 = none := rfl
theorem rq_149 : rows 149 = rw_149 := rfl
theorem rt_149 : rett 149 = (some .int) := rfl
theorem rq_150 : rows 150 = rw_150 := rfl
theorem rt_150 : rett 150 = (some .boolean) := rfl
theorem rq_151 : rows 151 = rw_151 := rfl
theorem rt_151 : rett 151 = none := rfl
theorem rq_152 : rows 152 = rw_152 := rfl
theorem rt_152 : rett 152 = (some .int) := rfl
theorem rq_153 : rows 153 = rw_153 := rfl
theorem rt_153 : rett 153 = (some .int) := rfl
theorem rq_154 : rows 154 = rw_154 := rfl
theorem rt_154 : rett 154 = (some .boolean) := rfl
theorem rq_155 : rows 155 = rw_155 := rfl
theorem rt_155 : rett 155 = (some .boolean) := rfl
theorem rq_156 : rows 156 = rw_156 := rfl
theorem rt_156 : rett 156 = (some .boolean) := rfl
theorem rq_157 : rows 157 = rw_157 := rfl
theorem rt_157 : rett 157 = (some .int) := rfl
theorem rq_158 : rows 158 = rw_158 := rfl
theorem rt_158 : rett 158 = (some .int) := rfl
theorem rq_159 : rows 159 = rw_159 := rfl
theorem rt_159 : rett 159 = none := rfl
theorem rq_160 : rows 160 = rw_160 := rfl
theorem rt_160 : rett 160 = none := rfl
theorem rq_161 : rows 161 = rw_161 := rfl
theorem rt_161 : rett 161 = (some .int) := rfl
theorem rq_162 : rows 162 = rw_162 := rfl
theorem rt_162 : rett 162 = none := rfl
theorem rq_163 : rows 163 = rw_163 := rfl
theorem rt_163 : rett 163 = none := rfl
theorem rq_164 : rows 164 = rw_164 := rfl
theorem rt_164 : rett 164 = (some .int) := rfl
theorem rq_165 : rows 165 = rw_165 := rfl
theorem rt_165 : rett 165 = (some .int) := rfl
theorem rq_166 : rows 166 = rw_166 := rfl
theorem rt_166 : rett 166 = (some .int) := rfl
theorem rq_167 : rows 167 = rw_167 := rfl
theorem rt_167 : rett 167 = (some .int) := rfl
theorem rq_168 : rows 168 = rw_168 := rfl
theorem rt_168 : rett 168 = (some .boolean) := rfl
theorem rq_169 : rows 169 = rw_169 := rfl
theorem rt_169 : rett 169 = (some .int) := rfl
theorem rq_170 : rows 170 = rw_170 := rfl
theorem rt_170 : rett 170 = (some .int) := rfl
theorem rq_171 : rows 171 = rw_171 := rfl
theorem rt_171 : rett 171 = none := rfl
theorem rq_172 : rows 172 = rw_172 := rfl
theorem rt_172 : rett 172 = (some .int) := rfl
theorem rq_173 : rows 173 = rw_173 := rfl
theorem rt_173 : rett 173 = none := rfl
theorem rq_174 : rows 174 = rw_174 := rfl
theorem rt_174 : rett 174 = (some .int) := rfl
theorem rq_175 : rows 175 = rw_175 := rfl
theorem rt_175 : rett 175 = (some .int) := rfl
theorem rq_176 : rows 176 = rw_176 := rfl
theorem rt_176 : rett 176 = (some .int) := rfl
theorem rq_177 : rows 177 = rw_177 := rfl
theorem rt_177 : rett 177 = (some .int) := rfl
theorem rq_178 : rows 178 = rw_178 := rfl
theorem rt_178 : rett 178 = (some .int) := rfl
theorem rq_179 : rows 179 = rw_179 := rfl
theorem rt_179 : rett 179 = (some .boolean) := rfl
theorem rq_180 : rows 180 = rw_180 := rfl
theorem rt_180 : rett 180 = (some .int) := rfl
theorem rq_181 : rows 181 = rw_181 := rfl
theorem rt_181 : rett 181 = (some .int) := rfl
theorem rq_182 : rows 182 = rw_182 := rfl
theorem rt_182 : rett 182 = (some .int) := rfl
theorem rq_183 : rows 183 = rw_183 := rfl
theorem rt_183 : rett 183 = (some .boolean) := rfl
theorem rq_184 : rows 184 = rw_184 := rfl
theorem rt_184 : rett 184 = (some .int) := rfl
theorem rq_185 : rows 185 = rw_185 := rfl
theorem rt_185 : rett 185 = (some .int) := rfl
theorem rq_186 : rows 186 = rw_186 := rfl
theorem rt_186 : rett 186 = (some .int) := rfl
theorem rq_187 : rows 187 = rw_187 := rfl
theorem rt_187 : rett 187 = (some .int) := rfl
theorem rq_188 : rows 188 = rw_188 := rfl
theorem rt_188 : rett 188 = (some .int) := rfl
theorem rq_189 : rows 189 = rw_189 := rfl
theorem rt_189 : rett 189 = (some .boolean) := rfl
theorem rq_190 : rows 190 = rw_190 := rfl
theorem rt_190 : rett 190 = (some .int) := rfl
theorem rq_191 : rows 191 = rw_191 := rfl
theorem rt_191 : rett 191 = (some .int) := rfl
theorem rq_192 : rows 192 = rw_192 := rfl
theorem rt_192 : rett 192 = (some .int) := rfl
theorem rq_193 : rows 193 = rw_193 := rfl
theorem rt_193 : rett 193 = none := rfl
theorem rq_194 : rows 194 = rw_194 := rfl
theorem rt_194 : rett 194 = none := rfl
theorem rq_195 : rows 195 = rw_195 := rfl
theorem rt_195 : rett 195 = none := rfl
theorem rq_196 : rows 196 = rw_196 := rfl
theorem rt_196 : rett 196 = (some .int) := rfl
theorem rq_197 : rows 197 = rw_197 := rfl
theorem rt_197 : rett 197 = (some .int) := rfl
theorem rq_198 : rows 198 = rw_198 := rfl
theorem rt_198 : rett 198 = none := rfl
theorem rq_199 : rows 199 = rw_199 := rfl
theorem rt_199 : rett 199 = (some .int) := rfl
theorem rq_200 : rows 200 = rw_200 := rfl
theorem rt_200 : rett 200 = (some .int) := rfl
theorem rq_201 : rows 201 = rw_201 := rfl
theorem rt_201 : rett 201 = (some .int) := rfl
theorem rq_202 : rows 202 = rw_202 := rfl
theorem rt_202 : rett 202 = (some .int) := rfl
theorem rq_203 : rows 203 = rw_203 := rfl
theorem rt_203 : rett 203 = (some .int) := rfl
theorem rq_204 : rows 204 = rw_204 := rfl
theorem rt_204 : rett 204 = none := rfl
theorem rq_205 : rows 205 = rw_205 := rfl
theorem rt_205 : rett 205 = (some .int) := rfl
theorem rq_206 : rows 206 = rw_206 := rfl
theorem rt_206 : rett 206 = (some .int) := rfl
theorem rq_207 : rows 207 = rw_207 := rfl
theorem rt_207 : rett 207 = (some .double) := rfl
theorem rq_208 : rows 208 = rw_208 := rfl
theorem rt_208 : rett 208 = (some .int) := rfl
theorem rq_209 : rows 209 = rw_209 := rfl
theorem rt_209 : rett 209 = (some .int) := rfl
theorem rq_210 : rows 210 = rw_210 := rfl
theorem rt_210 : rett 210 = (some .int) := rfl
theorem rq_211 : rows 211 = rw_211 := rfl
theorem rt_211 : rett 211 = (some .int) := rfl
theorem rq_212 : rows 212 = rw_212 := rfl
theorem rt_212 : rett 212 = (some .int) := rfl
theorem rq_213 : rows 213 = rw_213 := rfl
theorem rt_213 : rett 213 = (some .int) := rfl
theorem rq_214 : rows 214 = rw_214 := rfl
theorem rt_214 : rett 214 = (some .int) := rfl
theorem rq_215 : rows 215 = rw_215 := rfl
theorem rt_215 : rett 215 = none := rfl
theorem rq_216 : rows 216 = rw_216 := rfl
theorem rt_216 : rett 216 = (some .int) := rfl
theorem rq_217 : rows 217 = rw_217 := rfl
theorem rt_217 : rett 217 = (some .int) := rfl
theorem rq_218 : rows 218 = rw_218 := rfl
theorem rt_218 : rett 218 = (some .int) := rfl
theorem rq_219 : rows 219 = rw_219 := rfl
theorem rt_219 : rett 219 = (some .boolean) := rfl
theorem rq_220 : rows 220 = rw_220 := rfl
theorem rt_220 : rett 220 = (some .int) := rfl
theorem rq_221 : rows 221 = rw_221 := rfl
theorem rt_221 : rett 221 = (some .int) := rfl
theorem rq_222 : rows 222 = rw_222 := rfl
theorem rt_222 : rett 222 = (some .int) := rfl
theorem rq_223 : rows 223 = rw_223 := rfl
theorem rt_223 : rett 223 = (some .boolean) := rfl
theorem rq_224 : rows 224 = rw_224 := rfl
theorem rt_224 : rett 224 = (some .int) := rfl
theorem rq_225 : rows 225 = rw_225 := rfl
theorem rt_225 : rett 225 = (some .int) := rfl
theorem rq_226 : rows 226 = rw_226 := rfl
theorem rt_226 : rett 226 = (some .int) := rfl
theorem rq_227 : rows 227 = rw_227 := rfl
theorem rt_227 : rett 227 = (some .int) := rfl
theorem rq_228 : rows 228 = rw_228 := rfl
theorem rt_228 : rett 228 = (some .int) := rfl
theorem rq_229 : rows 229 = rw_229 := rfl
theorem rt_229 : rett 229 = (some .boolean) := rfl
theorem rq_230 : rows 230 = rw_230 := rfl
theorem rt_230 : rett 230 = (some .int) := rfl
theorem rq_231 : rows 231 = rw_231 := rfl
theorem rt_231 : rett 231 = (some .int) := rfl
theorem rq_232 : rows 232 = rw_232 := rfl
theorem rt_232 : rett 232 = (some .int) := rfl
theorem rq_233 : rows 233 = rw_233 := rfl
theorem rt_233 : rett 233 = (some .int) := rfl
theorem rq_234 : rows 234 = rw_234 := rfl
theorem rt_234 : rett 234 = (some .int) := rfl
theorem rq_235 : rows 235 = rw_235 := rfl
theorem rt_235 : rett 235 = none := rfl
theorem rq_236 : rows 236 = rw_236 := rfl
theorem rt_236 : rett 236 = (some .int) := rfl
theorem rq_237 : rows 237 = rw_237 := rfl
theorem rt_237 : rett 237 = (some .boolean) := rfl
theorem rq_238 : rows 238 = rw_238 := rfl
theorem rt_238 : rett 238 = (some .boolean) := rfl
theorem rq_239 : rows 239 = rw_239 := rfl
theorem rt_239 : rett 239 = (some .boolean) := rfl
theorem rq_240 : rows 240 = rw_240 := rfl
theorem rt_240 : rett 240 = (some .boolean) := rfl
theorem rq_241 : rows 241 = rw_241 := rfl
theorem rt_241 : rett 241 = (some .int) := rfl
theorem rq_242 : rows 242 = rw_242 := rfl
theorem rt_242 : rett 242 = (some .int) := rfl
theorem rq_243 : rows 243 = rw_243 := rfl
theorem rt_243 : rett 243 = (some .int) := rfl
theorem rq_244 : rows 244 = rw_244 := rfl
theorem rt_244 : rett 244 = (some .int) := rfl
theorem rq_245 : rows 245 = rw_245 := rfl
theorem rt_245 : rett 245 = (some .int) := rfl
theorem rq_246 : rows 246 = rw_246 := rfl
theorem rt_246 : rett 246 = (some .int) := rfl
theorem rq_247 : rows 247 = rw_247 := rfl
theorem rt_247 : rett 247 = (some .int) := rfl
theorem rq_248 : rows 248 = rw_248 := rfl
theorem rt_248 : rett 248 = (some .int) := rfl
theorem rq_249 : rows 249 = rw_249 := rfl
theorem rt_249 : rett 249 = (some .int) := rfl
theorem rq_250 : rows 250 = rw_250 := rfl
theorem rt_250 : rett 250 = (some .int) := rfl
theorem rq_251 : rows 251 = rw_251 := rfl
theorem rt_251 : rett 251 = (some .int) := rfl
theorem rq_252 : rows 252 = rw_252 := rfl
theorem rt_252 : rett 252 = (some .int) := rfl
theorem rq_253 : rows 253 = rw_253 := rfl
theorem rt_253 : rett 253 = (some .int) := rfl
theorem rq_254 : rows 254 = rw_254 := rfl
theorem rt_254 : rett 254 = (some .int) := rfl
theorem rq_255 : rows 255 = rw_255 := rfl
theorem rt_255 : rett 255 = (some .int) := rfl
theorem rq_256 : rows 256 = rw_256 := rfl
theorem rt_256 : rett 256 = (some .int) := rfl
theorem rq_257 : rows 257 = rw_257 := rfl
theorem rt_257 : rett 257 = (some .int) := rfl
theorem rq_258 : rows 258 = rw_258 := rfl
theorem rt_258 : rett 258 = (some .int) := rfl
theorem rq_259 : rows 259 = rw_259 := rfl
theorem rt_259 : rett 259 = (some .int) := rfl
theorem rq_260 : rows 260 = rw_260 := rfl
theorem rt_260 : rett 260 = (some .int) := rfl
theorem rq_261 : rows 261 = rw_261 := rfl
theorem rt_261 : rett 261 = (some .int) := rfl
theorem rq_262 : rows 262 = rw_262 := rfl
theorem rt_262 : rett 262 = (some .int) := rfl
theorem rq_263 : rows 263 = rw_263 := rfl
theorem rt_263 : rett 263 = (some .int) := rfl
theorem rq_264 : rows 264 = rw_264 := rfl
theorem rt_264 : rett 264 = (some .int) := rfl
theorem rq_265 : rows 265 = rw_265 := rfl
theorem rt_265 : rett 265 = (some .int) := rfl
theorem rq_266 : rows 266 = rw_266 := rfl
theorem rt_266 : rett 266 = (some .int) := rfl
theorem rq_267 : rows 267 = rw_267 := rfl
theorem rt_267 : rett 267 = (some .int) := rfl
theorem rq_268 : rows 268 = rw_268 := rfl
theorem rt_268 : rett 268 = (some .int) := rfl
theorem rq_269 : rows 269 = rw_269 := rfl
theorem rt_269 : rett 269 = (some .int) := rfl
theorem rq_270 : rows 270 = rw_270 := rfl
theorem rt_270 : rett 270 = (some .int) := rfl
theorem rq_271 : rows 271 = rw_271 := rfl
theorem rt_271 : rett 271 = (some .int) := rfl
theorem rq_272 : rows 272 = rw_272 := rfl
theorem rt_272 : rett 272 = (some .int) := rfl
theorem rq_273 : rows 273 = rw_273 := rfl
theorem rt_273 : rett 273 = (some .int) := rfl
theorem rq_274 : rows 274 = rw_274 := rfl
theorem rt_274 : rett 274 = (some .int) := rfl
theorem rq_275 : rows 275 = rw_275 := rfl
theorem rt_275 : rett 275 = (some .int) := rfl
theorem rq_276 : rows 276 = rw_276 := rfl
theorem rt_276 : rett 276 = (some .int) := rfl
theorem rq_277 : rows 277 = rw_277 := rfl
theorem rt_277 : rett 277 = (some .int) := rfl
theorem rq_278 : rows 278 = rw_278 := rfl
theorem rt_278 : rett 278 = (some .boolean) := rfl
