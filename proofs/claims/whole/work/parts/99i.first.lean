/-! ===== the first state ===== -/
def LP0 : List va_E := [.inr (0, [])]
def LP1 : List va_E := LP0 ++ .inr (10, FX10_init 1) :: RX10_init 1
def LP2 : List va_E := LP1 ++ .inr (11, FX11 187) :: QX11 187
/-- the rows of a heap -/
def rwI (h : ai_H) (a j : Nat) : Int32 := match h a with
  | .inl (_, _, .inl f) => f j
  | .inr (_, fs) => (match fs[j]? with
    | some (.int x) => x
    | _ => 0)
  | _ => 0
def rwJ (h : ai_H) (a j : Nat) : Int64 := match h a with
  | .inl (_, _, .inr (.inl f)) => f j
  | .inr (_, fs) => (match fs[j]? with
    | some (.long x) => x
    | _ => 0)
  | _ => 0
def rwR (h : ai_H) (a j : Nat) : Nat := match h a with
  | .inl (_, _, .inr (.inr (.inr (.inr f)))) => (f j).getD 0
  | .inr (_, fs) => (match fs[j]? with
    | some (.ref x) => x
    | _ => 0)
  | _ => 0
def s00 : zS := (rwI (hL LP2), rwJ (hL LP2), rwR (hL LP2))
set_option maxRecDepth 20000 in
theorem f0_0 : hL LP2 0 = mk s00 0 := rfl
set_option maxRecDepth 20000 in
theorem f0_1 : hL LP2 1 = mk s00 1 := rfl
set_option maxRecDepth 20000 in
theorem f0_2 : hL LP2 2 = mk s00 2 := rfl
set_option maxRecDepth 20000 in
theorem f0_3 : hL LP2 3 = mk s00 3 := rfl
set_option maxRecDepth 20000 in
theorem f0_4 : hL LP2 4 = mk s00 4 := rfl
set_option maxRecDepth 20000 in
theorem f0_5 : hL LP2 5 = mk s00 5 := rfl
set_option maxRecDepth 20000 in
theorem f0_6 : hL LP2 6 = mk s00 6 := rfl
set_option maxRecDepth 20000 in
theorem f0_7 : hL LP2 7 = mk s00 7 := rfl
set_option maxRecDepth 20000 in
theorem f0_8 : hL LP2 8 = mk s00 8 := rfl
set_option maxRecDepth 20000 in
theorem f0_9 : hL LP2 9 = mk s00 9 := rfl
set_option maxRecDepth 20000 in
theorem f0_10 : hL LP2 10 = mk s00 10 := rfl
set_option maxRecDepth 20000 in
theorem f0_11 : hL LP2 11 = mk s00 11 := rfl
set_option maxRecDepth 20000 in
theorem f0_12 : hL LP2 12 = mk s00 12 := rfl
set_option maxRecDepth 20000 in
theorem f0_13 : hL LP2 13 = mk s00 13 := rfl
set_option maxRecDepth 20000 in
theorem f0_14 : hL LP2 14 = mk s00 14 := rfl
set_option maxRecDepth 20000 in
theorem f0_15 : hL LP2 15 = mk s00 15 := rfl
set_option maxRecDepth 20000 in
theorem f0_16 : hL LP2 16 = mk s00 16 := rfl
set_option maxRecDepth 20000 in
theorem f0_17 : hL LP2 17 = mk s00 17 := rfl
set_option maxRecDepth 20000 in
theorem f0_18 : hL LP2 18 = mk s00 18 := rfl
set_option maxRecDepth 20000 in
theorem f0_19 : hL LP2 19 = mk s00 19 := rfl
set_option maxRecDepth 20000 in
theorem f0_20 : hL LP2 20 = mk s00 20 := rfl
set_option maxRecDepth 20000 in
theorem f0_21 : hL LP2 21 = mk s00 21 := rfl
set_option maxRecDepth 20000 in
theorem f0_22 : hL LP2 22 = mk s00 22 := rfl
set_option maxRecDepth 20000 in
theorem f0_23 : hL LP2 23 = mk s00 23 := rfl
set_option maxRecDepth 20000 in
theorem f0_24 : hL LP2 24 = mk s00 24 := rfl
set_option maxRecDepth 20000 in
theorem f0_25 : hL LP2 25 = mk s00 25 := rfl
set_option maxRecDepth 20000 in
theorem f0_26 : hL LP2 26 = mk s00 26 := rfl
set_option maxRecDepth 20000 in
theorem f0_27 : hL LP2 27 = mk s00 27 := rfl
set_option maxRecDepth 20000 in
theorem f0_28 : hL LP2 28 = mk s00 28 := rfl
set_option maxRecDepth 20000 in
theorem f0_29 : hL LP2 29 = mk s00 29 := rfl
set_option maxRecDepth 20000 in
theorem f0_30 : hL LP2 30 = mk s00 30 := rfl
set_option maxRecDepth 20000 in
theorem f0_31 : hL LP2 31 = mk s00 31 := rfl
set_option maxRecDepth 20000 in
theorem f0_32 : hL LP2 32 = mk s00 32 := rfl
set_option maxRecDepth 20000 in
theorem f0_33 : hL LP2 33 = mk s00 33 := rfl
set_option maxRecDepth 20000 in
theorem f0_34 : hL LP2 34 = mk s00 34 := rfl
set_option maxRecDepth 20000 in
theorem f0_35 : hL LP2 35 = mk s00 35 := rfl
set_option maxRecDepth 20000 in
theorem f0_36 : hL LP2 36 = mk s00 36 := rfl
set_option maxRecDepth 20000 in
theorem f0_37 : hL LP2 37 = mk s00 37 := rfl
set_option maxRecDepth 20000 in
theorem f0_38 : hL LP2 38 = mk s00 38 := rfl
set_option maxRecDepth 20000 in
theorem f0_39 : hL LP2 39 = mk s00 39 := rfl
set_option maxRecDepth 20000 in
theorem f0_40 : hL LP2 40 = mk s00 40 := rfl
set_option maxRecDepth 20000 in
theorem f0_41 : hL LP2 41 = mk s00 41 := rfl
set_option maxRecDepth 20000 in
theorem f0_42 : hL LP2 42 = mk s00 42 := rfl
set_option maxRecDepth 20000 in
theorem f0_43 : hL LP2 43 = mk s00 43 := rfl
set_option maxRecDepth 20000 in
theorem f0_44 : hL LP2 44 = mk s00 44 := rfl
set_option maxRecDepth 20000 in
theorem f0_45 : hL LP2 45 = mk s00 45 := rfl
set_option maxRecDepth 20000 in
theorem f0_46 : hL LP2 46 = mk s00 46 := rfl
set_option maxRecDepth 20000 in
theorem f0_47 : hL LP2 47 = mk s00 47 := rfl
set_option maxRecDepth 20000 in
theorem f0_48 : hL LP2 48 = mk s00 48 := rfl
set_option maxRecDepth 20000 in
theorem f0_49 : hL LP2 49 = mk s00 49 := rfl
set_option maxRecDepth 20000 in
theorem f0_50 : hL LP2 50 = mk s00 50 := rfl
set_option maxRecDepth 20000 in
theorem f0_51 : hL LP2 51 = mk s00 51 := rfl
set_option maxRecDepth 20000 in
theorem f0_52 : hL LP2 52 = mk s00 52 := rfl
set_option maxRecDepth 20000 in
theorem f0_53 : hL LP2 53 = mk s00 53 := rfl
set_option maxRecDepth 20000 in
theorem f0_54 : hL LP2 54 = mk s00 54 := rfl
set_option maxRecDepth 20000 in
theorem f0_55 : hL LP2 55 = mk s00 55 := rfl
set_option maxRecDepth 20000 in
theorem f0_56 : hL LP2 56 = mk s00 56 := rfl
set_option maxRecDepth 20000 in
theorem f0_57 : hL LP2 57 = mk s00 57 := rfl
set_option maxRecDepth 20000 in
theorem f0_58 : hL LP2 58 = mk s00 58 := rfl
set_option maxRecDepth 20000 in
theorem f0_59 : hL LP2 59 = mk s00 59 := rfl
set_option maxRecDepth 20000 in
theorem f0_60 : hL LP2 60 = mk s00 60 := rfl
set_option maxRecDepth 20000 in
theorem f0_61 : hL LP2 61 = mk s00 61 := rfl
set_option maxRecDepth 20000 in
theorem f0_62 : hL LP2 62 = mk s00 62 := rfl
set_option maxRecDepth 20000 in
theorem f0_63 : hL LP2 63 = mk s00 63 := rfl
set_option maxRecDepth 20000 in
theorem f0_64 : hL LP2 64 = mk s00 64 := rfl
set_option maxRecDepth 20000 in
theorem f0_65 : hL LP2 65 = mk s00 65 := rfl
set_option maxRecDepth 20000 in
theorem f0_66 : hL LP2 66 = mk s00 66 := rfl
set_option maxRecDepth 20000 in
theorem f0_68 : hL LP2 68 = mk s00 68 := rfl
set_option maxRecDepth 20000 in
theorem f0_69 : hL LP2 69 = mk s00 69 := rfl
set_option maxRecDepth 20000 in
theorem f0_70 : hL LP2 70 = mk s00 70 := rfl
set_option maxRecDepth 20000 in
theorem f0_71 : hL LP2 71 = mk s00 71 := rfl
set_option maxRecDepth 20000 in
theorem f0_72 : hL LP2 72 = mk s00 72 := rfl
set_option maxRecDepth 20000 in
theorem f0_73 : hL LP2 73 = mk s00 73 := rfl
set_option maxRecDepth 20000 in
theorem f0_74 : hL LP2 74 = mk s00 74 := rfl
set_option maxRecDepth 20000 in
theorem f0_75 : hL LP2 75 = mk s00 75 := rfl
set_option maxRecDepth 20000 in
theorem f0_76 : hL LP2 76 = mk s00 76 := rfl
set_option maxRecDepth 20000 in
theorem f0_77 : hL LP2 77 = mk s00 77 := rfl
set_option maxRecDepth 20000 in
theorem f0_78 : hL LP2 78 = mk s00 78 := rfl
set_option maxRecDepth 20000 in
theorem f0_79 : hL LP2 79 = mk s00 79 := rfl
set_option maxRecDepth 20000 in
theorem f0_80 : hL LP2 80 = mk s00 80 := rfl
set_option maxRecDepth 20000 in
theorem f0_81 : hL LP2 81 = mk s00 81 := rfl
set_option maxRecDepth 20000 in
theorem f0_82 : hL LP2 82 = mk s00 82 := rfl
set_option maxRecDepth 20000 in
theorem f0_83 : hL LP2 83 = mk s00 83 := rfl
set_option maxRecDepth 20000 in
theorem f0_84 : hL LP2 84 = mk s00 84 := rfl
set_option maxRecDepth 20000 in
theorem f0_85 : hL LP2 85 = mk s00 85 := rfl
set_option maxRecDepth 20000 in
theorem f0_86 : hL LP2 86 = mk s00 86 := rfl
set_option maxRecDepth 20000 in
theorem f0_87 : hL LP2 87 = mk s00 87 := rfl
set_option maxRecDepth 20000 in
theorem f0_88 : hL LP2 88 = mk s00 88 := rfl
set_option maxRecDepth 20000 in
theorem f0_89 : hL LP2 89 = mk s00 89 := rfl
set_option maxRecDepth 20000 in
theorem f0_90 : hL LP2 90 = mk s00 90 := rfl
set_option maxRecDepth 20000 in
theorem f0_91 : hL LP2 91 = mk s00 91 := rfl
set_option maxRecDepth 20000 in
theorem f0_92 : hL LP2 92 = mk s00 92 := rfl
set_option maxRecDepth 20000 in
theorem f0_93 : hL LP2 93 = mk s00 93 := rfl
set_option maxRecDepth 20000 in
theorem f0_94 : hL LP2 94 = mk s00 94 := rfl
set_option maxRecDepth 20000 in
theorem f0_95 : hL LP2 95 = mk s00 95 := rfl
set_option maxRecDepth 20000 in
theorem f0_96 : hL LP2 96 = mk s00 96 := rfl
set_option maxRecDepth 20000 in
theorem f0_97 : hL LP2 97 = mk s00 97 := rfl
set_option maxRecDepth 20000 in
theorem f0_98 : hL LP2 98 = mk s00 98 := rfl
set_option maxRecDepth 20000 in
theorem f0_99 : hL LP2 99 = mk s00 99 := rfl
set_option maxRecDepth 20000 in
theorem f0_100 : hL LP2 100 = mk s00 100 := rfl
set_option maxRecDepth 20000 in
theorem f0_101 : hL LP2 101 = mk s00 101 := rfl
set_option maxRecDepth 20000 in
theorem f0_102 : hL LP2 102 = mk s00 102 := rfl
set_option maxRecDepth 20000 in
theorem f0_103 : hL LP2 103 = mk s00 103 := rfl
set_option maxRecDepth 20000 in
theorem f0_104 : hL LP2 104 = mk s00 104 := rfl
set_option maxRecDepth 20000 in
theorem f0_105 : hL LP2 105 = mk s00 105 := rfl
set_option maxRecDepth 20000 in
theorem f0_106 : hL LP2 106 = mk s00 106 := rfl
set_option maxRecDepth 20000 in
theorem f0_107 : hL LP2 107 = mk s00 107 := rfl
set_option maxRecDepth 20000 in
theorem f0_108 : hL LP2 108 = mk s00 108 := rfl
set_option maxRecDepth 20000 in
theorem f0_109 : hL LP2 109 = mk s00 109 := rfl
set_option maxRecDepth 20000 in
theorem f0_110 : hL LP2 110 = mk s00 110 := rfl
set_option maxRecDepth 20000 in
theorem f0_111 : hL LP2 111 = mk s00 111 := rfl
set_option maxRecDepth 20000 in
theorem f0_112 : hL LP2 112 = mk s00 112 := rfl
set_option maxRecDepth 20000 in
theorem f0_113 : hL LP2 113 = mk s00 113 := rfl
set_option maxRecDepth 20000 in
theorem f0_114 : hL LP2 114 = mk s00 114 := rfl
set_option maxRecDepth 20000 in
theorem f0_115 : hL LP2 115 = mk s00 115 := rfl
set_option maxRecDepth 20000 in
theorem f0_116 : hL LP2 116 = mk s00 116 := rfl
set_option maxRecDepth 20000 in
theorem f0_117 : hL LP2 117 = mk s00 117 := rfl
set_option maxRecDepth 20000 in
theorem f0_118 : hL LP2 118 = mk s00 118 := rfl
set_option maxRecDepth 20000 in
theorem f0_119 : hL LP2 119 = mk s00 119 := rfl
set_option maxRecDepth 20000 in
theorem f0_120 : hL LP2 120 = mk s00 120 := rfl
set_option maxRecDepth 20000 in
theorem f0_121 : hL LP2 121 = mk s00 121 := rfl
set_option maxRecDepth 20000 in
theorem f0_122 : hL LP2 122 = mk s00 122 := rfl
set_option maxRecDepth 20000 in
theorem f0_123 : hL LP2 123 = mk s00 123 := rfl
set_option maxRecDepth 20000 in
theorem f0_124 : hL LP2 124 = mk s00 124 := rfl
set_option maxRecDepth 20000 in
theorem f0_125 : hL LP2 125 = mk s00 125 := rfl
set_option maxRecDepth 20000 in
theorem f0_126 : hL LP2 126 = mk s00 126 := rfl
set_option maxRecDepth 20000 in
theorem f0_127 : hL LP2 127 = mk s00 127 := rfl
set_option maxRecDepth 20000 in
theorem f0_128 : hL LP2 128 = mk s00 128 := rfl
set_option maxRecDepth 20000 in
theorem f0_129 : hL LP2 129 = mk s00 129 := rfl
set_option maxRecDepth 20000 in
theorem f0_130 : hL LP2 130 = mk s00 130 := rfl
set_option maxRecDepth 20000 in
theorem f0_131 : hL LP2 131 = mk s00 131 := rfl
set_option maxRecDepth 20000 in
theorem f0_132 : hL LP2 132 = mk s00 132 := rfl
set_option maxRecDepth 20000 in
theorem f0_133 : hL LP2 133 = mk s00 133 := rfl
set_option maxRecDepth 20000 in
theorem f0_134 : hL LP2 134 = mk s00 134 := rfl
set_option maxRecDepth 20000 in
theorem f0_135 : hL LP2 135 = mk s00 135 := rfl
set_option maxRecDepth 20000 in
theorem f0_136 : hL LP2 136 = mk s00 136 := rfl
set_option maxRecDepth 20000 in
theorem f0_137 : hL LP2 137 = mk s00 137 := rfl
set_option maxRecDepth 20000 in
theorem f0_138 : hL LP2 138 = mk s00 138 := rfl
set_option maxRecDepth 20000 in
theorem f0_139 : hL LP2 139 = mk s00 139 := rfl
set_option maxRecDepth 20000 in
theorem f0_140 : hL LP2 140 = mk s00 140 := rfl
set_option maxRecDepth 20000 in
theorem f0_141 : hL LP2 141 = mk s00 141 := rfl
set_option maxRecDepth 20000 in
theorem f0_142 : hL LP2 142 = mk s00 142 := rfl
set_option maxRecDepth 20000 in
theorem f0_143 : hL LP2 143 = mk s00 143 := rfl
set_option maxRecDepth 20000 in
theorem f0_144 : hL LP2 144 = mk s00 144 := rfl
set_option maxRecDepth 20000 in
theorem f0_145 : hL LP2 145 = mk s00 145 := rfl
set_option maxRecDepth 20000 in
theorem f0_146 : hL LP2 146 = mk s00 146 := rfl
set_option maxRecDepth 20000 in
theorem f0_147 : hL LP2 147 = mk s00 147 := rfl
set_option maxRecDepth 20000 in
theorem f0_148 : hL LP2 148 = mk s00 148 := rfl
set_option maxRecDepth 20000 in
theorem f0_149 : hL LP2 149 = mk s00 149 := rfl
set_option maxRecDepth 20000 in
theorem f0_150 : hL LP2 150 = mk s00 150 := rfl
set_option maxRecDepth 20000 in
theorem f0_151 : hL LP2 151 = mk s00 151 := rfl
set_option maxRecDepth 20000 in
theorem f0_152 : hL LP2 152 = mk s00 152 := rfl
set_option maxRecDepth 20000 in
theorem f0_153 : hL LP2 153 = mk s00 153 := rfl
set_option maxRecDepth 20000 in
theorem f0_154 : hL LP2 154 = mk s00 154 := rfl
set_option maxRecDepth 20000 in
theorem f0_155 : hL LP2 155 = mk s00 155 := rfl
set_option maxRecDepth 20000 in
theorem f0_156 : hL LP2 156 = mk s00 156 := rfl
set_option maxRecDepth 20000 in
theorem f0_157 : hL LP2 157 = mk s00 157 := rfl
set_option maxRecDepth 20000 in
theorem f0_158 : hL LP2 158 = mk s00 158 := rfl
set_option maxRecDepth 20000 in
theorem f0_159 : hL LP2 159 = mk s00 159 := rfl
set_option maxRecDepth 20000 in
theorem f0_160 : hL LP2 160 = mk s00 160 := rfl
set_option maxRecDepth 20000 in
theorem f0_161 : hL LP2 161 = mk s00 161 := rfl
set_option maxRecDepth 20000 in
theorem f0_162 : hL LP2 162 = mk s00 162 := rfl
set_option maxRecDepth 20000 in
theorem f0_163 : hL LP2 163 = mk s00 163 := rfl
set_option maxRecDepth 20000 in
theorem f0_164 : hL LP2 164 = mk s00 164 := rfl
set_option maxRecDepth 20000 in
theorem f0_165 : hL LP2 165 = mk s00 165 := rfl
set_option maxRecDepth 20000 in
theorem f0_166 : hL LP2 166 = mk s00 166 := rfl
set_option maxRecDepth 20000 in
theorem f0_167 : hL LP2 167 = mk s00 167 := rfl
set_option maxRecDepth 20000 in
theorem f0_168 : hL LP2 168 = mk s00 168 := rfl
set_option maxRecDepth 20000 in
theorem f0_169 : hL LP2 169 = mk s00 169 := rfl
set_option maxRecDepth 20000 in
theorem f0_170 : hL LP2 170 = mk s00 170 := rfl
set_option maxRecDepth 20000 in
theorem f0_171 : hL LP2 171 = mk s00 171 := rfl
set_option maxRecDepth 20000 in
theorem f0_172 : hL LP2 172 = mk s00 172 := rfl
set_option maxRecDepth 20000 in
theorem f0_173 : hL LP2 173 = mk s00 173 := rfl
set_option maxRecDepth 20000 in
theorem f0_174 : hL LP2 174 = mk s00 174 := rfl
set_option maxRecDepth 20000 in
theorem f0_175 : hL LP2 175 = mk s00 175 := rfl
set_option maxRecDepth 20000 in
theorem f0_176 : hL LP2 176 = mk s00 176 := rfl
set_option maxRecDepth 20000 in
theorem f0_177 : hL LP2 177 = mk s00 177 := rfl
set_option maxRecDepth 20000 in
theorem f0_178 : hL LP2 178 = mk s00 178 := rfl
set_option maxRecDepth 20000 in
theorem f0_179 : hL LP2 179 = mk s00 179 := rfl
set_option maxRecDepth 20000 in
theorem f0_180 : hL LP2 180 = mk s00 180 := rfl
set_option maxRecDepth 20000 in
theorem f0_181 : hL LP2 181 = mk s00 181 := rfl
set_option maxRecDepth 20000 in
theorem f0_182 : hL LP2 182 = mk s00 182 := rfl
set_option maxRecDepth 20000 in
theorem f0_183 : hL LP2 183 = mk s00 183 := rfl
set_option maxRecDepth 20000 in
theorem f0_184 : hL LP2 184 = mk s00 184 := rfl
set_option maxRecDepth 20000 in
theorem f0_185 : hL LP2 185 = mk s00 185 := rfl
set_option maxRecDepth 20000 in
theorem f0_186 : hL LP2 186 = mk s00 186 := rfl
set_option maxRecDepth 20000 in
theorem f0_187 : hL LP2 187 = mk s00 187 := rfl
set_option maxRecDepth 20000 in
theorem f0_188 : hL LP2 188 = mk s00 188 := rfl
set_option maxRecDepth 20000 in
theorem f0_189 : hL LP2 189 = mk s00 189 := rfl
set_option maxRecDepth 20000 in
theorem f0_190 : hL LP2 190 = mk s00 190 := rfl
set_option maxRecDepth 20000 in
theorem f0_191 : hL LP2 191 = mk s00 191 := rfl
set_option maxRecDepth 20000 in
theorem f0_192 : hL LP2 192 = mk s00 192 := rfl
set_option maxRecDepth 20000 in
theorem f0_193 : hL LP2 193 = mk s00 193 := rfl
set_option maxRecDepth 20000 in
theorem f0_194 : hL LP2 194 = mk s00 194 := rfl
set_option maxRecDepth 20000 in
theorem f0_195 : hL LP2 195 = mk s00 195 := rfl
set_option maxRecDepth 20000 in
theorem f0_196 : hL LP2 196 = mk s00 196 := rfl
set_option maxRecDepth 20000 in
theorem f0_197 : hL LP2 197 = mk s00 197 := rfl
set_option maxRecDepth 20000 in
theorem f0_198 : hL LP2 198 = mk s00 198 := rfl
set_option maxRecDepth 20000 in
theorem f0_199 : hL LP2 199 = mk s00 199 := rfl
set_option maxRecDepth 20000 in
theorem f0_200 : hL LP2 200 = mk s00 200 := rfl
set_option maxRecDepth 20000 in
theorem f0_201 : hL LP2 201 = mk s00 201 := rfl
set_option maxRecDepth 20000 in
theorem f0_202 : hL LP2 202 = mk s00 202 := rfl
set_option maxRecDepth 20000 in
theorem f0_203 : hL LP2 203 = mk s00 203 := rfl
set_option maxRecDepth 20000 in
theorem f0_204 : hL LP2 204 = mk s00 204 := rfl
set_option maxRecDepth 20000 in
theorem f0_205 : hL LP2 205 = mk s00 205 := rfl
set_option maxRecDepth 20000 in
theorem f0_206 : hL LP2 206 = mk s00 206 := rfl
set_option maxRecDepth 20000 in
theorem f0_207 : hL LP2 207 = mk s00 207 := rfl
set_option maxRecDepth 20000 in
theorem f0_208 : hL LP2 208 = mk s00 208 := rfl
set_option maxRecDepth 20000 in
theorem f0_209 : hL LP2 209 = mk s00 209 := rfl
set_option maxRecDepth 20000 in
theorem f0_210 : hL LP2 210 = mk s00 210 := rfl
set_option maxRecDepth 20000 in
theorem f0_211 : hL LP2 211 = mk s00 211 := rfl
set_option maxRecDepth 20000 in
theorem f0_212 : hL LP2 212 = mk s00 212 := rfl
set_option maxRecDepth 20000 in
theorem f0_213 : hL LP2 213 = mk s00 213 := rfl
set_option maxRecDepth 20000 in
theorem f0_214 : hL LP2 214 = mk s00 214 := rfl
set_option maxRecDepth 20000 in
theorem f0_215 : hL LP2 215 = mk s00 215 := rfl
set_option maxRecDepth 20000 in
theorem f0_216 : hL LP2 216 = mk s00 216 := rfl
set_option maxRecDepth 20000 in
theorem f0_217 : hL LP2 217 = mk s00 217 := rfl
set_option maxRecDepth 20000 in
theorem f0_218 : hL LP2 218 = mk s00 218 := rfl
set_option maxRecDepth 20000 in
theorem f0_219 : hL LP2 219 = mk s00 219 := rfl
set_option maxRecDepth 20000 in
theorem f0_220 : hL LP2 220 = mk s00 220 := rfl
set_option maxRecDepth 20000 in
theorem f0_221 : hL LP2 221 = mk s00 221 := rfl
set_option maxRecDepth 20000 in
theorem f0_222 : hL LP2 222 = mk s00 222 := rfl
set_option maxRecDepth 20000 in
theorem f0_223 : hL LP2 223 = mk s00 223 := rfl
set_option maxRecDepth 20000 in
theorem f0_224 : hL LP2 224 = mk s00 224 := rfl
set_option maxRecDepth 20000 in
theorem f0_225 : hL LP2 225 = mk s00 225 := rfl
set_option maxRecDepth 20000 in
theorem f0_226 : hL LP2 226 = mk s00 226 := rfl
set_option maxRecDepth 20000 in
theorem f0_227 : hL LP2 227 = mk s00 227 := rfl
set_option maxRecDepth 20000 in
theorem f0_228 : hL LP2 228 = mk s00 228 := rfl
set_option maxRecDepth 20000 in
theorem f0_229 : hL LP2 229 = mk s00 229 := rfl
set_option maxRecDepth 20000 in
theorem f0_230 : hL LP2 230 = mk s00 230 := rfl
set_option maxRecDepth 20000 in
theorem f0_231 : hL LP2 231 = mk s00 231 := rfl
set_option maxRecDepth 20000 in
theorem f0_232 : hL LP2 232 = mk s00 232 := rfl
set_option maxRecDepth 20000 in
theorem f0_233 : hL LP2 233 = mk s00 233 := rfl
set_option maxRecDepth 20000 in
theorem f0_234 : hL LP2 234 = mk s00 234 := rfl
set_option maxRecDepth 20000 in
theorem f0_235 : hL LP2 235 = mk s00 235 := rfl
set_option maxRecDepth 20000 in
theorem f0_236 : hL LP2 236 = mk s00 236 := rfl
set_option maxRecDepth 20000 in
theorem f0_237 : hL LP2 237 = mk s00 237 := rfl
theorem f0_67 : hL LP2 67 = mk s00 67 := by
  have e1 : hL LP2 67 = aq 87 20 := rfl
  have e2 : mk s00 67 = .inl (4, 20, .inr (.inr (.inr (.inr (fun j => if j < 20 then some (((fq 87 20) j).getD 0) else none))))) := rfl
  have fe : (fun j => if j < 20 then some (((fq 87 20) j).getD 0) else none) = fq 87 20 := by
    funext j
    unfold fq
    by_cases l : j < 20
    · rw [if_pos l, if_pos l]
      rfl
    · rw [if_neg l, if_neg l]
  rw [e1, e2, fe]
  rfl
theorem ex_0 {P : Nat → Prop} : ∀ a, a < 0 → P a := fun a h => absurd h (Nat.not_lt_zero a)
theorem ex_st {P : Nat → Prop} {k : Nat} (h : ∀ a, a < k → P a) (e : P k) : ∀ a, a < k + 1 → P a := fun a g => by
  by_cases l : a < k
  · exact h a l
  · rw [show a = k by omega]; exact e
theorem fl_20 : ∀ a, a < 20 → hL LP2 a = mk s00 a := (ex_st (ex_st (ex_st (ex_st (ex_st (ex_st (ex_st (ex_st (ex_st (ex_st (ex_st (ex_st (ex_st (ex_st (ex_st (ex_st (ex_st (ex_st (ex_st (ex_st (ex_0 (P := fun a => hL LP2 a = mk s00 a)) f0_0) f0_1) f0_2) f0_3) f0_4) f0_5) f0_6) f0_7) f0_8) f0_9) f0_10) f0_11) f0_12) f0_13) f0_14) f0_15) f0_16) f0_17) f0_18) f0_19)
theorem fl_40 : ∀ a, a < 40 → hL LP2 a = mk s00 a := (ex_st (ex_st (ex_st (ex_st (ex_st (ex_st (ex_st (ex_st (ex_st (ex_st (ex_st (ex_st (ex_st (ex_st (ex_st (ex_st (ex_st (ex_st (ex_st (ex_st fl_20 f0_20) f0_21) f0_22) f0_23) f0_24) f0_25) f0_26) f0_27) f0_28) f0_29) f0_30) f0_31) f0_32) f0_33) f0_34) f0_35) f0_36) f0_37) f0_38) f0_39)
theorem fl_60 : ∀ a, a < 60 → hL LP2 a = mk s00 a := (ex_st (ex_st (ex_st (ex_st (ex_st (ex_st (ex_st (ex_st (ex_st (ex_st (ex_st (ex_st (ex_st (ex_st (ex_st (ex_st (ex_st (ex_st (ex_st (ex_st fl_40 f0_40) f0_41) f0_42) f0_43) f0_44) f0_45) f0_46) f0_47) f0_48) f0_49) f0_50) f0_51) f0_52) f0_53) f0_54) f0_55) f0_56) f0_57) f0_58) f0_59)
theorem fl_80 : ∀ a, a < 80 → hL LP2 a = mk s00 a := (ex_st (ex_st (ex_st (ex_st (ex_st (ex_st (ex_st (ex_st (ex_st (ex_st (ex_st (ex_st (ex_st (ex_st (ex_st (ex_st (ex_st (ex_st (ex_st (ex_st fl_60 f0_60) f0_61) f0_62) f0_63) f0_64) f0_65) f0_66) f0_67) f0_68) f0_69) f0_70) f0_71) f0_72) f0_73) f0_74) f0_75) f0_76) f0_77) f0_78) f0_79)
theorem fl_100 : ∀ a, a < 100 → hL LP2 a = mk s00 a := (ex_st (ex_st (ex_st (ex_st (ex_st (ex_st (ex_st (ex_st (ex_st (ex_st (ex_st (ex_st (ex_st (ex_st (ex_st (ex_st (ex_st (ex_st (ex_st (ex_st fl_80 f0_80) f0_81) f0_82) f0_83) f0_84) f0_85) f0_86) f0_87) f0_88) f0_89) f0_90) f0_91) f0_92) f0_93) f0_94) f0_95) f0_96) f0_97) f0_98) f0_99)
theorem fl_120 : ∀ a, a < 120 → hL LP2 a = mk s00 a := (ex_st (ex_st (ex_st (ex_st (ex_st (ex_st (ex_st (ex_st (ex_st (ex_st (ex_st (ex_st (ex_st (ex_st (ex_st (ex_st (ex_st (ex_st (ex_st (ex_st fl_100 f0_100) f0_101) f0_102) f0_103) f0_104) f0_105) f0_106) f0_107) f0_108) f0_109) f0_110) f0_111) f0_112) f0_113) f0_114) f0_115) f0_116) f0_117) f0_118) f0_119)
theorem fl_140 : ∀ a, a < 140 → hL LP2 a = mk s00 a := (ex_st (ex_st (ex_st (ex_st (ex_st (ex_st (ex_st (ex_st (ex_st (ex_st (ex_st (ex_st (ex_st (ex_st (ex_st (ex_st (ex_st (ex_st (ex_st (ex_st fl_120 f0_120) f0_121) f0_122) f0_123) f0_124) f0_125) f0_126) f0_127) f0_128) f0_129) f0_130) f0_131) f0_132) f0_133) f0_134) f0_135) f0_136) f0_137) f0_138) f0_139)
theorem fl_160 : ∀ a, a < 160 → hL LP2 a = mk s00 a := (ex_st (ex_st (ex_st (ex_st (ex_st (ex_st (ex_st (ex_st (ex_st (ex_st (ex_st (ex_st (ex_st (ex_st (ex_st (ex_st (ex_st (ex_st (ex_st (ex_st fl_140 f0_140) f0_141) f0_142) f0_143) f0_144) f0_145) f0_146) f0_147) f0_148) f0_149) f0_150) f0_151) f0_152) f0_153) f0_154) f0_155) f0_156) f0_157) f0_158) f0_159)
theorem fl_180 : ∀ a, a < 180 → hL LP2 a = mk s00 a := (ex_st (ex_st (ex_st (ex_st (ex_st (ex_st (ex_st (ex_st (ex_st (ex_st (ex_st (ex_st (ex_st (ex_st (ex_st (ex_st (ex_st (ex_st (ex_st (ex_st fl_160 f0_160) f0_161) f0_162) f0_163) f0_164) f0_165) f0_166) f0_167) f0_168) f0_169) f0_170) f0_171) f0_172) f0_173) f0_174) f0_175) f0_176) f0_177) f0_178) f0_179)
theorem fl_200 : ∀ a, a < 200 → hL LP2 a = mk s00 a := (ex_st (ex_st (ex_st (ex_st (ex_st (ex_st (ex_st (ex_st (ex_st (ex_st (ex_st (ex_st (ex_st (ex_st (ex_st (ex_st (ex_st (ex_st (ex_st (ex_st fl_180 f0_180) f0_181) f0_182) f0_183) f0_184) f0_185) f0_186) f0_187) f0_188) f0_189) f0_190) f0_191) f0_192) f0_193) f0_194) f0_195) f0_196) f0_197) f0_198) f0_199)
theorem fl_220 : ∀ a, a < 220 → hL LP2 a = mk s00 a := (ex_st (ex_st (ex_st (ex_st (ex_st (ex_st (ex_st (ex_st (ex_st (ex_st (ex_st (ex_st (ex_st (ex_st (ex_st (ex_st (ex_st (ex_st (ex_st (ex_st fl_200 f0_200) f0_201) f0_202) f0_203) f0_204) f0_205) f0_206) f0_207) f0_208) f0_209) f0_210) f0_211) f0_212) f0_213) f0_214) f0_215) f0_216) f0_217) f0_218) f0_219)
theorem fl_238 : ∀ a, a < 238 → hL LP2 a = mk s00 a := (ex_st (ex_st (ex_st (ex_st (ex_st (ex_st (ex_st (ex_st (ex_st (ex_st (ex_st (ex_st (ex_st (ex_st (ex_st (ex_st (ex_st (ex_st fl_220 f0_220) f0_221) f0_222) f0_223) f0_224) f0_225) f0_226) f0_227) f0_228) f0_229) f0_230) f0_231) f0_232) f0_233) f0_234) f0_235) f0_236) f0_237)
theorem LP1_len : LP1.length = 187 := by
  unfold LP1
  rw [len_1, lenR]
  rfl
theorem LP2_len : LP2.length = 238 := by
  unfold LP2
  rw [len_1, LP1_len]
  rfl
theorem LP2_mk : hL LP2 = MP s00 := by
  funext a
  unfold MP va_up
  by_cases e : a = 238
  · rw [if_pos e]
    unfold hL
    rw [List.getD_eq_getElem?_getD, List.getElem?_eq_none (by rw [LP2_len]; omega)]
    rfl
  · rw [if_neg e]
    by_cases l : a < 238
    · exact fl_238 a l
    · have z : hL LP2 a = .inr (0, []) := by
        unfold hL
        rw [List.getD_eq_getElem?_getD, List.getElem?_eq_none (by rw [LP2_len]; omega)]
        rfl
      rw [z]
      unfold mk
      rw [lay_out (by omega)]
      split <;> rfl
