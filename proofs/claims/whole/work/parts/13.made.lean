/-! The made world: shapes; where the code stands; what fields and arrays are. -/
def rd_S0 : List rd_Sh := [
  .inr (11, [some (.ref 1), some (.ref 9), some (.ref 14), some (.ref 28), some (.ref 31), some (.ref 33), some (.ref 49), some (.ref 51), some (.ref 56)]),
  .inr (3, [none, some (.ref 2), some (.ref 3), some (.ref 4), some (.ref 5), some (.ref 6), some (.ref 7), some (.ref 8)]),
  .inl (12, false),
  .inl (12, false),
  .inl (12, true),
  .inl (96, false),
  .inl (96, false),
  .inl (96, false),
  .inl (96, false),
  .inr (8, [some (.ref 1), none, some (.ref 10), some (.ref 11), some (.ref 12), some (.ref 13)]),
  .inl (24, false),
  .inl (24, false),
  .inl (24, false),
  .inl (24, true),
  .inr (6, [some (.ref 15), some (.ref 1), some (.ref 9), some (.ref 22), some (.ref 23), some (.ref 24), some (.ref 25), some (.ref 26), some (.ref 27)]),
  .inr (5, [none, some (.ref 1), some (.ref 9), none, some (.ref 16), some (.ref 17), some (.ref 18), some (.ref 19), some (.ref 20), some (.ref 21)]),
  .inl (80, false),
  .inl (80, false),
  .inl (80, false),
  .inl (240, false),
  .inl (240, false),
  .inl (240, false),
  .inl (80, false),
  .inl (480, false),
  .inl (480, false),
  .inl (80, false),
  .inl (240, true),
  .inl (240, false),
  .inr (4, [some (.ref 29), some (.ref 30), none, none, none]),
  .inl (4500, false),
  .inl (9, false),
  .inr (7, [some (.ref 1), some (.ref 9), some (.ref 14), some (.ref 28), some (.ref 30), some (.ref 32), none, none]),
  .inl (6, false),
  .inr (2, [some (.ref 34), some (.ref 41), some (.ref 42), none, some (.ref 43), some (.ref 44), some (.ref 45), some (.ref 46), some (.ref 47), some (.ref 48)]),
  .inr (5, [none, some (.ref 1), some (.ref 9), none, some (.ref 35), some (.ref 36), some (.ref 37), some (.ref 38), some (.ref 39), some (.ref 40)]),
  .inl (40, false),
  .inl (40, false),
  .inl (40, false),
  .inl (120, false),
  .inl (120, false),
  .inl (120, false),
  .inl (40, false),
  .inl (40, false),
  .inl (40, false),
  .inl (40, false),
  .inl (40, false),
  .inl (40, false),
  .inl (40, false),
  .inl (500, true),
  .inr (10, [some (.ref 50), none]),
  .inl (180, false),
  .inr (1, [none, some (.ref 52), some (.ref 53), some (.ref 54), some (.ref 55)]),
  .inl (60, false),
  .inl (60, false),
  .inl (60, false),
  .inl (60, false),
  .inr (0, [some (.ref 51), some (.ref 1), some (.ref 9), some (.ref 31), some (.ref 57), some (.ref 61), some (.ref 62), some (.ref 63), none, none, none]),
  .inr (9, [none, some (.ref 58), some (.ref 59), some (.ref 60)]),
  .inl (10, false),
  .inl (10, false),
  .inl (10, false),
  .inl (8, false),
  .inl (4, false),
  .inl (100, false),
  .inr (12, [none, some (.ref 65), some (.ref 66), some (.ref 67), some (.ref 68), some (.ref 69), some (.ref 70), none, some (.ref 71), some (.ref 72), some (.ref 73), some (.ref 74), some (.ref 75), some (.ref 76), some (.ref 77), some (.ref 78), none, some (.ref 79), some (.ref 80), some (.ref 81), some (.ref 82), some (.ref 83), some (.ref 84), none, none, some (.ref 85), none, some (.ref 86), none, none, none, none, none, some (.ref 87), some (.ref 88), none, some (.ref 89), some (.ref 90), some (.ref 91), none, some (.ref 92), none, some (.ref 93), some (.ref 94), some (.ref 95), some (.ref 96), some (.ref 97), some (.ref 98), none, none, none, some (.ref 99), none, some (.ref 100), some (.ref 101), some (.ref 102), none, none, none]),
  .inl (12, false),
  .inl (12, false),
  .inl (96, false),
  .inl (96, false),
  .inl (96, false),
  .inl (96, false),
  .inl (24, false),
  .inl (24, false),
  .inl (6, false),
  .inl (120, false),
  .inl (120, false),
  .inl (360, false),
  .inl (360, false),
  .inl (360, false),
  .inl (80, false),
  .inl (480, false),
  .inl (480, false),
  .inl (80, false),
  .inl (240, true),
  .inl (240, false),
  .inl (4500, false),
  .inl (4, false),
  .inl (40, false),
  .inl (40, false),
  .inl (40, false),
  .inl (40, false),
  .inl (24, true),
  .inl (180, false),
  .inl (60, false),
  .inl (60, false),
  .inl (60, false),
  .inl (60, false),
  .inl (8, false),
  .inl (4, false),
  .inl (100, false),
  .inl (10, false),
  .inl (10, false),
  .inl (10, false)]
noncomputable abbrev rd_R (ρ : Nat × (Nat → Int32)) (k i : Nat) (vs : rd_Lv) (st : List Value) (σ : rd_Sg) : Option (Int32 × rd_Sg) := rd_R0 rd_S0 (rd_ro ρ) k i vs st σ
theorem kb_m4 : (Int8.ofInt (-4)).toInt32 = ((-4) : Int32) := by decide
theorem kb_m3 : (Int8.ofInt (-3)).toInt32 = ((-3) : Int32) := by decide
theorem kb_m2 : (Int8.ofInt (-2)).toInt32 = ((-2) : Int32) := by decide
theorem kb_6 : (Int8.ofInt 6).toInt32 = (6 : Int32) := by decide
theorem kb_7 : (Int8.ofInt 7).toInt32 = (7 : Int32) := by decide
theorem kb_8 : (Int8.ofInt 8).toInt32 = (8 : Int32) := by decide
theorem kb_9 : (Int8.ofInt 9).toInt32 = (9 : Int32) := by decide
theorem kb_10 : (Int8.ofInt 10).toInt32 = (10 : Int32) := by decide
theorem kb_11 : (Int8.ofInt 11).toInt32 = (11 : Int32) := by decide
theorem kb_12 : (Int8.ofInt 12).toInt32 = (12 : Int32) := by decide
theorem kb_23 : (Int8.ofInt 23).toInt32 = (23 : Int32) := by decide
theorem kb_24 : (Int8.ofInt 24).toInt32 = (24 : Int32) := by decide
theorem kb_40 : (Int8.ofInt 40).toInt32 = (40 : Int32) := by decide
theorem kb_59 : (Int8.ofInt 59).toInt32 = (59 : Int32) := by decide
theorem kb_60 : (Int8.ofInt 60).toInt32 = (60 : Int32) := by decide
theorem kb_80 : (Int8.ofInt 80).toInt32 = (80 : Int32) := by decide
theorem kb_100 : (Int8.ofInt 100).toInt32 = (100 : Int32) := by decide
theorem ki_m1 : Int32.ofInt (-1) = ((-1) : Int32) := by decide
theorem ki_0 : Int32.ofInt 0 = (0 : Int32) := by decide
theorem ki_1 : Int32.ofInt 1 = (1 : Int32) := by decide
theorem ki_2 : Int32.ofInt 2 = (2 : Int32) := by decide
theorem ki_3 : Int32.ofInt 3 = (3 : Int32) := by decide
theorem ki_4 : Int32.ofInt 4 = (4 : Int32) := by decide
theorem ki_5 : Int32.ofInt 5 = (5 : Int32) := by decide
theorem ki_6 : Int32.ofInt 6 = (6 : Int32) := by decide
theorem ki_7 : Int32.ofInt 7 = (7 : Int32) := by decide
theorem ki_8 : Int32.ofInt 8 = (8 : Int32) := by decide
theorem ki_9 : Int32.ofInt 9 = (9 : Int32) := by decide
theorem kn_4 : Int32.ofNat 4 = (4 : Int32) := by decide
theorem kn_6 : Int32.ofNat 6 = (6 : Int32) := by decide
theorem kn_8 : Int32.ofNat 8 = (8 : Int32) := by decide
theorem kn_80 : Int32.ofNat 80 = (80 : Int32) := by decide
theorem kn_240 : Int32.ofNat 240 = (240 : Int32) := by decide
theorem ks_m1002 : (Int16.ofInt (-1002)).toInt32 = ((-1002) : Int32) := by decide
theorem ks_m1001 : (Int16.ofInt (-1001)).toInt32 = ((-1001) : Int32) := by decide
theorem ks_240 : (Int16.ofInt 240).toInt32 = (240 : Int32) := by decide
theorem ks_255 : (Int16.ofInt 255).toInt32 = (255 : Int32) := by decide
theorem ks_500 : (Int16.ofInt 500).toInt32 = (500 : Int32) := by decide
theorem ks_1000 : (Int16.ofInt 1000).toInt32 = (1000 : Int32) := by decide
theorem ks_20000 : (Int16.ofInt 20000).toInt32 = (20000 : Int32) := by decide
theorem LL_1 : rd_nth rd_ct 1 = some rd_c1 := by rfl
theorem LL_2 : rd_nth rd_ct 2 = some rd_c2 := by rfl
theorem LL_3 : rd_nth rd_ct 3 = some rd_c3 := by rfl
theorem LL_4 : rd_nth rd_ct 4 = some rd_c4 := by rfl
theorem LL_5 : rd_nth rd_ct 5 = some rd_c5 := by rfl
theorem LL_6 : rd_nth rd_ct 6 = some rd_c6 := by rfl
theorem LL_7 : rd_nth rd_ct 7 = some rd_c7 := by rfl
theorem LL_8 : rd_nth rd_ct 8 = some rd_c8 := by rfl
theorem LL_9 : rd_nth rd_ct 9 = some rd_c9 := by rfl
theorem LL_10 : rd_nth rd_ct 10 = some rd_c10 := by rfl
theorem LL_11 : rd_nth rd_ct 11 = some rd_c11 := by rfl
theorem LL_12 : rd_nth rd_ct 12 = some rd_c12 := by rfl
theorem LL_13 : rd_nth rd_ct 13 = some rd_c13 := by rfl
theorem LL_15 : rd_nth rd_ct 15 = some rd_c15 := by rfl
theorem LL_16 : rd_nth rd_ct 16 = some rd_c16 := by rfl
theorem LL_17 : rd_nth rd_ct 17 = some rd_c17 := by rfl
theorem LL_18 : rd_nth rd_ct 18 = some rd_c18 := by rfl
theorem LL_19 : rd_nth rd_ct 19 = some rd_c19 := by rfl
theorem LL_21 : rd_nth rd_ct 21 = some rd_c21 := by rfl
theorem LL_22 : rd_nth rd_ct 22 = some rd_c22 := by rfl
theorem LL_23 : rd_nth rd_ct 23 = some rd_c23 := by rfl
theorem LL_24 : rd_nth rd_ct 24 = some rd_c24 := by rfl
theorem LL_25 : rd_nth rd_ct 25 = some rd_c25 := by rfl
theorem LL_26 : rd_nth rd_ct 26 = some rd_c26 := by rfl
theorem LL_27 : rd_nth rd_ct 27 = some rd_c27 := by rfl
theorem LL_28 : rd_nth rd_ct 28 = some rd_c28 := by rfl
theorem LL_29 : rd_nth rd_ct 29 = some rd_c29 := by rfl
theorem LL_30 : rd_nth rd_ct 30 = some rd_c30 := by rfl
theorem LL_31 : rd_nth rd_ct 31 = some rd_c31 := by rfl
theorem LL_33 : rd_nth rd_ct 33 = some rd_c33 := by rfl
theorem LL_34 : rd_nth rd_ct 34 = some rd_c34 := by rfl
theorem LL_35 : rd_nth rd_ct 35 = some rd_c35 := by rfl
theorem LL_36 : rd_nth rd_ct 36 = some rd_c36 := by rfl
theorem LL_37 : rd_nth rd_ct 37 = some rd_c37 := by rfl
theorem LL_38 : rd_nth rd_ct 38 = some rd_c38 := by rfl
theorem LL_39 : rd_nth rd_ct 39 = some rd_c39 := by rfl
theorem LL_40 : rd_nth rd_ct 40 = some rd_c40 := by rfl
theorem LL_41 : rd_nth rd_ct 41 = some rd_c41 := by rfl
theorem LL_42 : rd_nth rd_ct 42 = some rd_c42 := by rfl
theorem LL_43 : rd_nth rd_ct 43 = some rd_c43 := by rfl
theorem LL_44 : rd_nth rd_ct 44 = some rd_c44 := by rfl
theorem LL_45 : rd_nth rd_ct 45 = some rd_c45 := by rfl
theorem LL_46 : rd_nth rd_ct 46 = some rd_c46 := by rfl
theorem LL_48 : rd_nth rd_ct 48 = some rd_c48 := by rfl
theorem LL_49 : rd_nth rd_ct 49 = some rd_c49 := by rfl
theorem LL_50 : rd_nth rd_ct 50 = some rd_c50 := by rfl
theorem LL_51 : rd_nth rd_ct 51 = some rd_c51 := by rfl
theorem LL_52 : rd_nth rd_ct 52 = some rd_c52 := by rfl
theorem LL_53 : rd_nth rd_ct 53 = some rd_c53 := by rfl
theorem LL_55 : rd_nth rd_ct 55 = some rd_c55 := by rfl
theorem LL_56 : rd_nth rd_ct 56 = some rd_c56 := by rfl
theorem LL_57 : rd_nth rd_ct 57 = some rd_c57 := by rfl
theorem LL_58 : rd_nth rd_ct 58 = some rd_c58 := by rfl
theorem LL_59 : rd_nth rd_ct 59 = some rd_c59 := by rfl
theorem LL_60 : rd_nth rd_ct 60 = some rd_c60 := by rfl
theorem LL_61 : rd_nth rd_ct 61 = some rd_c61 := by rfl
theorem LL_62 : rd_nth rd_ct 62 = some rd_c62 := by rfl
theorem LL_63 : rd_nth rd_ct 63 = some rd_c63 := by rfl
theorem LL_64 : rd_nth rd_ct 64 = some rd_c64 := by rfl
theorem LL_66 : rd_nth rd_ct 66 = some rd_c66 := by rfl
theorem LL_67 : rd_nth rd_ct 67 = some rd_c67 := by rfl
theorem LL_68 : rd_nth rd_ct 68 = some rd_c68 := by rfl
theorem LL_69 : rd_nth rd_ct 69 = some rd_c69 := by rfl
theorem LL_70 : rd_nth rd_ct 70 = some rd_c70 := by rfl
theorem LL_71 : rd_nth rd_ct 71 = some rd_c71 := by rfl
theorem LL_72 : rd_nth rd_ct 72 = some rd_c72 := by rfl
theorem LL_73 : rd_nth rd_ct 73 = some rd_c73 := by rfl
theorem LL_74 : rd_nth rd_ct 74 = some rd_c74 := by rfl
theorem LL_75 : rd_nth rd_ct 75 = some rd_c75 := by rfl
theorem LL_77 : rd_nth rd_ct 77 = some rd_c77 := by rfl
theorem LL_78 : rd_nth rd_ct 78 = some rd_c78 := by rfl
theorem LL_79 : rd_nth rd_ct 79 = some rd_c79 := by rfl
theorem LL_80 : rd_nth rd_ct 80 = some rd_c80 := by rfl
theorem LL_81 : rd_nth rd_ct 81 = some rd_c81 := by rfl
theorem LL_82 : rd_nth rd_ct 82 = some rd_c82 := by rfl
theorem LL_83 : rd_nth rd_ct 83 = some rd_c83 := by rfl
theorem LL_84 : rd_nth rd_ct 84 = some rd_c84 := by rfl
theorem LL_85 : rd_nth rd_ct 85 = some rd_c85 := by rfl
theorem LL_87 : rd_nth rd_ct 87 = some rd_c87 := by rfl
theorem LL_88 : rd_nth rd_ct 88 = some rd_c88 := by rfl
theorem LL_89 : rd_nth rd_ct 89 = some rd_c89 := by rfl
theorem LL_90 : rd_nth rd_ct 90 = some rd_c90 := by rfl
theorem LL_91 : rd_nth rd_ct 91 = some rd_c91 := by rfl
theorem LL_92 : rd_nth rd_ct 92 = some rd_c92 := by rfl
theorem LL_93 : rd_nth rd_ct 93 = some rd_c93 := by rfl
theorem LL_94 : rd_nth rd_ct 94 = some rd_c94 := by rfl
theorem LL_96 : rd_nth rd_ct 96 = some rd_c96 := by rfl
theorem LL_97 : rd_nth rd_ct 97 = some rd_c97 := by rfl
theorem LL_98 : rd_nth rd_ct 98 = some rd_c98 := by rfl
theorem LL_99 : rd_nth rd_ct 99 = some rd_c99 := by rfl
theorem LL_101 : rd_nth rd_ct 101 = some rd_c101 := by rfl
theorem LL_102 : rd_nth rd_ct 102 = some rd_c102 := by rfl
theorem LL_103 : rd_nth rd_ct 103 = some rd_c103 := by rfl
theorem LL_104 : rd_nth rd_ct 104 = some rd_c104 := by rfl
theorem LL_105 : rd_nth rd_ct 105 = some rd_c105 := by rfl
theorem LL_106 : rd_nth rd_ct 106 = some rd_c106 := by rfl
theorem LL_108 : rd_nth rd_ct 108 = some rd_c108 := by rfl
theorem LL_109 : rd_nth rd_ct 109 = some rd_c109 := by rfl
theorem LL_110 : rd_nth rd_ct 110 = some rd_c110 := by rfl
theorem LL_111 : rd_nth rd_ct 111 = some rd_c111 := by rfl
theorem LL_112 : rd_nth rd_ct 112 = some rd_c112 := by rfl
theorem LL_113 : rd_nth rd_ct 113 = some rd_c113 := by rfl
theorem LL_114 : rd_nth rd_ct 114 = some rd_c114 := by rfl
theorem LL_115 : rd_nth rd_ct 115 = some rd_c115 := by rfl
theorem LL_116 : rd_nth rd_ct 116 = some rd_c116 := by rfl
theorem LL_117 : rd_nth rd_ct 117 = some rd_c117 := by rfl
theorem LL_118 : rd_nth rd_ct 118 = some rd_c118 := by rfl
theorem LL_119 : rd_nth rd_ct 119 = some rd_c119 := by rfl
theorem LL_120 : rd_nth rd_ct 120 = some rd_c120 := by rfl
theorem LL_121 : rd_nth rd_ct 121 = some rd_c121 := by rfl
theorem LL_122 : rd_nth rd_ct 122 = some rd_c122 := by rfl
theorem LL_123 : rd_nth rd_ct 123 = some rd_c123 := by rfl
theorem LL_124 : rd_nth rd_ct 124 = some rd_c124 := by rfl
theorem LL_125 : rd_nth rd_ct 125 = some rd_c125 := by rfl
theorem LL_126 : rd_nth rd_ct 126 = some rd_c126 := by rfl
theorem LL_127 : rd_nth rd_ct 127 = some rd_c127 := by rfl
theorem LL_128 : rd_nth rd_ct 128 = some rd_c128 := by rfl
theorem LL_129 : rd_nth rd_ct 129 = some rd_c129 := by rfl
theorem LL_130 : rd_nth rd_ct 130 = some rd_c130 := by rfl
theorem LL_131 : rd_nth rd_ct 131 = some rd_c131 := by rfl
theorem LL_132 : rd_nth rd_ct 132 = some rd_c132 := by rfl
theorem LL_133 : rd_nth rd_ct 133 = some rd_c133 := by rfl
theorem LL_134 : rd_nth rd_ct 134 = some rd_c134 := by rfl
theorem LL_135 : rd_nth rd_ct 135 = some rd_c135 := by rfl
theorem LL_137 : rd_nth rd_ct 137 = some rd_c137 := by rfl
theorem LL_138 : rd_nth rd_ct 138 = some rd_c138 := by rfl
theorem LL_139 : rd_nth rd_ct 139 = some rd_c139 := by rfl
theorem LL_140 : rd_nth rd_ct 140 = some rd_c140 := by rfl
theorem LL_141 : rd_nth rd_ct 141 = some rd_c141 := by rfl
theorem LL_142 : rd_nth rd_ct 142 = some rd_c142 := by rfl
theorem LL_143 : rd_nth rd_ct 143 = some rd_c143 := by rfl
theorem LL_144 : rd_nth rd_ct 144 = some rd_c144 := by rfl
theorem LL_145 : rd_nth rd_ct 145 = some rd_c145 := by rfl
theorem LL_146 : rd_nth rd_ct 146 = some rd_c146 := by rfl
theorem LL_147 : rd_nth rd_ct 147 = some rd_c147 := by rfl
theorem LL_148 : rd_nth rd_ct 148 = some rd_c148 := by rfl
theorem LL_149 : rd_nth rd_ct 149 = some rd_c149 := by rfl
theorem LL_150 : rd_nth rd_ct 150 = some rd_c150 := by rfl
theorem LL_151 : rd_nth rd_ct 151 = some rd_c151 := by rfl
theorem LL_152 : rd_nth rd_ct 152 = some rd_c152 := by rfl
theorem LL_153 : rd_nth rd_ct 153 = some rd_c153 := by rfl
theorem LL_154 : rd_nth rd_ct 154 = some rd_c154 := by rfl
theorem LL_155 : rd_nth rd_ct 155 = some rd_c155 := by rfl
theorem LL_156 : rd_nth rd_ct 156 = some rd_c156 := by rfl
theorem LL_157 : rd_nth rd_ct 157 = some rd_c157 := by rfl
theorem LL_158 : rd_nth rd_ct 158 = some rd_c158 := by rfl
theorem LL_159 : rd_nth rd_ct 159 = some rd_c159 := by rfl
theorem LL_160 : rd_nth rd_ct 160 = some rd_c160 := by rfl
theorem LL_161 : rd_nth rd_ct 161 = some rd_c161 := by rfl
theorem LL_162 : rd_nth rd_ct 162 = some rd_c162 := by rfl
theorem LL_163 : rd_nth rd_ct 163 = some rd_c163 := by rfl
theorem LL_164 : rd_nth rd_ct 164 = some rd_c164 := by rfl
theorem LL_165 : rd_nth rd_ct 165 = some rd_c165 := by rfl
theorem LL_166 : rd_nth rd_ct 166 = some rd_c166 := by rfl
theorem LL_167 : rd_nth rd_ct 167 = some rd_c167 := by rfl
theorem LL_168 : rd_nth rd_ct 168 = some rd_c168 := by rfl
theorem LL_169 : rd_nth rd_ct 169 = some rd_c169 := by rfl
theorem LL_170 : rd_nth rd_ct 170 = some rd_c170 := by rfl
theorem LL_171 : rd_nth rd_ct 171 = some rd_c171 := by rfl
theorem LL_172 : rd_nth rd_ct 172 = some rd_c172 := by rfl
theorem LL_173 : rd_nth rd_ct 173 = some rd_c173 := by rfl
theorem LL_174 : rd_nth rd_ct 174 = some rd_c174 := by rfl
theorem LL_175 : rd_nth rd_ct 175 = some rd_c175 := by rfl
theorem LL_176 : rd_nth rd_ct 176 = some rd_c176 := by rfl
theorem LL_177 : rd_nth rd_ct 177 = some rd_c177 := by rfl
theorem LL_178 : rd_nth rd_ct 178 = some rd_c178 := by rfl
theorem LL_179 : rd_nth rd_ct 179 = some rd_c179 := by rfl
theorem LL_180 : rd_nth rd_ct 180 = some rd_c180 := by rfl
theorem LL_181 : rd_nth rd_ct 181 = some rd_c181 := by rfl
theorem LL_182 : rd_nth rd_ct 182 = some rd_c182 := by rfl
theorem LL_183 : rd_nth rd_ct 183 = some rd_c183 := by rfl
theorem LL_184 : rd_nth rd_ct 184 = some rd_c184 := by rfl
theorem LL_185 : rd_nth rd_ct 185 = some rd_c185 := by rfl
theorem LL_186 : rd_nth rd_ct 186 = some rd_c186 := by rfl
theorem LL_187 : rd_nth rd_ct 187 = some rd_c187 := by rfl
theorem LL_188 : rd_nth rd_ct 188 = some rd_c188 := by rfl
theorem LL_189 : rd_nth rd_ct 189 = some rd_c189 := by rfl
theorem LL_190 : rd_nth rd_ct 190 = some rd_c190 := by rfl
theorem LL_191 : rd_nth rd_ct 191 = some rd_c191 := by rfl
theorem LL_193 : rd_nth rd_ct 193 = some rd_c193 := by rfl
theorem isI_1 : rd_isI 1 = true := by decide +kernel
theorem mz_1 : rd_mz 1 = true := by decide +kernel
theorem isI_2 : rd_isI 2 = true := by decide +kernel
theorem mz_2 : rd_mz 2 = false := by decide +kernel
theorem isI_3 : rd_isI 3 = false := by decide +kernel
theorem mz_3 : rd_mz 3 = false := by decide +kernel
theorem isI_4 : rd_isI 4 = true := by decide +kernel
theorem mz_4 : rd_mz 4 = true := by decide +kernel
theorem isI_5 : rd_isI 5 = true := by decide +kernel
theorem mz_5 : rd_mz 5 = false := by decide +kernel
theorem isI_6 : rd_isI 6 = true := by decide +kernel
theorem mz_6 : rd_mz 6 = false := by decide +kernel
theorem isI_7 : rd_isI 7 = false := by decide +kernel
theorem mz_7 : rd_mz 7 = false := by decide +kernel
theorem isI_8 : rd_isI 8 = false := by decide +kernel
theorem mz_8 : rd_mz 8 = false := by decide +kernel
theorem isI_9 : rd_isI 9 = true := by decide +kernel
theorem mz_9 : rd_mz 9 = true := by decide +kernel
theorem isI_10 : rd_isI 10 = false := by decide +kernel
theorem mz_10 : rd_mz 10 = false := by decide +kernel
theorem isI_11 : rd_isI 11 = true := by decide +kernel
theorem mz_11 : rd_mz 11 = false := by decide +kernel
theorem isI_12 : rd_isI 12 = true := by decide +kernel
theorem mz_12 : rd_mz 12 = false := by decide +kernel
theorem isI_13 : rd_isI 13 = false := by decide +kernel
theorem mz_13 : rd_mz 13 = false := by decide +kernel
theorem isI_15 : rd_isI 15 = true := by decide +kernel
theorem mz_15 : rd_mz 15 = true := by decide +kernel
theorem isI_16 : rd_isI 16 = true := by decide +kernel
theorem mz_16 : rd_mz 16 = true := by decide +kernel
theorem isI_17 : rd_isI 17 = true := by decide +kernel
theorem mz_17 : rd_mz 17 = false := by decide +kernel
theorem isI_18 : rd_isI 18 = true := by decide +kernel
theorem mz_18 : rd_mz 18 = false := by decide +kernel
theorem isI_19 : rd_isI 19 = true := by decide +kernel
theorem mz_19 : rd_mz 19 = false := by decide +kernel
theorem isI_21 : rd_isI 21 = true := by decide +kernel
theorem mz_21 : rd_mz 21 = false := by decide +kernel
theorem isI_22 : rd_isI 22 = true := by decide +kernel
theorem mz_22 : rd_mz 22 = false := by decide +kernel
theorem isI_23 : rd_isI 23 = true := by decide +kernel
theorem mz_23 : rd_mz 23 = false := by decide +kernel
theorem isI_24 : rd_isI 24 = true := by decide +kernel
theorem mz_24 : rd_mz 24 = false := by decide +kernel
theorem isI_25 : rd_isI 25 = false := by decide +kernel
theorem mz_25 : rd_mz 25 = false := by decide +kernel
theorem isI_26 : rd_isI 26 = false := by decide +kernel
theorem mz_26 : rd_mz 26 = false := by decide +kernel
theorem isI_27 : rd_isI 27 = true := by decide +kernel
theorem mz_27 : rd_mz 27 = false := by decide +kernel
theorem isI_28 : rd_isI 28 = true := by decide +kernel
theorem mz_28 : rd_mz 28 = true := by decide +kernel
theorem isI_29 : rd_isI 29 = true := by decide +kernel
theorem mz_29 : rd_mz 29 = true := by decide +kernel
theorem isI_30 : rd_isI 30 = true := by decide +kernel
theorem mz_30 : rd_mz 30 = true := by decide +kernel
theorem isI_31 : rd_isI 31 = true := by decide +kernel
theorem mz_31 : rd_mz 31 = false := by decide +kernel
theorem isI_33 : rd_isI 33 = true := by decide +kernel
theorem mz_33 : rd_mz 33 = false := by decide +kernel
theorem isI_34 : rd_isI 34 = true := by decide +kernel
theorem mz_34 : rd_mz 34 = true := by decide +kernel
theorem isI_35 : rd_isI 35 = true := by decide +kernel
theorem mz_35 : rd_mz 35 = false := by decide +kernel
theorem isI_36 : rd_isI 36 = false := by decide +kernel
theorem mz_36 : rd_mz 36 = false := by decide +kernel
theorem isI_37 : rd_isI 37 = true := by decide +kernel
theorem mz_37 : rd_mz 37 = true := by decide +kernel
theorem isI_38 : rd_isI 38 = false := by decide +kernel
theorem mz_38 : rd_mz 38 = false := by decide +kernel
theorem isI_39 : rd_isI 39 = true := by decide +kernel
theorem mz_39 : rd_mz 39 = false := by decide +kernel
theorem isI_40 : rd_isI 40 = true := by decide +kernel
theorem mz_40 : rd_mz 40 = false := by decide +kernel
theorem isI_41 : rd_isI 41 = true := by decide +kernel
theorem mz_41 : rd_mz 41 = false := by decide +kernel
theorem isI_42 : rd_isI 42 = true := by decide +kernel
theorem mz_42 : rd_mz 42 = false := by decide +kernel
theorem isI_43 : rd_isI 43 = true := by decide +kernel
theorem mz_43 : rd_mz 43 = true := by decide +kernel
theorem isI_44 : rd_isI 44 = true := by decide +kernel
theorem mz_44 : rd_mz 44 = true := by decide +kernel
theorem isI_45 : rd_isI 45 = true := by decide +kernel
theorem mz_45 : rd_mz 45 = false := by decide +kernel
theorem isI_46 : rd_isI 46 = true := by decide +kernel
theorem mz_46 : rd_mz 46 = true := by decide +kernel
theorem isI_48 : rd_isI 48 = true := by decide +kernel
theorem mz_48 : rd_mz 48 = true := by decide +kernel
theorem isI_49 : rd_isI 49 = true := by decide +kernel
theorem mz_49 : rd_mz 49 = false := by decide +kernel
theorem isI_50 : rd_isI 50 = true := by decide +kernel
theorem mz_50 : rd_mz 50 = false := by decide +kernel
theorem isI_51 : rd_isI 51 = true := by decide +kernel
theorem mz_51 : rd_mz 51 = false := by decide +kernel
theorem isI_52 : rd_isI 52 = false := by decide +kernel
theorem mz_52 : rd_mz 52 = false := by decide +kernel
theorem isI_53 : rd_isI 53 = false := by decide +kernel
theorem mz_53 : rd_mz 53 = false := by decide +kernel
theorem isI_55 : rd_isI 55 = true := by decide +kernel
theorem mz_55 : rd_mz 55 = false := by decide +kernel
theorem isI_56 : rd_isI 56 = true := by decide +kernel
theorem mz_56 : rd_mz 56 = true := by decide +kernel
theorem isI_57 : rd_isI 57 = true := by decide +kernel
theorem mz_57 : rd_mz 57 = false := by decide +kernel
theorem isI_58 : rd_isI 58 = true := by decide +kernel
theorem mz_58 : rd_mz 58 = false := by decide +kernel
theorem isI_59 : rd_isI 59 = true := by decide +kernel
theorem mz_59 : rd_mz 59 = true := by decide +kernel
theorem isI_60 : rd_isI 60 = true := by decide +kernel
theorem mz_60 : rd_mz 60 = true := by decide +kernel
theorem isI_61 : rd_isI 61 = true := by decide +kernel
theorem mz_61 : rd_mz 61 = false := by decide +kernel
theorem isI_62 : rd_isI 62 = true := by decide +kernel
theorem mz_62 : rd_mz 62 = true := by decide +kernel
theorem isI_63 : rd_isI 63 = true := by decide +kernel
theorem mz_63 : rd_mz 63 = true := by decide +kernel
theorem isI_64 : rd_isI 64 = true := by decide +kernel
theorem mz_64 : rd_mz 64 = true := by decide +kernel
theorem isI_66 : rd_isI 66 = true := by decide +kernel
theorem mz_66 : rd_mz 66 = true := by decide +kernel
theorem isI_67 : rd_isI 67 = true := by decide +kernel
theorem mz_67 : rd_mz 67 = false := by decide +kernel
theorem isI_68 : rd_isI 68 = true := by decide +kernel
theorem mz_68 : rd_mz 68 = false := by decide +kernel
theorem isI_69 : rd_isI 69 = true := by decide +kernel
theorem mz_69 : rd_mz 69 = false := by decide +kernel
theorem isI_70 : rd_isI 70 = true := by decide +kernel
theorem mz_70 : rd_mz 70 = false := by decide +kernel
theorem isI_71 : rd_isI 71 = true := by decide +kernel
theorem mz_71 : rd_mz 71 = false := by decide +kernel
theorem isI_72 : rd_isI 72 = true := by decide +kernel
theorem mz_72 : rd_mz 72 = true := by decide +kernel
theorem isI_73 : rd_isI 73 = true := by decide +kernel
theorem mz_73 : rd_mz 73 = false := by decide +kernel
theorem isI_74 : rd_isI 74 = false := by decide +kernel
theorem mz_74 : rd_mz 74 = false := by decide +kernel
theorem isI_75 : rd_isI 75 = false := by decide +kernel
theorem mz_75 : rd_mz 75 = false := by decide +kernel
theorem isI_77 : rd_isI 77 = false := by decide +kernel
theorem mz_77 : rd_mz 77 = false := by decide +kernel
theorem isI_78 : rd_isI 78 = false := by decide +kernel
theorem mz_78 : rd_mz 78 = false := by decide +kernel
theorem isI_79 : rd_isI 79 = false := by decide +kernel
theorem mz_79 : rd_mz 79 = false := by decide +kernel
theorem isI_80 : rd_isI 80 = false := by decide +kernel
theorem mz_80 : rd_mz 80 = false := by decide +kernel
theorem isI_81 : rd_isI 81 = false := by decide +kernel
theorem mz_81 : rd_mz 81 = false := by decide +kernel
theorem isI_82 : rd_isI 82 = false := by decide +kernel
theorem mz_82 : rd_mz 82 = false := by decide +kernel
theorem isI_83 : rd_isI 83 = false := by decide +kernel
theorem mz_83 : rd_mz 83 = false := by decide +kernel
theorem isI_84 : rd_isI 84 = false := by decide +kernel
theorem mz_84 : rd_mz 84 = false := by decide +kernel
theorem isI_85 : rd_isI 85 = false := by decide +kernel
theorem mz_85 : rd_mz 85 = false := by decide +kernel
theorem isI_87 : rd_isI 87 = true := by decide +kernel
theorem mz_87 : rd_mz 87 = false := by decide +kernel
theorem isI_88 : rd_isI 88 = true := by decide +kernel
theorem mz_88 : rd_mz 88 = true := by decide +kernel
theorem isI_89 : rd_isI 89 = true := by decide +kernel
theorem mz_89 : rd_mz 89 = false := by decide +kernel
theorem isI_90 : rd_isI 90 = true := by decide +kernel
theorem mz_90 : rd_mz 90 = true := by decide +kernel
theorem isI_91 : rd_isI 91 = true := by decide +kernel
theorem mz_91 : rd_mz 91 = false := by decide +kernel
theorem isI_92 : rd_isI 92 = true := by decide +kernel
theorem mz_92 : rd_mz 92 = false := by decide +kernel
theorem isI_93 : rd_isI 93 = true := by decide +kernel
theorem mz_93 : rd_mz 93 = true := by decide +kernel
theorem isI_94 : rd_isI 94 = true := by decide +kernel
theorem mz_94 : rd_mz 94 = true := by decide +kernel
theorem isI_96 : rd_isI 96 = false := by decide +kernel
theorem mz_96 : rd_mz 96 = false := by decide +kernel
theorem isI_97 : rd_isI 97 = true := by decide +kernel
theorem mz_97 : rd_mz 97 = true := by decide +kernel
theorem isI_98 : rd_isI 98 = false := by decide +kernel
theorem mz_98 : rd_mz 98 = false := by decide +kernel
theorem isI_99 : rd_isI 99 = true := by decide +kernel
theorem mz_99 : rd_mz 99 = false := by decide +kernel
theorem isI_101 : rd_isI 101 = true := by decide +kernel
theorem mz_101 : rd_mz 101 = false := by decide +kernel
theorem isI_102 : rd_isI 102 = true := by decide +kernel
theorem mz_102 : rd_mz 102 = false := by decide +kernel
theorem isI_103 : rd_isI 103 = false := by decide +kernel
theorem mz_103 : rd_mz 103 = false := by decide +kernel
theorem isI_104 : rd_isI 104 = false := by decide +kernel
theorem mz_104 : rd_mz 104 = false := by decide +kernel
theorem isI_105 : rd_isI 105 = false := by decide +kernel
theorem mz_105 : rd_mz 105 = false := by decide +kernel
theorem isI_106 : rd_isI 106 = false := by decide +kernel
theorem mz_106 : rd_mz 106 = false := by decide +kernel
theorem isI_108 : rd_isI 108 = true := by decide +kernel
theorem mz_108 : rd_mz 108 = false := by decide +kernel
theorem isI_109 : rd_isI 109 = true := by decide +kernel
theorem mz_109 : rd_mz 109 = false := by decide +kernel
theorem isI_110 : rd_isI 110 = true := by decide +kernel
theorem mz_110 : rd_mz 110 = false := by decide +kernel
theorem isI_111 : rd_isI 111 = true := by decide +kernel
theorem mz_111 : rd_mz 111 = false := by decide +kernel
theorem isI_112 : rd_isI 112 = true := by decide +kernel
theorem mz_112 : rd_mz 112 = false := by decide +kernel
theorem isI_113 : rd_isI 113 = true := by decide +kernel
theorem mz_113 : rd_mz 113 = false := by decide +kernel
theorem isI_114 : rd_isI 114 = true := by decide +kernel
theorem mz_114 : rd_mz 114 = false := by decide +kernel
theorem isI_115 : rd_isI 115 = true := by decide +kernel
theorem mz_115 : rd_mz 115 = false := by decide +kernel
theorem isI_116 : rd_isI 116 = true := by decide +kernel
theorem mz_116 : rd_mz 116 = false := by decide +kernel
theorem isI_117 : rd_isI 117 = true := by decide +kernel
theorem mz_117 : rd_mz 117 = false := by decide +kernel
theorem isI_118 : rd_isI 118 = true := by decide +kernel
theorem mz_118 : rd_mz 118 = true := by decide +kernel
theorem isI_119 : rd_isI 119 = true := by decide +kernel
theorem mz_119 : rd_mz 119 = false := by decide +kernel
theorem isI_120 : rd_isI 120 = true := by decide +kernel
theorem mz_120 : rd_mz 120 = false := by decide +kernel
theorem isI_121 : rd_isI 121 = true := by decide +kernel
theorem mz_121 : rd_mz 121 = false := by decide +kernel
theorem isI_122 : rd_isI 122 = true := by decide +kernel
theorem mz_122 : rd_mz 122 = false := by decide +kernel
theorem isI_123 : rd_isI 123 = true := by decide +kernel
theorem mz_123 : rd_mz 123 = false := by decide +kernel
theorem isI_124 : rd_isI 124 = true := by decide +kernel
theorem mz_124 : rd_mz 124 = false := by decide +kernel
theorem isI_125 : rd_isI 125 = true := by decide +kernel
theorem mz_125 : rd_mz 125 = false := by decide +kernel
theorem isI_126 : rd_isI 126 = true := by decide +kernel
theorem mz_126 : rd_mz 126 = false := by decide +kernel
theorem isI_127 : rd_isI 127 = true := by decide +kernel
theorem mz_127 : rd_mz 127 = false := by decide +kernel
theorem isI_128 : rd_isI 128 = true := by decide +kernel
theorem mz_128 : rd_mz 128 = false := by decide +kernel
theorem isI_129 : rd_isI 129 = true := by decide +kernel
theorem mz_129 : rd_mz 129 = false := by decide +kernel
theorem isI_130 : rd_isI 130 = true := by decide +kernel
theorem mz_130 : rd_mz 130 = false := by decide +kernel
theorem isI_131 : rd_isI 131 = true := by decide +kernel
theorem mz_131 : rd_mz 131 = false := by decide +kernel
theorem isI_132 : rd_isI 132 = true := by decide +kernel
theorem mz_132 : rd_mz 132 = false := by decide +kernel
theorem isI_133 : rd_isI 133 = true := by decide +kernel
theorem mz_133 : rd_mz 133 = false := by decide +kernel
theorem isI_134 : rd_isI 134 = true := by decide +kernel
theorem mz_134 : rd_mz 134 = false := by decide +kernel
theorem isI_135 : rd_isI 135 = true := by decide +kernel
theorem mz_135 : rd_mz 135 = false := by decide +kernel
theorem isI_137 : rd_isI 137 = true := by decide +kernel
theorem mz_137 : rd_mz 137 = true := by decide +kernel
theorem isI_138 : rd_isI 138 = true := by decide +kernel
theorem mz_138 : rd_mz 138 = false := by decide +kernel
theorem isI_139 : rd_isI 139 = true := by decide +kernel
theorem mz_139 : rd_mz 139 = true := by decide +kernel
theorem isI_140 : rd_isI 140 = true := by decide +kernel
theorem mz_140 : rd_mz 140 = false := by decide +kernel
theorem isI_141 : rd_isI 141 = true := by decide +kernel
theorem mz_141 : rd_mz 141 = false := by decide +kernel
theorem isI_142 : rd_isI 142 = true := by decide +kernel
theorem mz_142 : rd_mz 142 = true := by decide +kernel
theorem isI_143 : rd_isI 143 = true := by decide +kernel
theorem mz_143 : rd_mz 143 = false := by decide +kernel
theorem isI_144 : rd_isI 144 = true := by decide +kernel
theorem mz_144 : rd_mz 144 = false := by decide +kernel
theorem isI_145 : rd_isI 145 = true := by decide +kernel
theorem mz_145 : rd_mz 145 = true := by decide +kernel
theorem isI_146 : rd_isI 146 = true := by decide +kernel
theorem mz_146 : rd_mz 146 = false := by decide +kernel
theorem isI_147 : rd_isI 147 = true := by decide +kernel
theorem mz_147 : rd_mz 147 = true := by decide +kernel
theorem isI_148 : rd_isI 148 = false := by decide +kernel
theorem mz_148 : rd_mz 148 = false := by decide +kernel
theorem isI_149 : rd_isI 149 = true := by decide +kernel
theorem mz_149 : rd_mz 149 = false := by decide +kernel
theorem isI_150 : rd_isI 150 = true := by decide +kernel
theorem mz_150 : rd_mz 150 = true := by decide +kernel
theorem isI_151 : rd_isI 151 = true := by decide +kernel
theorem mz_151 : rd_mz 151 = true := by decide +kernel
theorem isI_152 : rd_isI 152 = true := by decide +kernel
theorem mz_152 : rd_mz 152 = true := by decide +kernel
theorem isI_153 : rd_isI 153 = true := by decide +kernel
theorem mz_153 : rd_mz 153 = false := by decide +kernel
theorem isI_154 : rd_isI 154 = true := by decide +kernel
theorem mz_154 : rd_mz 154 = false := by decide +kernel
theorem isI_155 : rd_isI 155 = true := by decide +kernel
theorem mz_155 : rd_mz 155 = false := by decide +kernel
theorem isI_156 : rd_isI 156 = true := by decide +kernel
theorem mz_156 : rd_mz 156 = false := by decide +kernel
theorem isI_157 : rd_isI 157 = false := by decide +kernel
theorem mz_157 : rd_mz 157 = false := by decide +kernel
theorem isI_158 : rd_isI 158 = false := by decide +kernel
theorem mz_158 : rd_mz 158 = false := by decide +kernel
theorem isI_159 : rd_isI 159 = true := by decide +kernel
theorem mz_159 : rd_mz 159 = false := by decide +kernel
theorem isI_160 : rd_isI 160 = false := by decide +kernel
theorem mz_160 : rd_mz 160 = false := by decide +kernel
theorem isI_161 : rd_isI 161 = true := by decide +kernel
theorem mz_161 : rd_mz 161 = false := by decide +kernel
theorem isI_162 : rd_isI 162 = false := by decide +kernel
theorem mz_162 : rd_mz 162 = false := by decide +kernel
theorem isI_163 : rd_isI 163 = false := by decide +kernel
theorem mz_163 : rd_mz 163 = false := by decide +kernel
theorem isI_164 : rd_isI 164 = true := by decide +kernel
theorem mz_164 : rd_mz 164 = true := by decide +kernel
theorem isI_165 : rd_isI 165 = true := by decide +kernel
theorem mz_165 : rd_mz 165 = false := by decide +kernel
theorem isI_166 : rd_isI 166 = true := by decide +kernel
theorem mz_166 : rd_mz 166 = false := by decide +kernel
theorem isI_167 : rd_isI 167 = true := by decide +kernel
theorem mz_167 : rd_mz 167 = false := by decide +kernel
theorem isI_168 : rd_isI 168 = true := by decide +kernel
theorem mz_168 : rd_mz 168 = true := by decide +kernel
theorem isI_169 : rd_isI 169 = true := by decide +kernel
theorem mz_169 : rd_mz 169 = false := by decide +kernel
theorem isI_170 : rd_isI 170 = true := by decide +kernel
theorem mz_170 : rd_mz 170 = false := by decide +kernel
theorem isI_171 : rd_isI 171 = true := by decide +kernel
theorem mz_171 : rd_mz 171 = false := by decide +kernel
theorem isI_172 : rd_isI 172 = true := by decide +kernel
theorem mz_172 : rd_mz 172 = false := by decide +kernel
theorem isI_173 : rd_isI 173 = true := by decide +kernel
theorem mz_173 : rd_mz 173 = true := by decide +kernel
theorem isI_174 : rd_isI 174 = true := by decide +kernel
theorem mz_174 : rd_mz 174 = false := by decide +kernel
theorem isI_175 : rd_isI 175 = true := by decide +kernel
theorem mz_175 : rd_mz 175 = false := by decide +kernel
theorem isI_176 : rd_isI 176 = false := by decide +kernel
theorem mz_176 : rd_mz 176 = false := by decide +kernel
theorem isI_177 : rd_isI 177 = true := by decide +kernel
theorem mz_177 : rd_mz 177 = false := by decide +kernel
theorem isI_178 : rd_isI 178 = true := by decide +kernel
theorem mz_178 : rd_mz 178 = true := by decide +kernel
theorem isI_179 : rd_isI 179 = true := by decide +kernel
theorem mz_179 : rd_mz 179 = false := by decide +kernel
theorem isI_180 : rd_isI 180 = true := by decide +kernel
theorem mz_180 : rd_mz 180 = false := by decide +kernel
theorem isI_181 : rd_isI 181 = true := by decide +kernel
theorem mz_181 : rd_mz 181 = false := by decide +kernel
theorem isI_182 : rd_isI 182 = true := by decide +kernel
theorem mz_182 : rd_mz 182 = false := by decide +kernel
theorem isI_183 : rd_isI 183 = true := by decide +kernel
theorem mz_183 : rd_mz 183 = false := by decide +kernel
theorem isI_184 : rd_isI 184 = true := by decide +kernel
theorem mz_184 : rd_mz 184 = false := by decide +kernel
theorem isI_185 : rd_isI 185 = true := by decide +kernel
theorem mz_185 : rd_mz 185 = false := by decide +kernel
theorem isI_186 : rd_isI 186 = false := by decide +kernel
theorem mz_186 : rd_mz 186 = false := by decide +kernel
theorem isI_187 : rd_isI 187 = true := by decide +kernel
theorem mz_187 : rd_mz 187 = false := by decide +kernel
theorem isI_188 : rd_isI 188 = true := by decide +kernel
theorem mz_188 : rd_mz 188 = false := by decide +kernel
theorem isI_189 : rd_isI 189 = true := by decide +kernel
theorem mz_189 : rd_mz 189 = false := by decide +kernel
theorem isI_190 : rd_isI 190 = true := by decide +kernel
theorem mz_190 : rd_mz 190 = false := by decide +kernel
theorem isI_191 : rd_isI 191 = true := by decide +kernel
theorem mz_191 : rd_mz 191 = false := by decide +kernel
theorem isI_193 : rd_isI 193 = false := by decide +kernel
theorem mz_193 : rd_mz 193 = false := by decide +kernel
theorem gf_0_0 : rd_gf rd_S0 0 11 0 = some (some (.ref 1)) := by decide +kernel
theorem gf_0_1 : rd_gf rd_S0 0 11 1 = some (some (.ref 9)) := by decide +kernel
theorem gf_0_2 : rd_gf rd_S0 0 11 2 = some (some (.ref 14)) := by decide +kernel
theorem gf_0_3 : rd_gf rd_S0 0 11 3 = some (some (.ref 28)) := by decide +kernel
theorem gf_0_4 : rd_gf rd_S0 0 11 4 = some (some (.ref 31)) := by decide +kernel
theorem gf_0_5 : rd_gf rd_S0 0 11 5 = some (some (.ref 33)) := by decide +kernel
theorem gf_0_6 : rd_gf rd_S0 0 11 6 = some (some (.ref 49)) := by decide +kernel
theorem gf_0_7 : rd_gf rd_S0 0 11 7 = some (some (.ref 51)) := by decide +kernel
theorem gf_0_8 : rd_gf rd_S0 0 11 8 = some (some (.ref 56)) := by decide +kernel
theorem gf_1_0 : rd_gf rd_S0 1 3 0 = some (none) := by decide +kernel
theorem gf_1_1 : rd_gf rd_S0 1 3 1 = some (some (.ref 2)) := by decide +kernel
theorem gf_1_2 : rd_gf rd_S0 1 3 2 = some (some (.ref 3)) := by decide +kernel
theorem gf_1_3 : rd_gf rd_S0 1 3 3 = some (some (.ref 4)) := by decide +kernel
theorem gf_1_4 : rd_gf rd_S0 1 3 4 = some (some (.ref 5)) := by decide +kernel
theorem gf_1_5 : rd_gf rd_S0 1 3 5 = some (some (.ref 6)) := by decide +kernel
theorem gf_1_6 : rd_gf rd_S0 1 3 6 = some (some (.ref 7)) := by decide +kernel
theorem gf_1_7 : rd_gf rd_S0 1 3 7 = some (some (.ref 8)) := by decide +kernel
theorem gf_9_0 : rd_gf rd_S0 9 8 0 = some (some (.ref 1)) := by decide +kernel
theorem gf_9_1 : rd_gf rd_S0 9 8 1 = some (none) := by decide +kernel
theorem gf_9_2 : rd_gf rd_S0 9 8 2 = some (some (.ref 10)) := by decide +kernel
theorem gf_9_3 : rd_gf rd_S0 9 8 3 = some (some (.ref 11)) := by decide +kernel
theorem gf_9_4 : rd_gf rd_S0 9 8 4 = some (some (.ref 12)) := by decide +kernel
theorem gf_9_5 : rd_gf rd_S0 9 8 5 = some (some (.ref 13)) := by decide +kernel
theorem gf_14_0 : rd_gf rd_S0 14 6 0 = some (some (.ref 15)) := by decide +kernel
theorem gf_14_1 : rd_gf rd_S0 14 6 1 = some (some (.ref 1)) := by decide +kernel
theorem gf_14_2 : rd_gf rd_S0 14 6 2 = some (some (.ref 9)) := by decide +kernel
theorem gf_14_3 : rd_gf rd_S0 14 6 3 = some (some (.ref 22)) := by decide +kernel
theorem gf_14_4 : rd_gf rd_S0 14 6 4 = some (some (.ref 23)) := by decide +kernel
theorem gf_14_5 : rd_gf rd_S0 14 6 5 = some (some (.ref 24)) := by decide +kernel
theorem gf_14_6 : rd_gf rd_S0 14 6 6 = some (some (.ref 25)) := by decide +kernel
theorem gf_14_7 : rd_gf rd_S0 14 6 7 = some (some (.ref 26)) := by decide +kernel
theorem gf_14_8 : rd_gf rd_S0 14 6 8 = some (some (.ref 27)) := by decide +kernel
theorem gf_15_0 : rd_gf rd_S0 15 5 0 = some (none) := by decide +kernel
theorem gf_15_1 : rd_gf rd_S0 15 5 1 = some (some (.ref 1)) := by decide +kernel
theorem gf_15_2 : rd_gf rd_S0 15 5 2 = some (some (.ref 9)) := by decide +kernel
theorem gf_15_3 : rd_gf rd_S0 15 5 3 = some (none) := by decide +kernel
theorem gf_15_4 : rd_gf rd_S0 15 5 4 = some (some (.ref 16)) := by decide +kernel
theorem gf_15_5 : rd_gf rd_S0 15 5 5 = some (some (.ref 17)) := by decide +kernel
theorem gf_15_6 : rd_gf rd_S0 15 5 6 = some (some (.ref 18)) := by decide +kernel
theorem gf_15_7 : rd_gf rd_S0 15 5 7 = some (some (.ref 19)) := by decide +kernel
theorem gf_15_8 : rd_gf rd_S0 15 5 8 = some (some (.ref 20)) := by decide +kernel
theorem gf_15_9 : rd_gf rd_S0 15 5 9 = some (some (.ref 21)) := by decide +kernel
theorem gf_28_0 : rd_gf rd_S0 28 4 0 = some (some (.ref 29)) := by decide +kernel
theorem gf_28_1 : rd_gf rd_S0 28 4 1 = some (some (.ref 30)) := by decide +kernel
theorem gf_28_2 : rd_gf rd_S0 28 4 2 = some (none) := by decide +kernel
theorem gf_28_3 : rd_gf rd_S0 28 4 3 = some (none) := by decide +kernel
theorem gf_28_4 : rd_gf rd_S0 28 4 4 = some (none) := by decide +kernel
theorem gf_31_0 : rd_gf rd_S0 31 7 0 = some (some (.ref 1)) := by decide +kernel
theorem gf_31_1 : rd_gf rd_S0 31 7 1 = some (some (.ref 9)) := by decide +kernel
theorem gf_31_2 : rd_gf rd_S0 31 7 2 = some (some (.ref 14)) := by decide +kernel
theorem gf_31_3 : rd_gf rd_S0 31 7 3 = some (some (.ref 28)) := by decide +kernel
theorem gf_31_4 : rd_gf rd_S0 31 7 4 = some (some (.ref 30)) := by decide +kernel
theorem gf_31_5 : rd_gf rd_S0 31 7 5 = some (some (.ref 32)) := by decide +kernel
theorem gf_31_6 : rd_gf rd_S0 31 7 6 = some (none) := by decide +kernel
theorem gf_31_7 : rd_gf rd_S0 31 7 7 = some (none) := by decide +kernel
theorem gf_33_0 : rd_gf rd_S0 33 2 0 = some (some (.ref 34)) := by decide +kernel
theorem gf_33_1 : rd_gf rd_S0 33 2 1 = some (some (.ref 41)) := by decide +kernel
theorem gf_33_2 : rd_gf rd_S0 33 2 2 = some (some (.ref 42)) := by decide +kernel
theorem gf_33_3 : rd_gf rd_S0 33 2 3 = some (none) := by decide +kernel
theorem gf_33_4 : rd_gf rd_S0 33 2 4 = some (some (.ref 43)) := by decide +kernel
theorem gf_33_5 : rd_gf rd_S0 33 2 5 = some (some (.ref 44)) := by decide +kernel
theorem gf_33_6 : rd_gf rd_S0 33 2 6 = some (some (.ref 45)) := by decide +kernel
theorem gf_33_7 : rd_gf rd_S0 33 2 7 = some (some (.ref 46)) := by decide +kernel
theorem gf_33_8 : rd_gf rd_S0 33 2 8 = some (some (.ref 47)) := by decide +kernel
theorem gf_33_9 : rd_gf rd_S0 33 2 9 = some (some (.ref 48)) := by decide +kernel
theorem gf_34_0 : rd_gf rd_S0 34 5 0 = some (none) := by decide +kernel
theorem gf_34_1 : rd_gf rd_S0 34 5 1 = some (some (.ref 1)) := by decide +kernel
theorem gf_34_2 : rd_gf rd_S0 34 5 2 = some (some (.ref 9)) := by decide +kernel
theorem gf_34_3 : rd_gf rd_S0 34 5 3 = some (none) := by decide +kernel
theorem gf_34_4 : rd_gf rd_S0 34 5 4 = some (some (.ref 35)) := by decide +kernel
theorem gf_34_5 : rd_gf rd_S0 34 5 5 = some (some (.ref 36)) := by decide +kernel
theorem gf_34_6 : rd_gf rd_S0 34 5 6 = some (some (.ref 37)) := by decide +kernel
theorem gf_34_7 : rd_gf rd_S0 34 5 7 = some (some (.ref 38)) := by decide +kernel
theorem gf_34_8 : rd_gf rd_S0 34 5 8 = some (some (.ref 39)) := by decide +kernel
theorem gf_34_9 : rd_gf rd_S0 34 5 9 = some (some (.ref 40)) := by decide +kernel
theorem gf_49_0 : rd_gf rd_S0 49 10 0 = some (some (.ref 50)) := by decide +kernel
theorem gf_49_1 : rd_gf rd_S0 49 10 1 = some (none) := by decide +kernel
theorem gf_51_0 : rd_gf rd_S0 51 1 0 = some (none) := by decide +kernel
theorem gf_51_1 : rd_gf rd_S0 51 1 1 = some (some (.ref 52)) := by decide +kernel
theorem gf_51_2 : rd_gf rd_S0 51 1 2 = some (some (.ref 53)) := by decide +kernel
theorem gf_51_3 : rd_gf rd_S0 51 1 3 = some (some (.ref 54)) := by decide +kernel
theorem gf_51_4 : rd_gf rd_S0 51 1 4 = some (some (.ref 55)) := by decide +kernel
theorem gf_56_0 : rd_gf rd_S0 56 0 0 = some (some (.ref 51)) := by decide +kernel
theorem gf_56_1 : rd_gf rd_S0 56 0 1 = some (some (.ref 1)) := by decide +kernel
theorem gf_56_2 : rd_gf rd_S0 56 0 2 = some (some (.ref 9)) := by decide +kernel
theorem gf_56_3 : rd_gf rd_S0 56 0 3 = some (some (.ref 31)) := by decide +kernel
theorem gf_56_4 : rd_gf rd_S0 56 0 4 = some (some (.ref 57)) := by decide +kernel
theorem gf_56_5 : rd_gf rd_S0 56 0 5 = some (some (.ref 61)) := by decide +kernel
theorem gf_56_6 : rd_gf rd_S0 56 0 6 = some (some (.ref 62)) := by decide +kernel
theorem gf_56_7 : rd_gf rd_S0 56 0 7 = some (some (.ref 63)) := by decide +kernel
theorem gf_56_8 : rd_gf rd_S0 56 0 8 = some (none) := by decide +kernel
theorem gf_56_9 : rd_gf rd_S0 56 0 9 = some (none) := by decide +kernel
theorem gf_56_10 : rd_gf rd_S0 56 0 10 = some (none) := by decide +kernel
theorem gf_57_0 : rd_gf rd_S0 57 9 0 = some (none) := by decide +kernel
theorem gf_57_1 : rd_gf rd_S0 57 9 1 = some (some (.ref 58)) := by decide +kernel
theorem gf_57_2 : rd_gf rd_S0 57 9 2 = some (some (.ref 59)) := by decide +kernel
theorem gf_57_3 : rd_gf rd_S0 57 9 3 = some (some (.ref 60)) := by decide +kernel
theorem gf_64_0 : rd_gf rd_S0 64 12 0 = some (none) := by decide +kernel
theorem gf_64_1 : rd_gf rd_S0 64 12 1 = some (some (.ref 65)) := by decide +kernel
theorem gf_64_2 : rd_gf rd_S0 64 12 2 = some (some (.ref 66)) := by decide +kernel
theorem gf_64_3 : rd_gf rd_S0 64 12 3 = some (some (.ref 67)) := by decide +kernel
theorem gf_64_4 : rd_gf rd_S0 64 12 4 = some (some (.ref 68)) := by decide +kernel
theorem gf_64_5 : rd_gf rd_S0 64 12 5 = some (some (.ref 69)) := by decide +kernel
theorem gf_64_6 : rd_gf rd_S0 64 12 6 = some (some (.ref 70)) := by decide +kernel
theorem gf_64_7 : rd_gf rd_S0 64 12 7 = some (none) := by decide +kernel
theorem gf_64_8 : rd_gf rd_S0 64 12 8 = some (some (.ref 71)) := by decide +kernel
theorem gf_64_9 : rd_gf rd_S0 64 12 9 = some (some (.ref 72)) := by decide +kernel
theorem gf_64_10 : rd_gf rd_S0 64 12 10 = some (some (.ref 73)) := by decide +kernel
theorem gf_64_11 : rd_gf rd_S0 64 12 11 = some (some (.ref 74)) := by decide +kernel
theorem gf_64_12 : rd_gf rd_S0 64 12 12 = some (some (.ref 75)) := by decide +kernel
theorem gf_64_13 : rd_gf rd_S0 64 12 13 = some (some (.ref 76)) := by decide +kernel
theorem gf_64_14 : rd_gf rd_S0 64 12 14 = some (some (.ref 77)) := by decide +kernel
theorem gf_64_15 : rd_gf rd_S0 64 12 15 = some (some (.ref 78)) := by decide +kernel
theorem gf_64_16 : rd_gf rd_S0 64 12 16 = some (none) := by decide +kernel
theorem gf_64_17 : rd_gf rd_S0 64 12 17 = some (some (.ref 79)) := by decide +kernel
theorem gf_64_18 : rd_gf rd_S0 64 12 18 = some (some (.ref 80)) := by decide +kernel
theorem gf_64_19 : rd_gf rd_S0 64 12 19 = some (some (.ref 81)) := by decide +kernel
theorem gf_64_20 : rd_gf rd_S0 64 12 20 = some (some (.ref 82)) := by decide +kernel
theorem gf_64_21 : rd_gf rd_S0 64 12 21 = some (some (.ref 83)) := by decide +kernel
theorem gf_64_22 : rd_gf rd_S0 64 12 22 = some (some (.ref 84)) := by decide +kernel
theorem gf_64_23 : rd_gf rd_S0 64 12 23 = some (none) := by decide +kernel
theorem gf_64_24 : rd_gf rd_S0 64 12 24 = some (none) := by decide +kernel
theorem gf_64_25 : rd_gf rd_S0 64 12 25 = some (some (.ref 85)) := by decide +kernel
theorem gf_64_26 : rd_gf rd_S0 64 12 26 = some (none) := by decide +kernel
theorem gf_64_27 : rd_gf rd_S0 64 12 27 = some (some (.ref 86)) := by decide +kernel
theorem gf_64_28 : rd_gf rd_S0 64 12 28 = some (none) := by decide +kernel
theorem gf_64_29 : rd_gf rd_S0 64 12 29 = some (none) := by decide +kernel
theorem gf_64_30 : rd_gf rd_S0 64 12 30 = some (none) := by decide +kernel
theorem gf_64_31 : rd_gf rd_S0 64 12 31 = some (none) := by decide +kernel
theorem gf_64_32 : rd_gf rd_S0 64 12 32 = some (none) := by decide +kernel
theorem gf_64_33 : rd_gf rd_S0 64 12 33 = some (some (.ref 87)) := by decide +kernel
theorem gf_64_34 : rd_gf rd_S0 64 12 34 = some (some (.ref 88)) := by decide +kernel
theorem gf_64_35 : rd_gf rd_S0 64 12 35 = some (none) := by decide +kernel
theorem gf_64_36 : rd_gf rd_S0 64 12 36 = some (some (.ref 89)) := by decide +kernel
theorem gf_64_37 : rd_gf rd_S0 64 12 37 = some (some (.ref 90)) := by decide +kernel
theorem gf_64_38 : rd_gf rd_S0 64 12 38 = some (some (.ref 91)) := by decide +kernel
theorem gf_64_39 : rd_gf rd_S0 64 12 39 = some (none) := by decide +kernel
theorem gf_64_40 : rd_gf rd_S0 64 12 40 = some (some (.ref 92)) := by decide +kernel
theorem gf_64_41 : rd_gf rd_S0 64 12 41 = some (none) := by decide +kernel
theorem gf_64_42 : rd_gf rd_S0 64 12 42 = some (some (.ref 93)) := by decide +kernel
theorem gf_64_43 : rd_gf rd_S0 64 12 43 = some (some (.ref 94)) := by decide +kernel
theorem gf_64_44 : rd_gf rd_S0 64 12 44 = some (some (.ref 95)) := by decide +kernel
theorem gf_64_45 : rd_gf rd_S0 64 12 45 = some (some (.ref 96)) := by decide +kernel
theorem gf_64_46 : rd_gf rd_S0 64 12 46 = some (some (.ref 97)) := by decide +kernel
theorem gf_64_47 : rd_gf rd_S0 64 12 47 = some (some (.ref 98)) := by decide +kernel
theorem gf_64_48 : rd_gf rd_S0 64 12 48 = some (none) := by decide +kernel
theorem gf_64_49 : rd_gf rd_S0 64 12 49 = some (none) := by decide +kernel
theorem gf_64_50 : rd_gf rd_S0 64 12 50 = some (none) := by decide +kernel
theorem gf_64_51 : rd_gf rd_S0 64 12 51 = some (some (.ref 99)) := by decide +kernel
theorem gf_64_52 : rd_gf rd_S0 64 12 52 = some (none) := by decide +kernel
theorem gf_64_53 : rd_gf rd_S0 64 12 53 = some (some (.ref 100)) := by decide +kernel
theorem gf_64_54 : rd_gf rd_S0 64 12 54 = some (some (.ref 101)) := by decide +kernel
theorem gf_64_55 : rd_gf rd_S0 64 12 55 = some (some (.ref 102)) := by decide +kernel
theorem gf_64_56 : rd_gf rd_S0 64 12 56 = some (none) := by decide +kernel
theorem gf_64_57 : rd_gf rd_S0 64 12 57 = some (none) := by decide +kernel
theorem gf_64_58 : rd_gf rd_S0 64 12 58 = some (none) := by decide +kernel
theorem ar_2 : rd_nth rd_S0 2 = some (.inl (12, false)) := by decide +kernel
theorem ar_3 : rd_nth rd_S0 3 = some (.inl (12, false)) := by decide +kernel
theorem ar_4 : rd_nth rd_S0 4 = some (.inl (12, true)) := by decide +kernel
theorem ar_5 : rd_nth rd_S0 5 = some (.inl (96, false)) := by decide +kernel
theorem ar_6 : rd_nth rd_S0 6 = some (.inl (96, false)) := by decide +kernel
theorem ar_7 : rd_nth rd_S0 7 = some (.inl (96, false)) := by decide +kernel
theorem ar_8 : rd_nth rd_S0 8 = some (.inl (96, false)) := by decide +kernel
theorem ar_10 : rd_nth rd_S0 10 = some (.inl (24, false)) := by decide +kernel
theorem ar_11 : rd_nth rd_S0 11 = some (.inl (24, false)) := by decide +kernel
theorem ar_12 : rd_nth rd_S0 12 = some (.inl (24, false)) := by decide +kernel
theorem ar_13 : rd_nth rd_S0 13 = some (.inl (24, true)) := by decide +kernel
theorem ar_16 : rd_nth rd_S0 16 = some (.inl (80, false)) := by decide +kernel
theorem ar_17 : rd_nth rd_S0 17 = some (.inl (80, false)) := by decide +kernel
theorem ar_18 : rd_nth rd_S0 18 = some (.inl (80, false)) := by decide +kernel
theorem ar_19 : rd_nth rd_S0 19 = some (.inl (240, false)) := by decide +kernel
theorem ar_20 : rd_nth rd_S0 20 = some (.inl (240, false)) := by decide +kernel
theorem ar_21 : rd_nth rd_S0 21 = some (.inl (240, false)) := by decide +kernel
theorem ar_22 : rd_nth rd_S0 22 = some (.inl (80, false)) := by decide +kernel
theorem ar_23 : rd_nth rd_S0 23 = some (.inl (480, false)) := by decide +kernel
theorem ar_24 : rd_nth rd_S0 24 = some (.inl (480, false)) := by decide +kernel
theorem ar_25 : rd_nth rd_S0 25 = some (.inl (80, false)) := by decide +kernel
theorem ar_26 : rd_nth rd_S0 26 = some (.inl (240, true)) := by decide +kernel
theorem ar_27 : rd_nth rd_S0 27 = some (.inl (240, false)) := by decide +kernel
theorem ar_29 : rd_nth rd_S0 29 = some (.inl (4500, false)) := by decide +kernel
theorem ar_30 : rd_nth rd_S0 30 = some (.inl (9, false)) := by decide +kernel
theorem ar_32 : rd_nth rd_S0 32 = some (.inl (6, false)) := by decide +kernel
theorem ar_35 : rd_nth rd_S0 35 = some (.inl (40, false)) := by decide +kernel
theorem ar_36 : rd_nth rd_S0 36 = some (.inl (40, false)) := by decide +kernel
theorem ar_37 : rd_nth rd_S0 37 = some (.inl (40, false)) := by decide +kernel
theorem ar_38 : rd_nth rd_S0 38 = some (.inl (120, false)) := by decide +kernel
theorem ar_39 : rd_nth rd_S0 39 = some (.inl (120, false)) := by decide +kernel
theorem ar_40 : rd_nth rd_S0 40 = some (.inl (120, false)) := by decide +kernel
theorem ar_41 : rd_nth rd_S0 41 = some (.inl (40, false)) := by decide +kernel
theorem ar_42 : rd_nth rd_S0 42 = some (.inl (40, false)) := by decide +kernel
theorem ar_43 : rd_nth rd_S0 43 = some (.inl (40, false)) := by decide +kernel
theorem ar_44 : rd_nth rd_S0 44 = some (.inl (40, false)) := by decide +kernel
theorem ar_45 : rd_nth rd_S0 45 = some (.inl (40, false)) := by decide +kernel
theorem ar_46 : rd_nth rd_S0 46 = some (.inl (40, false)) := by decide +kernel
theorem ar_47 : rd_nth rd_S0 47 = some (.inl (40, false)) := by decide +kernel
theorem ar_48 : rd_nth rd_S0 48 = some (.inl (500, true)) := by decide +kernel
theorem ar_50 : rd_nth rd_S0 50 = some (.inl (180, false)) := by decide +kernel
theorem ar_52 : rd_nth rd_S0 52 = some (.inl (60, false)) := by decide +kernel
theorem ar_53 : rd_nth rd_S0 53 = some (.inl (60, false)) := by decide +kernel
theorem ar_54 : rd_nth rd_S0 54 = some (.inl (60, false)) := by decide +kernel
theorem ar_55 : rd_nth rd_S0 55 = some (.inl (60, false)) := by decide +kernel
theorem ar_58 : rd_nth rd_S0 58 = some (.inl (10, false)) := by decide +kernel
theorem ar_59 : rd_nth rd_S0 59 = some (.inl (10, false)) := by decide +kernel
theorem ar_60 : rd_nth rd_S0 60 = some (.inl (10, false)) := by decide +kernel
theorem ar_61 : rd_nth rd_S0 61 = some (.inl (8, false)) := by decide +kernel
theorem ar_62 : rd_nth rd_S0 62 = some (.inl (4, false)) := by decide +kernel
theorem ar_63 : rd_nth rd_S0 63 = some (.inl (100, false)) := by decide +kernel
theorem ar_65 : rd_nth rd_S0 65 = some (.inl (12, false)) := by decide +kernel
theorem ar_66 : rd_nth rd_S0 66 = some (.inl (12, false)) := by decide +kernel
theorem ar_67 : rd_nth rd_S0 67 = some (.inl (96, false)) := by decide +kernel
theorem ar_68 : rd_nth rd_S0 68 = some (.inl (96, false)) := by decide +kernel
theorem ar_69 : rd_nth rd_S0 69 = some (.inl (96, false)) := by decide +kernel
theorem ar_70 : rd_nth rd_S0 70 = some (.inl (96, false)) := by decide +kernel
theorem ar_71 : rd_nth rd_S0 71 = some (.inl (24, false)) := by decide +kernel
theorem ar_72 : rd_nth rd_S0 72 = some (.inl (24, false)) := by decide +kernel
theorem ar_73 : rd_nth rd_S0 73 = some (.inl (6, false)) := by decide +kernel
theorem ar_74 : rd_nth rd_S0 74 = some (.inl (120, false)) := by decide +kernel
theorem ar_75 : rd_nth rd_S0 75 = some (.inl (120, false)) := by decide +kernel
theorem ar_76 : rd_nth rd_S0 76 = some (.inl (360, false)) := by decide +kernel
theorem ar_77 : rd_nth rd_S0 77 = some (.inl (360, false)) := by decide +kernel
theorem ar_78 : rd_nth rd_S0 78 = some (.inl (360, false)) := by decide +kernel
theorem ar_79 : rd_nth rd_S0 79 = some (.inl (80, false)) := by decide +kernel
theorem ar_80 : rd_nth rd_S0 80 = some (.inl (480, false)) := by decide +kernel
theorem ar_81 : rd_nth rd_S0 81 = some (.inl (480, false)) := by decide +kernel
theorem ar_82 : rd_nth rd_S0 82 = some (.inl (80, false)) := by decide +kernel
theorem ar_83 : rd_nth rd_S0 83 = some (.inl (240, true)) := by decide +kernel
theorem ar_84 : rd_nth rd_S0 84 = some (.inl (240, false)) := by decide +kernel
theorem ar_85 : rd_nth rd_S0 85 = some (.inl (4500, false)) := by decide +kernel
theorem ar_86 : rd_nth rd_S0 86 = some (.inl (4, false)) := by decide +kernel
theorem ar_87 : rd_nth rd_S0 87 = some (.inl (40, false)) := by decide +kernel
theorem ar_88 : rd_nth rd_S0 88 = some (.inl (40, false)) := by decide +kernel
theorem ar_89 : rd_nth rd_S0 89 = some (.inl (40, false)) := by decide +kernel
theorem ar_90 : rd_nth rd_S0 90 = some (.inl (40, false)) := by decide +kernel
theorem ar_91 : rd_nth rd_S0 91 = some (.inl (24, true)) := by decide +kernel
theorem ar_92 : rd_nth rd_S0 92 = some (.inl (180, false)) := by decide +kernel
theorem ar_93 : rd_nth rd_S0 93 = some (.inl (60, false)) := by decide +kernel
theorem ar_94 : rd_nth rd_S0 94 = some (.inl (60, false)) := by decide +kernel
theorem ar_95 : rd_nth rd_S0 95 = some (.inl (60, false)) := by decide +kernel
theorem ar_96 : rd_nth rd_S0 96 = some (.inl (60, false)) := by decide +kernel
theorem ar_97 : rd_nth rd_S0 97 = some (.inl (8, false)) := by decide +kernel
theorem ar_98 : rd_nth rd_S0 98 = some (.inl (4, false)) := by decide +kernel
theorem ar_99 : rd_nth rd_S0 99 = some (.inl (100, false)) := by decide +kernel
theorem ar_100 : rd_nth rd_S0 100 = some (.inl (10, false)) := by decide +kernel
theorem ar_101 : rd_nth rd_S0 101 = some (.inl (10, false)) := by decide +kernel
theorem ar_102 : rd_nth rd_S0 102 = some (.inl (10, false)) := by decide +kernel
theorem ar_no_100000 : rd_nth rd_S0 100000 = none := by rw [rd_nth_get]; exact List.getElem?_eq_none (by decide +kernel)
theorem ar_no_100001 : rd_nth rd_S0 100001 = none := by rw [rd_nth_get]; exact List.getElem?_eq_none (by decide +kernel)
theorem ro_100000 {ρ : Nat × (Nat → Int32)} : rd_ro ρ 100000 = some (60, rd_lim) := rfl
theorem ro_100001 {ρ : Nat × (Nat → Int32)} : rd_ro ρ 100001 = some (ρ.1, ρ.2) := rfl
