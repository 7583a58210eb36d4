variable {B : Nat}
/-! The law: one call of each. -/
theorem kb_31 : (Int8.ofInt 31).toInt32 = (31 : Int32) := by decide
abbrev lwV (n : Nat) : rd_Lv := [some (.ref 100001), some (.ref 0), some (.ref 64), some (.int (nI n))]
theorem r_scr {ρ : Nat × (Nat → Int32)} {k i pc len : Nat} {aux : List Nat} {vs : rd_Lv} {st : List Value} {σ : rd_Sg} {n c : Nat} {C : Int32} (hl : rd_look k i = some (pc, .iaload, len, aux)) (hC : C = nI c) (hn : n + 5 < ρ.1) (hL : ρ.1 ≤ 3072) (hc : c ≤ 5) : rd_R ρ k i vs (.int (nI n + C) :: .ref 100001 :: st) σ = rd_R ρ k (i + 1) vs (.int (ρ.2 (n + c)) :: st) σ := by
  refine (r_oald hl ar_no_100001 ro_100001).trans ?_
  rw [a_lit hC, b_chk (by omega) (by omega), nI_clamp (by omega)]
theorem r_scr0 {ρ : Nat × (Nat → Int32)} {k i pc len : Nat} {aux : List Nat} {vs : rd_Lv} {st : List Value} {σ : rd_Sg} {n : Nat} (hl : rd_look k i = some (pc, .iaload, len, aux)) (hn : n + 5 < ρ.1) (hL : ρ.1 ≤ 3072) : rd_R ρ k i vs (.int (nI n) :: .ref 100001 :: st) σ = rd_R ρ k (i + 1) vs (.int (ρ.2 n) :: st) σ := by
  refine (r_oald hl ar_no_100001 ro_100001).trans ?_
  rw [b_chk (by omega) (by omega), nI_clamp (by omega)]
set_option maxRecDepth 100000 in
set_option maxHeartbeats 4000000 in
theorem lw_c0 (ρ : Nat × (Nat → Int32)) (σ : rd_Sg) {n : Nat} (hn : n + 5 < ρ.1) (hL : ρ.1 ≤ 3072) : rd_R ρ 194 22 (lwV n) [] σ = (rd_R ρ 108 0 [some (.ref 0), some (.int (ρ.2 (n + 1)))] [] σ).bind fun q1 => (rd_R ρ 138 0 [some (.ref 64), some (.int (ρ.2 (n + 1))), none, none, none] [] q1.2).bind fun q2 => if q1.1 = q2.1 then rd_R ρ 194 762 (lwV n) [] q2.2 else some (0, q2.2) := by
  refine (r_aload_n L_194_22 rfl).trans ?_
  refine (r_aload_n L_194_23 rfl).trans ?_
  refine (r_iload_n L_194_24 rfl).trans ?_
  refine (r_iconst L_194_25 ki_1).trans ?_
  refine (r_iadd L_194_26).trans ?_
  refine (r_scr (c := 1) L_194_27 (by decide) hn hL (by decide)).trans ?_
  refine (r_callV L_194_28 rfl isI_108 rfl).trans ?_
  refine bi_c (fun q1 => ?_)
  refine (r_aload_n L_194_29 rfl).trans ?_
  refine (r_aload_n L_194_30 rfl).trans ?_
  refine (r_iload_n L_194_31 rfl).trans ?_
  refine (r_iconst L_194_32 ki_1).trans ?_
  refine (r_iadd L_194_33).trans ?_
  refine (r_scr (c := 1) L_194_34 (by decide) hn hL (by decide)).trans ?_
  refine (r_callV L_194_35 rfl isI_138 rfl).trans ?_
  refine bi_c (fun q2 => ?_)
  refine (r_cmpeq L_194_36).trans ?_
  refine it_c rfl ?_
  refine (r_iconst L_194_37 ki_0).trans ?_
  exact r_ret L_194_38 mz_194
set_option maxRecDepth 100000 in
set_option maxHeartbeats 4000000 in
theorem lw_c1 (ρ : Nat × (Nat → Int32)) (σ : rd_Sg) {n : Nat} (hn : n + 5 < ρ.1) (hL : ρ.1 ≤ 3072) : rd_R ρ 194 39 (lwV n) [] σ = (rd_R ρ 109 0 [some (.ref 0), some (.int (ρ.2 (n + 1))), some (.int (ρ.2 (n + 2))), some (.int (ρ.2 (n + 3))), some (.int (ρ.2 (n + 4))), some (.int (ρ.2 (n + 5)))] [] σ).bind fun q1 => (rd_R ρ 140 0 [some (.ref 64), some (.int (ρ.2 (n + 1))), some (.int (ρ.2 (n + 2))), some (.int (ρ.2 (n + 3))), some (.int (ρ.2 (n + 4))), some (.int (ρ.2 (n + 5))), none, none] [] q1.2).bind fun q2 => if q1.1 = q2.1 then rd_R ρ 194 762 (lwV n) [] q2.2 else some (0, q2.2) := by
  refine (r_aload_n L_194_39 rfl).trans ?_
  refine (r_aload_n L_194_40 rfl).trans ?_
  refine (r_iload_n L_194_41 rfl).trans ?_
  refine (r_iconst L_194_42 ki_1).trans ?_
  refine (r_iadd L_194_43).trans ?_
  refine (r_scr (c := 1) L_194_44 (by decide) hn hL (by decide)).trans ?_
  refine (r_aload_n L_194_45 rfl).trans ?_
  refine (r_iload_n L_194_46 rfl).trans ?_
  refine (r_iconst L_194_47 ki_2).trans ?_
  refine (r_iadd L_194_48).trans ?_
  refine (r_scr (c := 2) L_194_49 (by decide) hn hL (by decide)).trans ?_
  refine (r_aload_n L_194_50 rfl).trans ?_
  refine (r_iload_n L_194_51 rfl).trans ?_
  refine (r_iconst L_194_52 ki_3).trans ?_
  refine (r_iadd L_194_53).trans ?_
  refine (r_scr (c := 3) L_194_54 (by decide) hn hL (by decide)).trans ?_
  refine (r_aload_n L_194_55 rfl).trans ?_
  refine (r_iload_n L_194_56 rfl).trans ?_
  refine (r_iconst L_194_57 ki_4).trans ?_
  refine (r_iadd L_194_58).trans ?_
  refine (r_scr (c := 4) L_194_59 (by decide) hn hL (by decide)).trans ?_
  refine (r_aload_n L_194_60 rfl).trans ?_
  refine (r_iload_n L_194_61 rfl).trans ?_
  refine (r_iconst L_194_62 ki_5).trans ?_
  refine (r_iadd L_194_63).trans ?_
  refine (r_scr (c := 5) L_194_64 (by decide) hn hL (by decide)).trans ?_
  refine (r_callV L_194_65 rfl isI_109 rfl).trans ?_
  refine bi_c (fun q1 => ?_)
  refine (r_aload_n L_194_66 rfl).trans ?_
  refine (r_aload_n L_194_67 rfl).trans ?_
  refine (r_iload_n L_194_68 rfl).trans ?_
  refine (r_iconst L_194_69 ki_1).trans ?_
  refine (r_iadd L_194_70).trans ?_
  refine (r_scr (c := 1) L_194_71 (by decide) hn hL (by decide)).trans ?_
  refine (r_aload_n L_194_72 rfl).trans ?_
  refine (r_iload_n L_194_73 rfl).trans ?_
  refine (r_iconst L_194_74 ki_2).trans ?_
  refine (r_iadd L_194_75).trans ?_
  refine (r_scr (c := 2) L_194_76 (by decide) hn hL (by decide)).trans ?_
  refine (r_aload_n L_194_77 rfl).trans ?_
  refine (r_iload_n L_194_78 rfl).trans ?_
  refine (r_iconst L_194_79 ki_3).trans ?_
  refine (r_iadd L_194_80).trans ?_
  refine (r_scr (c := 3) L_194_81 (by decide) hn hL (by decide)).trans ?_
  refine (r_aload_n L_194_82 rfl).trans ?_
  refine (r_iload_n L_194_83 rfl).trans ?_
  refine (r_iconst L_194_84 ki_4).trans ?_
  refine (r_iadd L_194_85).trans ?_
  refine (r_scr (c := 4) L_194_86 (by decide) hn hL (by decide)).trans ?_
  refine (r_aload_n L_194_87 rfl).trans ?_
  refine (r_iload_n L_194_88 rfl).trans ?_
  refine (r_iconst L_194_89 ki_5).trans ?_
  refine (r_iadd L_194_90).trans ?_
  refine (r_scr (c := 5) L_194_91 (by decide) hn hL (by decide)).trans ?_
  refine (r_callV L_194_92 rfl isI_140 rfl).trans ?_
  refine bi_c (fun q2 => ?_)
  refine (r_cmpeq L_194_93).trans ?_
  refine it_c rfl ?_
  refine (r_iconst L_194_94 ki_0).trans ?_
  exact r_ret L_194_95 mz_194
set_option maxRecDepth 100000 in
set_option maxHeartbeats 4000000 in
theorem lw_c2 (ρ : Nat × (Nat → Int32)) (σ : rd_Sg) {n : Nat} (hn : n + 5 < ρ.1) (hL : ρ.1 ≤ 3072) : rd_R ρ 194 96 (lwV n) [] σ = (rd_R ρ 110 0 [some (.ref 0), some (.int (ρ.2 (n + 1))), some (.int (ρ.2 (n + 2)))] [] σ).bind fun q1 => (rd_R ρ 141 0 [some (.ref 64), some (.int (ρ.2 (n + 1))), some (.int (ρ.2 (n + 2)))] [] q1.2).bind fun q2 => if q1.1 = q2.1 then rd_R ρ 194 762 (lwV n) [] q2.2 else some (0, q2.2) := by
  refine (r_aload_n L_194_96 rfl).trans ?_
  refine (r_aload_n L_194_97 rfl).trans ?_
  refine (r_iload_n L_194_98 rfl).trans ?_
  refine (r_iconst L_194_99 ki_1).trans ?_
  refine (r_iadd L_194_100).trans ?_
  refine (r_scr (c := 1) L_194_101 (by decide) hn hL (by decide)).trans ?_
  refine (r_aload_n L_194_102 rfl).trans ?_
  refine (r_iload_n L_194_103 rfl).trans ?_
  refine (r_iconst L_194_104 ki_2).trans ?_
  refine (r_iadd L_194_105).trans ?_
  refine (r_scr (c := 2) L_194_106 (by decide) hn hL (by decide)).trans ?_
  refine (r_callV L_194_107 rfl isI_110 rfl).trans ?_
  refine bi_c (fun q1 => ?_)
  refine (r_aload_n L_194_108 rfl).trans ?_
  refine (r_aload_n L_194_109 rfl).trans ?_
  refine (r_iload_n L_194_110 rfl).trans ?_
  refine (r_iconst L_194_111 ki_1).trans ?_
  refine (r_iadd L_194_112).trans ?_
  refine (r_scr (c := 1) L_194_113 (by decide) hn hL (by decide)).trans ?_
  refine (r_aload_n L_194_114 rfl).trans ?_
  refine (r_iload_n L_194_115 rfl).trans ?_
  refine (r_iconst L_194_116 ki_2).trans ?_
  refine (r_iadd L_194_117).trans ?_
  refine (r_scr (c := 2) L_194_118 (by decide) hn hL (by decide)).trans ?_
  refine (r_callV L_194_119 rfl isI_141 rfl).trans ?_
  refine bi_c (fun q2 => ?_)
  refine (r_cmpeq L_194_120).trans ?_
  refine it_c rfl ?_
  refine (r_iconst L_194_121 ki_0).trans ?_
  exact r_ret L_194_122 mz_194
set_option maxRecDepth 100000 in
set_option maxHeartbeats 4000000 in
theorem lw_c3 (ρ : Nat × (Nat → Int32)) (σ : rd_Sg) {n : Nat} (hn : n + 5 < ρ.1) (hL : ρ.1 ≤ 3072) : rd_R ρ 194 123 (lwV n) [] σ = (rd_R ρ 111 0 [some (.ref 0), some (.int (ρ.2 (n + 1))), some (.int (ρ.2 (n + 2)))] [] σ).bind fun q1 => (rd_R ρ 143 0 [some (.ref 64), some (.int (ρ.2 (n + 1))), some (.int (ρ.2 (n + 2)))] [] q1.2).bind fun q2 => if q1.1 = q2.1 then rd_R ρ 194 762 (lwV n) [] q2.2 else some (0, q2.2) := by
  refine (r_aload_n L_194_123 rfl).trans ?_
  refine (r_aload_n L_194_124 rfl).trans ?_
  refine (r_iload_n L_194_125 rfl).trans ?_
  refine (r_iconst L_194_126 ki_1).trans ?_
  refine (r_iadd L_194_127).trans ?_
  refine (r_scr (c := 1) L_194_128 (by decide) hn hL (by decide)).trans ?_
  refine (r_aload_n L_194_129 rfl).trans ?_
  refine (r_iload_n L_194_130 rfl).trans ?_
  refine (r_iconst L_194_131 ki_2).trans ?_
  refine (r_iadd L_194_132).trans ?_
  refine (r_scr (c := 2) L_194_133 (by decide) hn hL (by decide)).trans ?_
  refine (r_callV L_194_134 rfl isI_111 rfl).trans ?_
  refine bi_c (fun q1 => ?_)
  refine (r_aload_n L_194_135 rfl).trans ?_
  refine (r_aload_n L_194_136 rfl).trans ?_
  refine (r_iload_n L_194_137 rfl).trans ?_
  refine (r_iconst L_194_138 ki_1).trans ?_
  refine (r_iadd L_194_139).trans ?_
  refine (r_scr (c := 1) L_194_140 (by decide) hn hL (by decide)).trans ?_
  refine (r_aload_n L_194_141 rfl).trans ?_
  refine (r_iload_n L_194_142 rfl).trans ?_
  refine (r_iconst L_194_143 ki_2).trans ?_
  refine (r_iadd L_194_144).trans ?_
  refine (r_scr (c := 2) L_194_145 (by decide) hn hL (by decide)).trans ?_
  refine (r_callV L_194_146 rfl isI_143 rfl).trans ?_
  refine bi_c (fun q2 => ?_)
  refine (r_cmpeq L_194_147).trans ?_
  refine it_c rfl ?_
  refine (r_iconst L_194_148 ki_0).trans ?_
  exact r_ret L_194_149 mz_194
set_option maxRecDepth 100000 in
set_option maxHeartbeats 4000000 in
theorem lw_c4 (ρ : Nat × (Nat → Int32)) (σ : rd_Sg) {n : Nat} (hn : n + 5 < ρ.1) (hL : ρ.1 ≤ 3072) : rd_R ρ 194 150 (lwV n) [] σ = (rd_R ρ 112 0 [some (.ref 0), some (.int (ρ.2 (n + 1)))] [] σ).bind fun q1 => (rd_R ρ 144 0 [some (.ref 64), some (.int (ρ.2 (n + 1)))] [] q1.2).bind fun q2 => if q1.1 = q2.1 then rd_R ρ 194 762 (lwV n) [] q2.2 else some (0, q2.2) := by
  refine (r_aload_n L_194_150 rfl).trans ?_
  refine (r_aload_n L_194_151 rfl).trans ?_
  refine (r_iload_n L_194_152 rfl).trans ?_
  refine (r_iconst L_194_153 ki_1).trans ?_
  refine (r_iadd L_194_154).trans ?_
  refine (r_scr (c := 1) L_194_155 (by decide) hn hL (by decide)).trans ?_
  refine (r_callV L_194_156 rfl isI_112 rfl).trans ?_
  refine bi_c (fun q1 => ?_)
  refine (r_aload_n L_194_157 rfl).trans ?_
  refine (r_aload_n L_194_158 rfl).trans ?_
  refine (r_iload_n L_194_159 rfl).trans ?_
  refine (r_iconst L_194_160 ki_1).trans ?_
  refine (r_iadd L_194_161).trans ?_
  refine (r_scr (c := 1) L_194_162 (by decide) hn hL (by decide)).trans ?_
  refine (r_callV L_194_163 rfl isI_144 rfl).trans ?_
  refine bi_c (fun q2 => ?_)
  refine (r_cmpeq L_194_164).trans ?_
  refine it_c rfl ?_
  refine (r_iconst L_194_165 ki_0).trans ?_
  exact r_ret L_194_166 mz_194
set_option maxRecDepth 100000 in
set_option maxHeartbeats 4000000 in
theorem lw_c5 (ρ : Nat × (Nat → Int32)) (σ : rd_Sg) {n : Nat} (hn : n + 5 < ρ.1) (hL : ρ.1 ≤ 3072) : rd_R ρ 194 167 (lwV n) [] σ = (rd_R ρ 113 0 [some (.ref 0), some (.int (ρ.2 (n + 1))), some (.int (ρ.2 (n + 2))), none] [] σ).bind fun q1 => (rd_R ρ 153 0 [some (.ref 64), some (.int (ρ.2 (n + 1))), some (.int (ρ.2 (n + 2))), none] [] q1.2).bind fun q2 => if q1.1 = q2.1 then rd_R ρ 194 762 (lwV n) [] q2.2 else some (0, q2.2) := by
  refine (r_aload_n L_194_167 rfl).trans ?_
  refine (r_aload_n L_194_168 rfl).trans ?_
  refine (r_iload_n L_194_169 rfl).trans ?_
  refine (r_iconst L_194_170 ki_1).trans ?_
  refine (r_iadd L_194_171).trans ?_
  refine (r_scr (c := 1) L_194_172 (by decide) hn hL (by decide)).trans ?_
  refine (r_aload_n L_194_173 rfl).trans ?_
  refine (r_iload_n L_194_174 rfl).trans ?_
  refine (r_iconst L_194_175 ki_2).trans ?_
  refine (r_iadd L_194_176).trans ?_
  refine (r_scr (c := 2) L_194_177 (by decide) hn hL (by decide)).trans ?_
  refine (r_callV L_194_178 rfl isI_113 rfl).trans ?_
  refine bi_c (fun q1 => ?_)
  refine (r_aload_n L_194_179 rfl).trans ?_
  refine (r_aload_n L_194_180 rfl).trans ?_
  refine (r_iload_n L_194_181 rfl).trans ?_
  refine (r_iconst L_194_182 ki_1).trans ?_
  refine (r_iadd L_194_183).trans ?_
  refine (r_scr (c := 1) L_194_184 (by decide) hn hL (by decide)).trans ?_
  refine (r_aload_n L_194_185 rfl).trans ?_
  refine (r_iload_n L_194_186 rfl).trans ?_
  refine (r_iconst L_194_187 ki_2).trans ?_
  refine (r_iadd L_194_188).trans ?_
  refine (r_scr (c := 2) L_194_189 (by decide) hn hL (by decide)).trans ?_
  refine (r_callV L_194_190 rfl isI_153 rfl).trans ?_
  refine bi_c (fun q2 => ?_)
  refine (r_cmpeq L_194_191).trans ?_
  refine it_c rfl ?_
  refine (r_iconst L_194_192 ki_0).trans ?_
  exact r_ret L_194_193 mz_194
set_option maxRecDepth 100000 in
set_option maxHeartbeats 4000000 in
theorem lw_c6 (ρ : Nat × (Nat → Int32)) (σ : rd_Sg) {n : Nat} (hn : n + 5 < ρ.1) (hL : ρ.1 ≤ 3072) : rd_R ρ 194 194 (lwV n) [] σ = (rd_R ρ 114 0 [some (.ref 0), some (.int (ρ.2 (n + 1))), some (.int (ρ.2 (n + 2))), some (.int (ρ.2 (n + 3))), some (.int (ρ.2 (n + 4))), some (.int (ρ.2 (n + 5))), none] [] σ).bind fun q1 => (rd_R ρ 154 0 [some (.ref 64), some (.int (ρ.2 (n + 1))), some (.int (ρ.2 (n + 2))), some (.int (ρ.2 (n + 3))), some (.int (ρ.2 (n + 4))), some (.int (ρ.2 (n + 5))), none] [] q1.2).bind fun q2 => if q1.1 = q2.1 then rd_R ρ 194 762 (lwV n) [] q2.2 else some (0, q2.2) := by
  refine (r_aload_n L_194_194 rfl).trans ?_
  refine (r_aload_n L_194_195 rfl).trans ?_
  refine (r_iload_n L_194_196 rfl).trans ?_
  refine (r_iconst L_194_197 ki_1).trans ?_
  refine (r_iadd L_194_198).trans ?_
  refine (r_scr (c := 1) L_194_199 (by decide) hn hL (by decide)).trans ?_
  refine (r_aload_n L_194_200 rfl).trans ?_
  refine (r_iload_n L_194_201 rfl).trans ?_
  refine (r_iconst L_194_202 ki_2).trans ?_
  refine (r_iadd L_194_203).trans ?_
  refine (r_scr (c := 2) L_194_204 (by decide) hn hL (by decide)).trans ?_
  refine (r_aload_n L_194_205 rfl).trans ?_
  refine (r_iload_n L_194_206 rfl).trans ?_
  refine (r_iconst L_194_207 ki_3).trans ?_
  refine (r_iadd L_194_208).trans ?_
  refine (r_scr (c := 3) L_194_209 (by decide) hn hL (by decide)).trans ?_
  refine (r_aload_n L_194_210 rfl).trans ?_
  refine (r_iload_n L_194_211 rfl).trans ?_
  refine (r_iconst L_194_212 ki_4).trans ?_
  refine (r_iadd L_194_213).trans ?_
  refine (r_scr (c := 4) L_194_214 (by decide) hn hL (by decide)).trans ?_
  refine (r_aload_n L_194_215 rfl).trans ?_
  refine (r_iload_n L_194_216 rfl).trans ?_
  refine (r_iconst L_194_217 ki_5).trans ?_
  refine (r_iadd L_194_218).trans ?_
  refine (r_scr (c := 5) L_194_219 (by decide) hn hL (by decide)).trans ?_
  refine (r_callV L_194_220 rfl isI_114 rfl).trans ?_
  refine bi_c (fun q1 => ?_)
  refine (r_aload_n L_194_221 rfl).trans ?_
  refine (r_aload_n L_194_222 rfl).trans ?_
  refine (r_iload_n L_194_223 rfl).trans ?_
  refine (r_iconst L_194_224 ki_1).trans ?_
  refine (r_iadd L_194_225).trans ?_
  refine (r_scr (c := 1) L_194_226 (by decide) hn hL (by decide)).trans ?_
  refine (r_aload_n L_194_227 rfl).trans ?_
  refine (r_iload_n L_194_228 rfl).trans ?_
  refine (r_iconst L_194_229 ki_2).trans ?_
  refine (r_iadd L_194_230).trans ?_
  refine (r_scr (c := 2) L_194_231 (by decide) hn hL (by decide)).trans ?_
  refine (r_aload_n L_194_232 rfl).trans ?_
  refine (r_iload_n L_194_233 rfl).trans ?_
  refine (r_iconst L_194_234 ki_3).trans ?_
  refine (r_iadd L_194_235).trans ?_
  refine (r_scr (c := 3) L_194_236 (by decide) hn hL (by decide)).trans ?_
  refine (r_aload_n L_194_237 rfl).trans ?_
  refine (r_iload_n L_194_238 rfl).trans ?_
  refine (r_iconst L_194_239 ki_4).trans ?_
  refine (r_iadd L_194_240).trans ?_
  refine (r_scr (c := 4) L_194_241 (by decide) hn hL (by decide)).trans ?_
  refine (r_aload_n L_194_242 rfl).trans ?_
  refine (r_iload_n L_194_243 rfl).trans ?_
  refine (r_iconst L_194_244 ki_5).trans ?_
  refine (r_iadd L_194_245).trans ?_
  refine (r_scr (c := 5) L_194_246 (by decide) hn hL (by decide)).trans ?_
  refine (r_callV L_194_247 rfl isI_154 rfl).trans ?_
  refine bi_c (fun q2 => ?_)
  refine (r_cmpeq L_194_248).trans ?_
  refine it_c rfl ?_
  refine (r_iconst L_194_249 ki_0).trans ?_
  exact r_ret L_194_250 mz_194
set_option maxRecDepth 100000 in
set_option maxHeartbeats 4000000 in
theorem lw_c7 (ρ : Nat × (Nat → Int32)) (σ : rd_Sg) {n : Nat} (hn : n + 5 < ρ.1) (hL : ρ.1 ≤ 3072) : rd_R ρ 194 251 (lwV n) [] σ = (rd_R ρ 115 0 [some (.ref 0), some (.int (ρ.2 (n + 1))), some (.int (ρ.2 (n + 2))), some (.int (ρ.2 (n + 3)))] [] σ).bind fun q1 => (rd_R ρ 155 0 [some (.ref 64), some (.int (ρ.2 (n + 1))), some (.int (ρ.2 (n + 2))), some (.int (ρ.2 (n + 3))), none] [] q1.2).bind fun q2 => if q1.1 = q2.1 then rd_R ρ 194 762 (lwV n) [] q2.2 else some (0, q2.2) := by
  refine (r_aload_n L_194_251 rfl).trans ?_
  refine (r_aload_n L_194_252 rfl).trans ?_
  refine (r_iload_n L_194_253 rfl).trans ?_
  refine (r_iconst L_194_254 ki_1).trans ?_
  refine (r_iadd L_194_255).trans ?_
  refine (r_scr (c := 1) L_194_256 (by decide) hn hL (by decide)).trans ?_
  refine (r_aload_n L_194_257 rfl).trans ?_
  refine (r_iload_n L_194_258 rfl).trans ?_
  refine (r_iconst L_194_259 ki_2).trans ?_
  refine (r_iadd L_194_260).trans ?_
  refine (r_scr (c := 2) L_194_261 (by decide) hn hL (by decide)).trans ?_
  refine (r_aload_n L_194_262 rfl).trans ?_
  refine (r_iload_n L_194_263 rfl).trans ?_
  refine (r_iconst L_194_264 ki_3).trans ?_
  refine (r_iadd L_194_265).trans ?_
  refine (r_scr (c := 3) L_194_266 (by decide) hn hL (by decide)).trans ?_
  refine (r_callV L_194_267 rfl isI_115 rfl).trans ?_
  refine bi_c (fun q1 => ?_)
  refine (r_aload_n L_194_268 rfl).trans ?_
  refine (r_aload_n L_194_269 rfl).trans ?_
  refine (r_iload_n L_194_270 rfl).trans ?_
  refine (r_iconst L_194_271 ki_1).trans ?_
  refine (r_iadd L_194_272).trans ?_
  refine (r_scr (c := 1) L_194_273 (by decide) hn hL (by decide)).trans ?_
  refine (r_aload_n L_194_274 rfl).trans ?_
  refine (r_iload_n L_194_275 rfl).trans ?_
  refine (r_iconst L_194_276 ki_2).trans ?_
  refine (r_iadd L_194_277).trans ?_
  refine (r_scr (c := 2) L_194_278 (by decide) hn hL (by decide)).trans ?_
  refine (r_aload_n L_194_279 rfl).trans ?_
  refine (r_iload_n L_194_280 rfl).trans ?_
  refine (r_iconst L_194_281 ki_3).trans ?_
  refine (r_iadd L_194_282).trans ?_
  refine (r_scr (c := 3) L_194_283 (by decide) hn hL (by decide)).trans ?_
  refine (r_callV L_194_284 rfl isI_155 rfl).trans ?_
  refine bi_c (fun q2 => ?_)
  refine (r_cmpeq L_194_285).trans ?_
  refine it_c rfl ?_
  refine (r_iconst L_194_286 ki_0).trans ?_
  exact r_ret L_194_287 mz_194
set_option maxRecDepth 100000 in
set_option maxHeartbeats 4000000 in
theorem lw_c8 (ρ : Nat × (Nat → Int32)) (σ : rd_Sg) {n : Nat} (hn : n + 5 < ρ.1) (hL : ρ.1 ≤ 3072) : rd_R ρ 194 288 (lwV n) [] σ = (rd_R ρ 116 0 [some (.ref 0), some (.int (ρ.2 (n + 1))), some (.int (ρ.2 (n + 2)))] [] σ).bind fun q1 => (rd_R ρ 156 0 [some (.ref 64), some (.int (ρ.2 (n + 1))), some (.int (ρ.2 (n + 2)))] [] q1.2).bind fun q2 => if q1.1 = q2.1 then rd_R ρ 194 762 (lwV n) [] q2.2 else some (0, q2.2) := by
  refine (r_aload_n L_194_288 rfl).trans ?_
  refine (r_aload_n L_194_289 rfl).trans ?_
  refine (r_iload_n L_194_290 rfl).trans ?_
  refine (r_iconst L_194_291 ki_1).trans ?_
  refine (r_iadd L_194_292).trans ?_
  refine (r_scr (c := 1) L_194_293 (by decide) hn hL (by decide)).trans ?_
  refine (r_aload_n L_194_294 rfl).trans ?_
  refine (r_iload_n L_194_295 rfl).trans ?_
  refine (r_iconst L_194_296 ki_2).trans ?_
  refine (r_iadd L_194_297).trans ?_
  refine (r_scr (c := 2) L_194_298 (by decide) hn hL (by decide)).trans ?_
  refine (r_callV L_194_299 rfl isI_116 rfl).trans ?_
  refine bi_c (fun q1 => ?_)
  refine (r_aload_n L_194_300 rfl).trans ?_
  refine (r_aload_n L_194_301 rfl).trans ?_
  refine (r_iload_n L_194_302 rfl).trans ?_
  refine (r_iconst L_194_303 ki_1).trans ?_
  refine (r_iadd L_194_304).trans ?_
  refine (r_scr (c := 1) L_194_305 (by decide) hn hL (by decide)).trans ?_
  refine (r_aload_n L_194_306 rfl).trans ?_
  refine (r_iload_n L_194_307 rfl).trans ?_
  refine (r_iconst L_194_308 ki_2).trans ?_
  refine (r_iadd L_194_309).trans ?_
  refine (r_scr (c := 2) L_194_310 (by decide) hn hL (by decide)).trans ?_
  refine (r_callV L_194_311 rfl isI_156 rfl).trans ?_
  refine bi_c (fun q2 => ?_)
  refine (r_cmpeq L_194_312).trans ?_
  refine it_c rfl ?_
  refine (r_iconst L_194_313 ki_0).trans ?_
  exact r_ret L_194_314 mz_194
set_option maxRecDepth 100000 in
set_option maxHeartbeats 4000000 in
theorem lw_c9 (ρ : Nat × (Nat → Int32)) (σ : rd_Sg) {n : Nat} (hn : n + 5 < ρ.1) (hL : ρ.1 ≤ 3072) : rd_R ρ 194 315 (lwV n) [] σ = (rd_R ρ 117 0 [some (.ref 0), some (.int (ρ.2 (n + 1))), some (.int (ρ.2 (n + 2))), some (.int (ρ.2 (n + 3))), some (.int (ρ.2 (n + 4))), some (.int (ρ.2 (n + 5))), none] [] σ).bind fun q1 => (rd_R ρ 165 0 [some (.ref 64), some (.int (ρ.2 (n + 1))), some (.int (ρ.2 (n + 2))), some (.int (ρ.2 (n + 3))), some (.int (ρ.2 (n + 4))), some (.int (ρ.2 (n + 5)))] [] q1.2).bind fun q2 => if q1.1 = q2.1 then rd_R ρ 194 762 (lwV n) [] q2.2 else some (0, q2.2) := by
  refine (r_aload_n L_194_315 rfl).trans ?_
  refine (r_aload_n L_194_316 rfl).trans ?_
  refine (r_iload_n L_194_317 rfl).trans ?_
  refine (r_iconst L_194_318 ki_1).trans ?_
  refine (r_iadd L_194_319).trans ?_
  refine (r_scr (c := 1) L_194_320 (by decide) hn hL (by decide)).trans ?_
  refine (r_aload_n L_194_321 rfl).trans ?_
  refine (r_iload_n L_194_322 rfl).trans ?_
  refine (r_iconst L_194_323 ki_2).trans ?_
  refine (r_iadd L_194_324).trans ?_
  refine (r_scr (c := 2) L_194_325 (by decide) hn hL (by decide)).trans ?_
  refine (r_aload_n L_194_326 rfl).trans ?_
  refine (r_iload_n L_194_327 rfl).trans ?_
  refine (r_iconst L_194_328 ki_3).trans ?_
  refine (r_iadd L_194_329).trans ?_
  refine (r_scr (c := 3) L_194_330 (by decide) hn hL (by decide)).trans ?_
  refine (r_aload_n L_194_331 rfl).trans ?_
  refine (r_iload_n L_194_332 rfl).trans ?_
  refine (r_iconst L_194_333 ki_4).trans ?_
  refine (r_iadd L_194_334).trans ?_
  refine (r_scr (c := 4) L_194_335 (by decide) hn hL (by decide)).trans ?_
  refine (r_aload_n L_194_336 rfl).trans ?_
  refine (r_iload_n L_194_337 rfl).trans ?_
  refine (r_iconst L_194_338 ki_5).trans ?_
  refine (r_iadd L_194_339).trans ?_
  refine (r_scr (c := 5) L_194_340 (by decide) hn hL (by decide)).trans ?_
  refine (r_callV L_194_341 rfl isI_117 rfl).trans ?_
  refine bi_c (fun q1 => ?_)
  refine (r_aload_n L_194_342 rfl).trans ?_
  refine (r_aload_n L_194_343 rfl).trans ?_
  refine (r_iload_n L_194_344 rfl).trans ?_
  refine (r_iconst L_194_345 ki_1).trans ?_
  refine (r_iadd L_194_346).trans ?_
  refine (r_scr (c := 1) L_194_347 (by decide) hn hL (by decide)).trans ?_
  refine (r_aload_n L_194_348 rfl).trans ?_
  refine (r_iload_n L_194_349 rfl).trans ?_
  refine (r_iconst L_194_350 ki_2).trans ?_
  refine (r_iadd L_194_351).trans ?_
  refine (r_scr (c := 2) L_194_352 (by decide) hn hL (by decide)).trans ?_
  refine (r_aload_n L_194_353 rfl).trans ?_
  refine (r_iload_n L_194_354 rfl).trans ?_
  refine (r_iconst L_194_355 ki_3).trans ?_
  refine (r_iadd L_194_356).trans ?_
  refine (r_scr (c := 3) L_194_357 (by decide) hn hL (by decide)).trans ?_
  refine (r_aload_n L_194_358 rfl).trans ?_
  refine (r_iload_n L_194_359 rfl).trans ?_
  refine (r_iconst L_194_360 ki_4).trans ?_
  refine (r_iadd L_194_361).trans ?_
  refine (r_scr (c := 4) L_194_362 (by decide) hn hL (by decide)).trans ?_
  refine (r_aload_n L_194_363 rfl).trans ?_
  refine (r_iload_n L_194_364 rfl).trans ?_
  refine (r_iconst L_194_365 ki_5).trans ?_
  refine (r_iadd L_194_366).trans ?_
  refine (r_scr (c := 5) L_194_367 (by decide) hn hL (by decide)).trans ?_
  refine (r_callV L_194_368 rfl isI_165 rfl).trans ?_
  refine bi_c (fun q2 => ?_)
  refine (r_cmpeq L_194_369).trans ?_
  refine it_c rfl ?_
  refine (r_iconst L_194_370 ki_0).trans ?_
  exact r_ret L_194_371 mz_194
set_option maxRecDepth 100000 in
set_option maxHeartbeats 4000000 in
theorem lw_c10 (ρ : Nat × (Nat → Int32)) (σ : rd_Sg) {n : Nat} (hn : n + 5 < ρ.1) (hL : ρ.1 ≤ 3072) : rd_R ρ 194 372 (lwV n) [] σ = (rd_R ρ 119 0 [some (.ref 0), some (.int (ρ.2 (n + 1)))] [] σ).bind fun q1 => (rd_R ρ 166 0 [some (.ref 64), some (.int (ρ.2 (n + 1)))] [] q1.2).bind fun q2 => if q1.1 = q2.1 then rd_R ρ 194 762 (lwV n) [] q2.2 else some (0, q2.2) := by
  refine (r_aload_n L_194_372 rfl).trans ?_
  refine (r_aload_n L_194_373 rfl).trans ?_
  refine (r_iload_n L_194_374 rfl).trans ?_
  refine (r_iconst L_194_375 ki_1).trans ?_
  refine (r_iadd L_194_376).trans ?_
  refine (r_scr (c := 1) L_194_377 (by decide) hn hL (by decide)).trans ?_
  refine (r_callV L_194_378 rfl isI_119 rfl).trans ?_
  refine bi_c (fun q1 => ?_)
  refine (r_aload_n L_194_379 rfl).trans ?_
  refine (r_aload_n L_194_380 rfl).trans ?_
  refine (r_iload_n L_194_381 rfl).trans ?_
  refine (r_iconst L_194_382 ki_1).trans ?_
  refine (r_iadd L_194_383).trans ?_
  refine (r_scr (c := 1) L_194_384 (by decide) hn hL (by decide)).trans ?_
  refine (r_callV L_194_385 rfl isI_166 rfl).trans ?_
  refine bi_c (fun q2 => ?_)
  refine (r_cmpeq L_194_386).trans ?_
  refine it_c rfl ?_
  refine (r_iconst L_194_387 ki_0).trans ?_
  exact r_ret L_194_388 mz_194
set_option maxRecDepth 100000 in
set_option maxHeartbeats 4000000 in
theorem lw_c11 (ρ : Nat × (Nat → Int32)) (σ : rd_Sg) {n : Nat} (hn : n + 5 < ρ.1) (hL : ρ.1 ≤ 3072) : rd_R ρ 194 389 (lwV n) [] σ = (rd_R ρ 120 0 [some (.ref 0), some (.int (ρ.2 (n + 1))), some (.int (ρ.2 (n + 2)))] [] σ).bind fun q1 => (rd_R ρ 167 0 [some (.ref 64), some (.int (ρ.2 (n + 1))), some (.int (ρ.2 (n + 2)))] [] q1.2).bind fun q2 => if q1.1 = q2.1 then rd_R ρ 194 762 (lwV n) [] q2.2 else some (0, q2.2) := by
  refine (r_aload_n L_194_389 rfl).trans ?_
  refine (r_aload_n L_194_390 rfl).trans ?_
  refine (r_iload_n L_194_391 rfl).trans ?_
  refine (r_iconst L_194_392 ki_1).trans ?_
  refine (r_iadd L_194_393).trans ?_
  refine (r_scr (c := 1) L_194_394 (by decide) hn hL (by decide)).trans ?_
  refine (r_aload_n L_194_395 rfl).trans ?_
  refine (r_iload_n L_194_396 rfl).trans ?_
  refine (r_iconst L_194_397 ki_2).trans ?_
  refine (r_iadd L_194_398).trans ?_
  refine (r_scr (c := 2) L_194_399 (by decide) hn hL (by decide)).trans ?_
  refine (r_callV L_194_400 rfl isI_120 rfl).trans ?_
  refine bi_c (fun q1 => ?_)
  refine (r_aload_n L_194_401 rfl).trans ?_
  refine (r_aload_n L_194_402 rfl).trans ?_
  refine (r_iload_n L_194_403 rfl).trans ?_
  refine (r_iconst L_194_404 ki_1).trans ?_
  refine (r_iadd L_194_405).trans ?_
  refine (r_scr (c := 1) L_194_406 (by decide) hn hL (by decide)).trans ?_
  refine (r_aload_n L_194_407 rfl).trans ?_
  refine (r_iload_n L_194_408 rfl).trans ?_
  refine (r_iconst L_194_409 ki_2).trans ?_
  refine (r_iadd L_194_410).trans ?_
  refine (r_scr (c := 2) L_194_411 (by decide) hn hL (by decide)).trans ?_
  refine (r_callV L_194_412 rfl isI_167 rfl).trans ?_
  refine bi_c (fun q2 => ?_)
  refine (r_cmpeq L_194_413).trans ?_
  refine it_c rfl ?_
  refine (r_iconst L_194_414 ki_0).trans ?_
  exact r_ret L_194_415 mz_194
set_option maxRecDepth 100000 in
set_option maxHeartbeats 4000000 in
theorem lw_c12 (ρ : Nat × (Nat → Int32)) (σ : rd_Sg) {n : Nat} (hn : n + 5 < ρ.1) (hL : ρ.1 ≤ 3072) : rd_R ρ 194 416 (lwV n) [] σ = (rd_R ρ 121 0 [some (.ref 0), some (.int (ρ.2 (n + 1))), some (.int (ρ.2 (n + 2))), some (.int (ρ.2 (n + 3))), some (.int (ρ.2 (n + 4))), none] [] σ).bind fun q1 => (rd_R ρ 169 0 [some (.ref 64), some (.int (ρ.2 (n + 1))), some (.int (ρ.2 (n + 2))), some (.int (ρ.2 (n + 3))), some (.int (ρ.2 (n + 4)))] [] q1.2).bind fun q2 => if q1.1 = q2.1 then rd_R ρ 194 762 (lwV n) [] q2.2 else some (0, q2.2) := by
  refine (r_aload_n L_194_416 rfl).trans ?_
  refine (r_aload_n L_194_417 rfl).trans ?_
  refine (r_iload_n L_194_418 rfl).trans ?_
  refine (r_iconst L_194_419 ki_1).trans ?_
  refine (r_iadd L_194_420).trans ?_
  refine (r_scr (c := 1) L_194_421 (by decide) hn hL (by decide)).trans ?_
  refine (r_aload_n L_194_422 rfl).trans ?_
  refine (r_iload_n L_194_423 rfl).trans ?_
  refine (r_iconst L_194_424 ki_2).trans ?_
  refine (r_iadd L_194_425).trans ?_
  refine (r_scr (c := 2) L_194_426 (by decide) hn hL (by decide)).trans ?_
  refine (r_aload_n L_194_427 rfl).trans ?_
  refine (r_iload_n L_194_428 rfl).trans ?_
  refine (r_iconst L_194_429 ki_3).trans ?_
  refine (r_iadd L_194_430).trans ?_
  refine (r_scr (c := 3) L_194_431 (by decide) hn hL (by decide)).trans ?_
  refine (r_aload_n L_194_432 rfl).trans ?_
  refine (r_iload_n L_194_433 rfl).trans ?_
  refine (r_iconst L_194_434 ki_4).trans ?_
  refine (r_iadd L_194_435).trans ?_
  refine (r_scr (c := 4) L_194_436 (by decide) hn hL (by decide)).trans ?_
  refine (r_callV L_194_437 rfl isI_121 rfl).trans ?_
  refine bi_c (fun q1 => ?_)
  refine (r_aload_n L_194_438 rfl).trans ?_
  refine (r_aload_n L_194_439 rfl).trans ?_
  refine (r_iload_n L_194_440 rfl).trans ?_
  refine (r_iconst L_194_441 ki_1).trans ?_
  refine (r_iadd L_194_442).trans ?_
  refine (r_scr (c := 1) L_194_443 (by decide) hn hL (by decide)).trans ?_
  refine (r_aload_n L_194_444 rfl).trans ?_
  refine (r_iload_n L_194_445 rfl).trans ?_
  refine (r_iconst L_194_446 ki_2).trans ?_
  refine (r_iadd L_194_447).trans ?_
  refine (r_scr (c := 2) L_194_448 (by decide) hn hL (by decide)).trans ?_
  refine (r_aload_n L_194_449 rfl).trans ?_
  refine (r_iload_n L_194_450 rfl).trans ?_
  refine (r_iconst L_194_451 ki_3).trans ?_
  refine (r_iadd L_194_452).trans ?_
  refine (r_scr (c := 3) L_194_453 (by decide) hn hL (by decide)).trans ?_
  refine (r_aload_n L_194_454 rfl).trans ?_
  refine (r_iload_n L_194_455 rfl).trans ?_
  refine (r_iconst L_194_456 ki_4).trans ?_
  refine (r_iadd L_194_457).trans ?_
  refine (r_scr (c := 4) L_194_458 (by decide) hn hL (by decide)).trans ?_
  refine (r_callV L_194_459 rfl isI_169 rfl).trans ?_
  refine bi_c (fun q2 => ?_)
  refine (r_cmpeq L_194_460).trans ?_
  refine it_c rfl ?_
  refine (r_iconst L_194_461 ki_0).trans ?_
  exact r_ret L_194_462 mz_194
set_option maxRecDepth 100000 in
set_option maxHeartbeats 4000000 in
theorem lw_c13 (ρ : Nat × (Nat → Int32)) (σ : rd_Sg) {n : Nat} (hn : n + 5 < ρ.1) (hL : ρ.1 ≤ 3072) : rd_R ρ 194 463 (lwV n) [] σ = (rd_R ρ 122 0 [some (.ref 0), some (.int (ρ.2 (n + 1))), some (.int (ρ.2 (n + 2))), some (.int (ρ.2 (n + 3))), some (.int (ρ.2 (n + 4))), some (.int (ρ.2 (n + 5)))] [] σ).bind fun q1 => (rd_R ρ 170 0 [some (.ref 64), some (.int (ρ.2 (n + 1))), some (.int (ρ.2 (n + 2))), some (.int (ρ.2 (n + 3))), some (.int (ρ.2 (n + 4))), some (.int (ρ.2 (n + 5)))] [] q1.2).bind fun q2 => if q1.1 = q2.1 then rd_R ρ 194 762 (lwV n) [] q2.2 else some (0, q2.2) := by
  refine (r_aload_n L_194_463 rfl).trans ?_
  refine (r_aload_n L_194_464 rfl).trans ?_
  refine (r_iload_n L_194_465 rfl).trans ?_
  refine (r_iconst L_194_466 ki_1).trans ?_
  refine (r_iadd L_194_467).trans ?_
  refine (r_scr (c := 1) L_194_468 (by decide) hn hL (by decide)).trans ?_
  refine (r_aload_n L_194_469 rfl).trans ?_
  refine (r_iload_n L_194_470 rfl).trans ?_
  refine (r_iconst L_194_471 ki_2).trans ?_
  refine (r_iadd L_194_472).trans ?_
  refine (r_scr (c := 2) L_194_473 (by decide) hn hL (by decide)).trans ?_
  refine (r_aload_n L_194_474 rfl).trans ?_
  refine (r_iload_n L_194_475 rfl).trans ?_
  refine (r_iconst L_194_476 ki_3).trans ?_
  refine (r_iadd L_194_477).trans ?_
  refine (r_scr (c := 3) L_194_478 (by decide) hn hL (by decide)).trans ?_
  refine (r_aload_n L_194_479 rfl).trans ?_
  refine (r_iload_n L_194_480 rfl).trans ?_
  refine (r_iconst L_194_481 ki_4).trans ?_
  refine (r_iadd L_194_482).trans ?_
  refine (r_scr (c := 4) L_194_483 (by decide) hn hL (by decide)).trans ?_
  refine (r_aload_n L_194_484 rfl).trans ?_
  refine (r_iload_n L_194_485 rfl).trans ?_
  refine (r_iconst L_194_486 ki_5).trans ?_
  refine (r_iadd L_194_487).trans ?_
  refine (r_scr (c := 5) L_194_488 (by decide) hn hL (by decide)).trans ?_
  refine (r_callV L_194_489 rfl isI_122 rfl).trans ?_
  refine bi_c (fun q1 => ?_)
  refine (r_aload_n L_194_490 rfl).trans ?_
  refine (r_aload_n L_194_491 rfl).trans ?_
  refine (r_iload_n L_194_492 rfl).trans ?_
  refine (r_iconst L_194_493 ki_1).trans ?_
  refine (r_iadd L_194_494).trans ?_
  refine (r_scr (c := 1) L_194_495 (by decide) hn hL (by decide)).trans ?_
  refine (r_aload_n L_194_496 rfl).trans ?_
  refine (r_iload_n L_194_497 rfl).trans ?_
  refine (r_iconst L_194_498 ki_2).trans ?_
  refine (r_iadd L_194_499).trans ?_
  refine (r_scr (c := 2) L_194_500 (by decide) hn hL (by decide)).trans ?_
  refine (r_aload_n L_194_501 rfl).trans ?_
  refine (r_iload_n L_194_502 rfl).trans ?_
  refine (r_iconst L_194_503 ki_3).trans ?_
  refine (r_iadd L_194_504).trans ?_
  refine (r_scr (c := 3) L_194_505 (by decide) hn hL (by decide)).trans ?_
  refine (r_aload_n L_194_506 rfl).trans ?_
  refine (r_iload_n L_194_507 rfl).trans ?_
  refine (r_iconst L_194_508 ki_4).trans ?_
  refine (r_iadd L_194_509).trans ?_
  refine (r_scr (c := 4) L_194_510 (by decide) hn hL (by decide)).trans ?_
  refine (r_aload_n L_194_511 rfl).trans ?_
  refine (r_iload_n L_194_512 rfl).trans ?_
  refine (r_iconst L_194_513 ki_5).trans ?_
  refine (r_iadd L_194_514).trans ?_
  refine (r_scr (c := 5) L_194_515 (by decide) hn hL (by decide)).trans ?_
  refine (r_callV L_194_516 rfl isI_170 rfl).trans ?_
  refine bi_c (fun q2 => ?_)
  refine (r_cmpeq L_194_517).trans ?_
  refine it_c rfl ?_
  refine (r_iconst L_194_518 ki_0).trans ?_
  exact r_ret L_194_519 mz_194
set_option maxRecDepth 100000 in
set_option maxHeartbeats 4000000 in
theorem lw_c14 (ρ : Nat × (Nat → Int32)) (σ : rd_Sg) {n : Nat} (hn : n + 5 < ρ.1) (hL : ρ.1 ≤ 3072) : rd_R ρ 194 520 (lwV n) [] σ = (rd_R ρ 123 0 [some (.ref 0), some (.int (ρ.2 (n + 1))), some (.int (ρ.2 (n + 2))), none] [] σ).bind fun q1 => (rd_R ρ 171 0 [some (.ref 64), some (.int (ρ.2 (n + 1))), some (.int (ρ.2 (n + 2)))] [] q1.2).bind fun q2 => if q1.1 = q2.1 then rd_R ρ 194 762 (lwV n) [] q2.2 else some (0, q2.2) := by
  refine (r_aload_n L_194_520 rfl).trans ?_
  refine (r_aload_n L_194_521 rfl).trans ?_
  refine (r_iload_n L_194_522 rfl).trans ?_
  refine (r_iconst L_194_523 ki_1).trans ?_
  refine (r_iadd L_194_524).trans ?_
  refine (r_scr (c := 1) L_194_525 (by decide) hn hL (by decide)).trans ?_
  refine (r_aload_n L_194_526 rfl).trans ?_
  refine (r_iload_n L_194_527 rfl).trans ?_
  refine (r_iconst L_194_528 ki_2).trans ?_
  refine (r_iadd L_194_529).trans ?_
  refine (r_scr (c := 2) L_194_530 (by decide) hn hL (by decide)).trans ?_
  refine (r_callV L_194_531 rfl isI_123 rfl).trans ?_
  refine bi_c (fun q1 => ?_)
  refine (r_aload_n L_194_532 rfl).trans ?_
  refine (r_aload_n L_194_533 rfl).trans ?_
  refine (r_iload_n L_194_534 rfl).trans ?_
  refine (r_iconst L_194_535 ki_1).trans ?_
  refine (r_iadd L_194_536).trans ?_
  refine (r_scr (c := 1) L_194_537 (by decide) hn hL (by decide)).trans ?_
  refine (r_aload_n L_194_538 rfl).trans ?_
  refine (r_iload_n L_194_539 rfl).trans ?_
  refine (r_iconst L_194_540 ki_2).trans ?_
  refine (r_iadd L_194_541).trans ?_
  refine (r_scr (c := 2) L_194_542 (by decide) hn hL (by decide)).trans ?_
  refine (r_callV L_194_543 rfl isI_171 rfl).trans ?_
  refine bi_c (fun q2 => ?_)
  refine (r_cmpeq L_194_544).trans ?_
  refine it_c rfl ?_
  refine (r_iconst L_194_545 ki_0).trans ?_
  exact r_ret L_194_546 mz_194
set_option maxRecDepth 100000 in
set_option maxHeartbeats 4000000 in
theorem lw_c15z (ρ : Nat × (Nat → Int32)) (σ : rd_Sg) {n : Nat} (hn : n + 5 < ρ.1) (hL : ρ.1 ≤ 3072) (hz : ρ.2 (n + 2) = 0) : rd_R ρ 194 547 (lwV n) [] σ = (rd_R ρ 124 0 [some (.ref 0), some (.int (ρ.2 (n + 1))), some (.int 0)] [] σ).bind fun q1 => (rd_R ρ 172 0 [some (.ref 64), some (.int (ρ.2 (n + 1))), some (.int 0), none] [] q1.2).bind fun q2 => if q1.1 = q2.1 then rd_R ρ 194 762 (lwV n) [] q2.2 else some (0, q2.2) := by
  refine (r_aload_n L_194_547 rfl).trans ?_
  refine (r_aload_n L_194_548 rfl).trans ?_
  refine (r_iload_n L_194_549 rfl).trans ?_
  refine (r_iconst L_194_550 ki_1).trans ?_
  refine (r_iadd L_194_551).trans ?_
  refine (r_scr (c := 1) L_194_552 (by decide) hn hL (by decide)).trans ?_
  refine (r_aload_n L_194_553 rfl).trans ?_
  refine (r_iload_n L_194_554 rfl).trans ?_
  refine (r_iconst L_194_555 ki_2).trans ?_
  refine (r_iadd L_194_556).trans ?_
  refine (r_scr (c := 2) L_194_557 (by decide) hn hL (by decide)).trans ?_
  refine (r_ifeq L_194_558).trans ?_
  rw [if_pos hz]
  refine (r_iconst L_194_561 ki_0).trans ?_
  refine (r_callV L_194_562 rfl isI_124 rfl).trans ?_
  refine bi_c (fun q1 => ?_)
  refine (r_aload_n L_194_563 rfl).trans ?_
  refine (r_aload_n L_194_564 rfl).trans ?_
  refine (r_iload_n L_194_565 rfl).trans ?_
  refine (r_iconst L_194_566 ki_1).trans ?_
  refine (r_iadd L_194_567).trans ?_
  refine (r_scr (c := 1) L_194_568 (by decide) hn hL (by decide)).trans ?_
  refine (r_aload_n L_194_569 rfl).trans ?_
  refine (r_iload_n L_194_570 rfl).trans ?_
  refine (r_iconst L_194_571 ki_2).trans ?_
  refine (r_iadd L_194_572).trans ?_
  refine (r_scr (c := 2) L_194_573 (by decide) hn hL (by decide)).trans ?_
  refine (r_ifeq L_194_574).trans ?_
  rw [if_pos hz]
  refine (r_iconst L_194_577 ki_0).trans ?_
  refine (r_callV L_194_578 rfl isI_172 rfl).trans ?_
  refine bi_c (fun q2 => ?_)
  refine (r_cmpeq L_194_579).trans ?_
  refine it_c rfl ?_
  refine (r_iconst L_194_580 ki_0).trans ?_
  exact r_ret L_194_581 mz_194
set_option maxRecDepth 100000 in
set_option maxHeartbeats 4000000 in
theorem lw_c15n (ρ : Nat × (Nat → Int32)) (σ : rd_Sg) {n : Nat} (hn : n + 5 < ρ.1) (hL : ρ.1 ≤ 3072) (hz : ¬ ρ.2 (n + 2) = 0) : rd_R ρ 194 547 (lwV n) [] σ = (rd_R ρ 124 0 [some (.ref 0), some (.int (ρ.2 (n + 1))), some (.int 1)] [] σ).bind fun q1 => (rd_R ρ 172 0 [some (.ref 64), some (.int (ρ.2 (n + 1))), some (.int 1), none] [] q1.2).bind fun q2 => if q1.1 = q2.1 then rd_R ρ 194 762 (lwV n) [] q2.2 else some (0, q2.2) := by
  refine (r_aload_n L_194_547 rfl).trans ?_
  refine (r_aload_n L_194_548 rfl).trans ?_
  refine (r_iload_n L_194_549 rfl).trans ?_
  refine (r_iconst L_194_550 ki_1).trans ?_
  refine (r_iadd L_194_551).trans ?_
  refine (r_scr (c := 1) L_194_552 (by decide) hn hL (by decide)).trans ?_
  refine (r_aload_n L_194_553 rfl).trans ?_
  refine (r_iload_n L_194_554 rfl).trans ?_
  refine (r_iconst L_194_555 ki_2).trans ?_
  refine (r_iadd L_194_556).trans ?_
  refine (r_scr (c := 2) L_194_557 (by decide) hn hL (by decide)).trans ?_
  refine (r_ifeq L_194_558).trans ?_
  rw [if_neg hz]
  refine (r_iconst L_194_559 ki_1).trans ?_
  refine (r_goto L_194_560).trans ?_
  refine (r_callV L_194_562 rfl isI_124 rfl).trans ?_
  refine bi_c (fun q1 => ?_)
  refine (r_aload_n L_194_563 rfl).trans ?_
  refine (r_aload_n L_194_564 rfl).trans ?_
  refine (r_iload_n L_194_565 rfl).trans ?_
  refine (r_iconst L_194_566 ki_1).trans ?_
  refine (r_iadd L_194_567).trans ?_
  refine (r_scr (c := 1) L_194_568 (by decide) hn hL (by decide)).trans ?_
  refine (r_aload_n L_194_569 rfl).trans ?_
  refine (r_iload_n L_194_570 rfl).trans ?_
  refine (r_iconst L_194_571 ki_2).trans ?_
  refine (r_iadd L_194_572).trans ?_
  refine (r_scr (c := 2) L_194_573 (by decide) hn hL (by decide)).trans ?_
  refine (r_ifeq L_194_574).trans ?_
  rw [if_neg hz]
  refine (r_iconst L_194_575 ki_1).trans ?_
  refine (r_goto L_194_576).trans ?_
  refine (r_callV L_194_578 rfl isI_172 rfl).trans ?_
  refine bi_c (fun q2 => ?_)
  refine (r_cmpeq L_194_579).trans ?_
  refine it_c rfl ?_
  refine (r_iconst L_194_580 ki_0).trans ?_
  exact r_ret L_194_581 mz_194
set_option maxRecDepth 100000 in
set_option maxHeartbeats 4000000 in
theorem lw_c16 (ρ : Nat × (Nat → Int32)) (σ : rd_Sg) {n : Nat} (hn : n + 5 < ρ.1) (hL : ρ.1 ≤ 3072) : rd_R ρ 194 582 (lwV n) [] σ = (rd_R ρ 125 0 [some (.ref 0), some (.int (ρ.2 (n + 1)))] [] σ).bind fun q1 => (rd_R ρ 175 0 [some (.ref 64), some (.int (ρ.2 (n + 1)))] [] q1.2).bind fun q2 => if q1.1 = q2.1 then rd_R ρ 194 762 (lwV n) [] q2.2 else some (0, q2.2) := by
  refine (r_aload_n L_194_582 rfl).trans ?_
  refine (r_aload_n L_194_583 rfl).trans ?_
  refine (r_iload_n L_194_584 rfl).trans ?_
  refine (r_iconst L_194_585 ki_1).trans ?_
  refine (r_iadd L_194_586).trans ?_
  refine (r_scr (c := 1) L_194_587 (by decide) hn hL (by decide)).trans ?_
  refine (r_callV L_194_588 rfl isI_125 rfl).trans ?_
  refine bi_c (fun q1 => ?_)
  refine (r_aload_n L_194_589 rfl).trans ?_
  refine (r_aload_n L_194_590 rfl).trans ?_
  refine (r_iload_n L_194_591 rfl).trans ?_
  refine (r_iconst L_194_592 ki_1).trans ?_
  refine (r_iadd L_194_593).trans ?_
  refine (r_scr (c := 1) L_194_594 (by decide) hn hL (by decide)).trans ?_
  refine (r_callV L_194_595 rfl isI_175 rfl).trans ?_
  refine bi_c (fun q2 => ?_)
  refine (r_cmpeq L_194_596).trans ?_
  refine it_c rfl ?_
  refine (r_iconst L_194_597 ki_0).trans ?_
  exact r_ret L_194_598 mz_194
set_option maxRecDepth 100000 in
set_option maxHeartbeats 4000000 in
theorem lw_c17 (ρ : Nat × (Nat → Int32)) (σ : rd_Sg) {n : Nat} (hn : n + 5 < ρ.1) (hL : ρ.1 ≤ 3072) : rd_R ρ 194 599 (lwV n) [] σ = (rd_R ρ 126 0 [some (.ref 0)] [] σ).bind fun q1 => (rd_R ρ 179 0 [some (.ref 64), none, none] [] q1.2).bind fun q2 => if q1.1 = q2.1 then rd_R ρ 194 762 (lwV n) [] q2.2 else some (0, q2.2) := by
  refine (r_aload_n L_194_599 rfl).trans ?_
  refine (r_callV L_194_600 rfl isI_126 rfl).trans ?_
  refine bi_c (fun q1 => ?_)
  refine (r_aload_n L_194_601 rfl).trans ?_
  refine (r_callV L_194_602 rfl isI_179 rfl).trans ?_
  refine bi_c (fun q2 => ?_)
  refine (r_cmpeq L_194_603).trans ?_
  refine it_c rfl ?_
  refine (r_iconst L_194_604 ki_0).trans ?_
  exact r_ret L_194_605 mz_194
set_option maxRecDepth 100000 in
set_option maxHeartbeats 4000000 in
theorem lw_c18 (ρ : Nat × (Nat → Int32)) (σ : rd_Sg) {n : Nat} (hn : n + 5 < ρ.1) (hL : ρ.1 ≤ 3072) : rd_R ρ 194 606 (lwV n) [] σ = (rd_R ρ 127 0 [some (.ref 0), some (.int (ρ.2 (n + 1))), some (.int (ρ.2 (n + 2)))] [] σ).bind fun q1 => (rd_R ρ 180 0 [some (.ref 64), some (.int (ρ.2 (n + 1))), some (.int (ρ.2 (n + 2)))] [] q1.2).bind fun q2 => if q1.1 = q2.1 then rd_R ρ 194 762 (lwV n) [] q2.2 else some (0, q2.2) := by
  refine (r_aload_n L_194_606 rfl).trans ?_
  refine (r_aload_n L_194_607 rfl).trans ?_
  refine (r_iload_n L_194_608 rfl).trans ?_
  refine (r_iconst L_194_609 ki_1).trans ?_
  refine (r_iadd L_194_610).trans ?_
  refine (r_scr (c := 1) L_194_611 (by decide) hn hL (by decide)).trans ?_
  refine (r_aload_n L_194_612 rfl).trans ?_
  refine (r_iload_n L_194_613 rfl).trans ?_
  refine (r_iconst L_194_614 ki_2).trans ?_
  refine (r_iadd L_194_615).trans ?_
  refine (r_scr (c := 2) L_194_616 (by decide) hn hL (by decide)).trans ?_
  refine (r_callV L_194_617 rfl isI_127 rfl).trans ?_
  refine bi_c (fun q1 => ?_)
  refine (r_aload_n L_194_618 rfl).trans ?_
  refine (r_aload_n L_194_619 rfl).trans ?_
  refine (r_iload_n L_194_620 rfl).trans ?_
  refine (r_iconst L_194_621 ki_1).trans ?_
  refine (r_iadd L_194_622).trans ?_
  refine (r_scr (c := 1) L_194_623 (by decide) hn hL (by decide)).trans ?_
  refine (r_aload_n L_194_624 rfl).trans ?_
  refine (r_iload_n L_194_625 rfl).trans ?_
  refine (r_iconst L_194_626 ki_2).trans ?_
  refine (r_iadd L_194_627).trans ?_
  refine (r_scr (c := 2) L_194_628 (by decide) hn hL (by decide)).trans ?_
  refine (r_callV L_194_629 rfl isI_180 rfl).trans ?_
  refine bi_c (fun q2 => ?_)
  refine (r_cmpeq L_194_630).trans ?_
  refine it_c rfl ?_
  refine (r_iconst L_194_631 ki_0).trans ?_
  exact r_ret L_194_632 mz_194
set_option maxRecDepth 100000 in
set_option maxHeartbeats 4000000 in
theorem lw_c19 (ρ : Nat × (Nat → Int32)) (σ : rd_Sg) {n : Nat} (hn : n + 5 < ρ.1) (hL : ρ.1 ≤ 3072) : rd_R ρ 194 633 (lwV n) [] σ = (rd_R ρ 128 0 [some (.ref 0), some (.int (ρ.2 (n + 1))), some (.int (ρ.2 (n + 2))), some (.int (ρ.2 (n + 3))), some (.int (ρ.2 (n + 4)))] [] σ).bind fun q1 => (rd_R ρ 181 0 [some (.ref 64), some (.int (ρ.2 (n + 1))), some (.int (ρ.2 (n + 2))), some (.int (ρ.2 (n + 3))), some (.int (ρ.2 (n + 4))), none] [] q1.2).bind fun q2 => if q1.1 = q2.1 then rd_R ρ 194 762 (lwV n) [] q2.2 else some (0, q2.2) := by
  refine (r_aload_n L_194_633 rfl).trans ?_
  refine (r_aload_n L_194_634 rfl).trans ?_
  refine (r_iload_n L_194_635 rfl).trans ?_
  refine (r_iconst L_194_636 ki_1).trans ?_
  refine (r_iadd L_194_637).trans ?_
  refine (r_scr (c := 1) L_194_638 (by decide) hn hL (by decide)).trans ?_
  refine (r_aload_n L_194_639 rfl).trans ?_
  refine (r_iload_n L_194_640 rfl).trans ?_
  refine (r_iconst L_194_641 ki_2).trans ?_
  refine (r_iadd L_194_642).trans ?_
  refine (r_scr (c := 2) L_194_643 (by decide) hn hL (by decide)).trans ?_
  refine (r_aload_n L_194_644 rfl).trans ?_
  refine (r_iload_n L_194_645 rfl).trans ?_
  refine (r_iconst L_194_646 ki_3).trans ?_
  refine (r_iadd L_194_647).trans ?_
  refine (r_scr (c := 3) L_194_648 (by decide) hn hL (by decide)).trans ?_
  refine (r_aload_n L_194_649 rfl).trans ?_
  refine (r_iload_n L_194_650 rfl).trans ?_
  refine (r_iconst L_194_651 ki_4).trans ?_
  refine (r_iadd L_194_652).trans ?_
  refine (r_scr (c := 4) L_194_653 (by decide) hn hL (by decide)).trans ?_
  refine (r_callV L_194_654 rfl isI_128 rfl).trans ?_
  refine bi_c (fun q1 => ?_)
  refine (r_aload_n L_194_655 rfl).trans ?_
  refine (r_aload_n L_194_656 rfl).trans ?_
  refine (r_iload_n L_194_657 rfl).trans ?_
  refine (r_iconst L_194_658 ki_1).trans ?_
  refine (r_iadd L_194_659).trans ?_
  refine (r_scr (c := 1) L_194_660 (by decide) hn hL (by decide)).trans ?_
  refine (r_aload_n L_194_661 rfl).trans ?_
  refine (r_iload_n L_194_662 rfl).trans ?_
  refine (r_iconst L_194_663 ki_2).trans ?_
  refine (r_iadd L_194_664).trans ?_
  refine (r_scr (c := 2) L_194_665 (by decide) hn hL (by decide)).trans ?_
  refine (r_aload_n L_194_666 rfl).trans ?_
  refine (r_iload_n L_194_667 rfl).trans ?_
  refine (r_iconst L_194_668 ki_3).trans ?_
  refine (r_iadd L_194_669).trans ?_
  refine (r_scr (c := 3) L_194_670 (by decide) hn hL (by decide)).trans ?_
  refine (r_aload_n L_194_671 rfl).trans ?_
  refine (r_iload_n L_194_672 rfl).trans ?_
  refine (r_iconst L_194_673 ki_4).trans ?_
  refine (r_iadd L_194_674).trans ?_
  refine (r_scr (c := 4) L_194_675 (by decide) hn hL (by decide)).trans ?_
  refine (r_callV L_194_676 rfl isI_181 rfl).trans ?_
  refine bi_c (fun q2 => ?_)
  refine (r_cmpeq L_194_677).trans ?_
  refine it_c rfl ?_
  refine (r_iconst L_194_678 ki_0).trans ?_
  exact r_ret L_194_679 mz_194
set_option maxRecDepth 100000 in
set_option maxHeartbeats 4000000 in
theorem lw_c20 (ρ : Nat × (Nat → Int32)) (σ : rd_Sg) {n : Nat} (hn : n + 5 < ρ.1) (hL : ρ.1 ≤ 3072) : rd_R ρ 194 680 (lwV n) [] σ = (rd_R ρ 129 0 [some (.ref 0)] [] σ).bind fun q1 => (rd_R ρ 182 0 [some (.ref 64), none] [] q1.2).bind fun q2 => if q1.1 = q2.1 then rd_R ρ 194 762 (lwV n) [] q2.2 else some (0, q2.2) := by
  refine (r_aload_n L_194_680 rfl).trans ?_
  refine (r_callV L_194_681 rfl isI_129 rfl).trans ?_
  refine bi_c (fun q1 => ?_)
  refine (r_aload_n L_194_682 rfl).trans ?_
  refine (r_callV L_194_683 rfl isI_182 rfl).trans ?_
  refine bi_c (fun q2 => ?_)
  refine (r_cmpeq L_194_684).trans ?_
  refine it_c rfl ?_
  refine (r_iconst L_194_685 ki_0).trans ?_
  exact r_ret L_194_686 mz_194
set_option maxRecDepth 100000 in
set_option maxHeartbeats 4000000 in
theorem lw_c21 (ρ : Nat × (Nat → Int32)) (σ : rd_Sg) {n : Nat} (hn : n + 5 < ρ.1) (hL : ρ.1 ≤ 3072) : rd_R ρ 194 687 (lwV n) [] σ = (rd_R ρ 130 0 [some (.ref 0), some (.int (ρ.2 (n + 1))), none, none] [] σ).bind fun q1 => (rd_R ρ 187 0 [some (.ref 64), some (.int (ρ.2 (n + 1))), none, none] [] q1.2).bind fun q2 => if q1.1 = q2.1 then rd_R ρ 194 762 (lwV n) [] q2.2 else some (0, q2.2) := by
  refine (r_aload_n L_194_687 rfl).trans ?_
  refine (r_aload_n L_194_688 rfl).trans ?_
  refine (r_iload_n L_194_689 rfl).trans ?_
  refine (r_iconst L_194_690 ki_1).trans ?_
  refine (r_iadd L_194_691).trans ?_
  refine (r_scr (c := 1) L_194_692 (by decide) hn hL (by decide)).trans ?_
  refine (r_callV L_194_693 rfl isI_130 rfl).trans ?_
  refine bi_c (fun q1 => ?_)
  refine (r_aload_n L_194_694 rfl).trans ?_
  refine (r_aload_n L_194_695 rfl).trans ?_
  refine (r_iload_n L_194_696 rfl).trans ?_
  refine (r_iconst L_194_697 ki_1).trans ?_
  refine (r_iadd L_194_698).trans ?_
  refine (r_scr (c := 1) L_194_699 (by decide) hn hL (by decide)).trans ?_
  refine (r_callV L_194_700 rfl isI_187 rfl).trans ?_
  refine bi_c (fun q2 => ?_)
  refine (r_cmpeq L_194_701).trans ?_
  refine it_c rfl ?_
  refine (r_iconst L_194_702 ki_0).trans ?_
  exact r_ret L_194_703 mz_194
set_option maxRecDepth 100000 in
set_option maxHeartbeats 4000000 in
theorem lw_c22 (ρ : Nat × (Nat → Int32)) (σ : rd_Sg) {n : Nat} (hn : n + 5 < ρ.1) (hL : ρ.1 ≤ 3072) : rd_R ρ 194 704 (lwV n) [] σ = (rd_R ρ 131 0 [some (.ref 0), some (.int (ρ.2 (n + 1)))] [] σ).bind fun q1 => (rd_R ρ 188 0 [some (.ref 64), some (.int (ρ.2 (n + 1)))] [] q1.2).bind fun q2 => if q1.1 = q2.1 then rd_R ρ 194 762 (lwV n) [] q2.2 else some (0, q2.2) := by
  refine (r_aload_n L_194_704 rfl).trans ?_
  refine (r_aload_n L_194_705 rfl).trans ?_
  refine (r_iload_n L_194_706 rfl).trans ?_
  refine (r_iconst L_194_707 ki_1).trans ?_
  refine (r_iadd L_194_708).trans ?_
  refine (r_scr (c := 1) L_194_709 (by decide) hn hL (by decide)).trans ?_
  refine (r_callV L_194_710 rfl isI_131 rfl).trans ?_
  refine bi_c (fun q1 => ?_)
  refine (r_aload_n L_194_711 rfl).trans ?_
  refine (r_aload_n L_194_712 rfl).trans ?_
  refine (r_iload_n L_194_713 rfl).trans ?_
  refine (r_iconst L_194_714 ki_1).trans ?_
  refine (r_iadd L_194_715).trans ?_
  refine (r_scr (c := 1) L_194_716 (by decide) hn hL (by decide)).trans ?_
  refine (r_callV L_194_717 rfl isI_188 rfl).trans ?_
  refine bi_c (fun q2 => ?_)
  refine (r_cmpeq L_194_718).trans ?_
  refine it_c rfl ?_
  refine (r_iconst L_194_719 ki_0).trans ?_
  exact r_ret L_194_720 mz_194
set_option maxRecDepth 100000 in
set_option maxHeartbeats 4000000 in
theorem lw_c23 (ρ : Nat × (Nat → Int32)) (σ : rd_Sg) {n : Nat} (hn : n + 5 < ρ.1) (hL : ρ.1 ≤ 3072) : rd_R ρ 194 721 (lwV n) [] σ = (rd_R ρ 132 0 [some (.ref 0), some (.int (ρ.2 (n + 1)))] [] σ).bind fun q1 => (rd_R ρ 189 0 [some (.ref 64), some (.int (ρ.2 (n + 1)))] [] q1.2).bind fun q2 => if q1.1 = q2.1 then rd_R ρ 194 762 (lwV n) [] q2.2 else some (0, q2.2) := by
  refine (r_aload_n L_194_721 rfl).trans ?_
  refine (r_aload_n L_194_722 rfl).trans ?_
  refine (r_iload_n L_194_723 rfl).trans ?_
  refine (r_iconst L_194_724 ki_1).trans ?_
  refine (r_iadd L_194_725).trans ?_
  refine (r_scr (c := 1) L_194_726 (by decide) hn hL (by decide)).trans ?_
  refine (r_callV L_194_727 rfl isI_132 rfl).trans ?_
  refine bi_c (fun q1 => ?_)
  refine (r_aload_n L_194_728 rfl).trans ?_
  refine (r_aload_n L_194_729 rfl).trans ?_
  refine (r_iload_n L_194_730 rfl).trans ?_
  refine (r_iconst L_194_731 ki_1).trans ?_
  refine (r_iadd L_194_732).trans ?_
  refine (r_scr (c := 1) L_194_733 (by decide) hn hL (by decide)).trans ?_
  refine (r_callV L_194_734 rfl isI_189 rfl).trans ?_
  refine bi_c (fun q2 => ?_)
  refine (r_cmpeq L_194_735).trans ?_
  refine it_c rfl ?_
  refine (r_iconst L_194_736 ki_0).trans ?_
  exact r_ret L_194_737 mz_194
set_option maxRecDepth 100000 in
set_option maxHeartbeats 4000000 in
theorem lw_c24 (ρ : Nat × (Nat → Int32)) (σ : rd_Sg) {n : Nat} (hn : n + 5 < ρ.1) (hL : ρ.1 ≤ 3072) : rd_R ρ 194 738 (lwV n) [] σ = (rd_R ρ 133 0 [some (.ref 0), some (.int (ρ.2 (n + 1)))] [] σ).bind fun q1 => (rd_R ρ 190 0 [some (.ref 64), some (.int (ρ.2 (n + 1)))] [] q1.2).bind fun q2 => if q1.1 = q2.1 then rd_R ρ 194 762 (lwV n) [] q2.2 else some (0, q2.2) := by
  refine (r_aload_n L_194_738 rfl).trans ?_
  refine (r_aload_n L_194_739 rfl).trans ?_
  refine (r_iload_n L_194_740 rfl).trans ?_
  refine (r_iconst L_194_741 ki_1).trans ?_
  refine (r_iadd L_194_742).trans ?_
  refine (r_scr (c := 1) L_194_743 (by decide) hn hL (by decide)).trans ?_
  refine (r_callV L_194_744 rfl isI_133 rfl).trans ?_
  refine bi_c (fun q1 => ?_)
  refine (r_aload_n L_194_745 rfl).trans ?_
  refine (r_aload_n L_194_746 rfl).trans ?_
  refine (r_iload_n L_194_747 rfl).trans ?_
  refine (r_iconst L_194_748 ki_1).trans ?_
  refine (r_iadd L_194_749).trans ?_
  refine (r_scr (c := 1) L_194_750 (by decide) hn hL (by decide)).trans ?_
  refine (r_callV L_194_751 rfl isI_190 rfl).trans ?_
  refine bi_c (fun q2 => ?_)
  refine (r_cmpeq L_194_752).trans ?_
  refine it_c rfl ?_
  refine (r_iconst L_194_753 ki_0).trans ?_
  exact r_ret L_194_754 mz_194
set_option maxRecDepth 100000 in
set_option maxHeartbeats 4000000 in
theorem lw_c25 (ρ : Nat × (Nat → Int32)) (σ : rd_Sg) {n : Nat} (hn : n + 5 < ρ.1) (hL : ρ.1 ≤ 3072) : rd_R ρ 194 755 (lwV n) [] σ = (rd_R ρ 135 0 [some (.ref 0), none] [] σ).bind fun q1 => (rd_R ρ 191 0 [some (.ref 64), none, none] [] q1.2).bind fun q2 => if q1.1 = q2.1 then rd_R ρ 194 762 (lwV n) [] q2.2 else some (0, q2.2) := by
  refine (r_aload_n L_194_755 rfl).trans ?_
  refine (r_callV L_194_756 rfl isI_135 rfl).trans ?_
  refine bi_c (fun q1 => ?_)
  refine (r_aload_n L_194_757 rfl).trans ?_
  refine (r_callV L_194_758 rfl isI_191 rfl).trans ?_
  refine bi_c (fun q2 => ?_)
  refine (r_cmpeq L_194_759).trans ?_
  refine it_c rfl ?_
  refine (r_iconst L_194_760 ki_0).trans ?_
  exact r_ret L_194_761 mz_194
/-- what one round of the law does -/
def lwStep (ρ : Nat × (Nat → Int32)) (n t : Nat) : Prop := ∀ (σ : rd_Sg) (B : Nat), Inv B σ → B + 1000 < 2 ^ 29 → ∃ σ2, rd_R ρ 194 t (lwV n) [] σ = rd_R ρ 194 762 (lwV n) [] σ2 ∧ Inv (B + 1000) σ2
theorem lw_one {ρ : Nat × (Nat → Int32)} {n t : Nat} {σ : rd_Sg} {B B' : Nat} {D M : rd_Sg → Option (Int32 × rd_Sg)} (hB : B' ≤ B + 1000) (h : rd_R ρ 194 t (lwV n) [] σ = (D σ).bind fun q1 => (M q1.2).bind fun q2 => if q1.1 = q2.1 then rd_R ρ 194 762 (lwV n) [] q2.2 else some (0, q2.2)) (hb : Both B' D M σ) : ∃ σ2, rd_R ρ 194 t (lwV n) [] σ = rd_R ρ 194 762 (lwV n) [] σ2 ∧ Inv (B + 1000) σ2 := by
  obtain ⟨r, σ1, σ2, h1, h2, h3⟩ := hb
  refine ⟨σ2, ?_, h3.le hB⟩
  rw [h, h1]
  simp only [Option.bind_some]
  rw [h2]
  simp only [Option.bind_some, if_true]
theorem lw_s0 (ρ : Nat × (Nat → Int32)) {n : Nat} (hn : n + 5 < ρ.1) (hL : ρ.1 ≤ 3072) : lwStep ρ n 22 := by
  intro σ B hI hB
  exact lw_one (B' := B) (by omega) (lw_c0 ρ σ hn hL) (op_face ρ hI (ρ.2 (n + 1)))
theorem lw_s1 (ρ : Nat × (Nat → Int32)) {n : Nat} (hn : n + 5 < ρ.1) (hL : ρ.1 ≤ 3072) : lwStep ρ n 39 := by
  intro σ B hI hB
  exact lw_one (B' := B) (by omega) (lw_c1 ρ σ hn hL) (op_method ρ hI (ρ.2 (n + 1)) (ρ.2 (n + 2)) (ρ.2 (n + 3)) (ρ.2 (n + 4)) (ρ.2 (n + 5)))
theorem lw_s2 (ρ : Nat × (Nat → Int32)) {n : Nat} (hn : n + 5 < ρ.1) (hL : ρ.1 ≤ 3072) : lwStep ρ n 96 := by
  intro σ B hI hB
  exact lw_one (B' := B) (by omega) (lw_c2 ρ σ hn hL) (op_stand ρ hI (ρ.2 (n + 1)) (ρ.2 (n + 2)))
theorem lw_s3 (ρ : Nat × (Nat → Int32)) {n : Nat} (hn : n + 5 < ρ.1) (hL : ρ.1 ≤ 3072) : lwStep ρ n 123 := by
  intro σ B hI hB
  exact lw_one (B' := B) (by omega) (lw_c3 ρ σ hn hL) (op_of ρ hI (ρ.2 (n + 1)) (ρ.2 (n + 2)))
theorem lw_s4 (ρ : Nat × (Nat → Int32)) {n : Nat} (hn : n + 5 < ρ.1) (hL : ρ.1 ≤ 3072) : lwStep ρ n 150 := by
  intro σ B hI hB
  exact lw_one (B' := B) (by omega) (lw_c4 ρ σ hn hL) (op_level ρ hI (ρ.2 (n + 1)))
theorem lw_s5 (ρ : Nat × (Nat → Int32)) {n : Nat} (hn : n + 5 < ρ.1) (hL : ρ.1 ≤ 3072) : lwStep ρ n 167 := by
  intro σ B hI hB
  exact lw_one (B' := B) (by omega) (lw_c5 ρ σ hn hL) (op_rule ρ hI (ρ.2 (n + 1)) (ρ.2 (n + 2)))
theorem lw_s6 (ρ : Nat × (Nat → Int32)) {n : Nat} (hn : n + 5 < ρ.1) (hL : ρ.1 ≤ 3072) : lwStep ρ n 194 := by
  intro σ B hI hB
  exact lw_one (B' := B) (by omega) (lw_c6 ρ σ hn hL) (op_on ρ hI (ρ.2 (n + 1)) (ρ.2 (n + 2)) (ρ.2 (n + 3)) (ρ.2 (n + 4)) (ρ.2 (n + 5)))
theorem lw_s7 (ρ : Nat × (Nat → Int32)) {n : Nat} (hn : n + 5 < ρ.1) (hL : ρ.1 ≤ 3072) : lwStep ρ n 251 := by
  intro σ B hI hB
  exact lw_one (B' := B) (by omega) (lw_c7 ρ σ hn hL) (op_answer ρ hI (ρ.2 (n + 1)) (ρ.2 (n + 2)) (ρ.2 (n + 3)))
theorem lw_s8 (ρ : Nat × (Nat → Int32)) {n : Nat} (hn : n + 5 < ρ.1) (hL : ρ.1 ≤ 3072) : lwStep ρ n 288 := by
  intro σ B hI hB
  exact lw_one (B' := B) (by omega) (lw_c8 ρ σ hn hL) (op_caught ρ hI (ρ.2 (n + 1)) (ρ.2 (n + 2)))
theorem lw_s9 (ρ : Nat × (Nat → Int32)) {n : Nat} (hn : n + 5 < ρ.1) (hL : ρ.1 ≤ 3072) : lwStep ρ n 315 := by
  intro σ B hI hB
  exact lw_one (B' := B + 1) (by omega) (lw_c9 ρ σ hn hL) (op_call ρ hI (by omega) (ρ.2 (n + 1)) (ρ.2 (n + 2)) (ρ.2 (n + 3)) (ρ.2 (n + 4)) (ρ.2 (n + 5)))
theorem lw_s10 (ρ : Nat × (Nat → Int32)) {n : Nat} (hn : n + 5 < ρ.1) (hL : ρ.1 ≤ 3072) : lwStep ρ n 372 := by
  intro σ B hI hB
  exact lw_one (B' := B) (by omega) (lw_c10 ρ σ hn hL) (op_came ρ hI (ρ.2 (n + 1)))
theorem lw_s11 (ρ : Nat × (Nat → Int32)) {n : Nat} (hn : n + 5 < ρ.1) (hL : ρ.1 ≤ 3072) : lwStep ρ n 389 := by
  intro σ B hI hB
  exact lw_one (B' := B) (by omega) (lw_c11 ρ σ hn hL) (op_recorded ρ hI (ρ.2 (n + 1)) (ρ.2 (n + 2)))
theorem lw_s12 (ρ : Nat × (Nat → Int32)) {n : Nat} (hn : n + 5 < ρ.1) (hL : ρ.1 ≤ 3072) : lwStep ρ n 416 := by
  intro σ B hI hB
  exact lw_one (B' := B) (by omega) (lw_c12 ρ σ hn hL) (op_expect ρ hI (ρ.2 (n + 1)) (ρ.2 (n + 2)) (ρ.2 (n + 3)) (ρ.2 (n + 4)))
theorem lw_s13 (ρ : Nat × (Nat → Int32)) {n : Nat} (hn : n + 5 < ρ.1) (hL : ρ.1 ≤ 3072) : lwStep ρ n 463 := by
  intro σ B hI hB
  exact lw_one (B' := B) (by omega) (lw_c13 ρ σ hn hL) (op_with ρ hI (ρ.2 (n + 1)) (ρ.2 (n + 2)) (ρ.2 (n + 3)) (ρ.2 (n + 4)) (ρ.2 (n + 5)))
theorem lw_s14 (ρ : Nat × (Nat → Int32)) {n : Nat} (hn : n + 5 < ρ.1) (hL : ρ.1 ≤ 3072) : lwStep ρ n 520 := by
  intro σ B hI hB
  exact lw_one (B' := B) (by omega) (lw_c14 ρ σ hn hL) (op_order ρ hI (ρ.2 (n + 1)) (ρ.2 (n + 2)))
theorem lw_s15 (ρ : Nat × (Nat → Int32)) {n : Nat} (hn : n + 5 < ρ.1) (hL : ρ.1 ≤ 3072) : lwStep ρ n 547 := by
  intro σ B hI hB
  by_cases hz : ρ.2 (n + 2) = 0
  · exact lw_one (B' := B) (by omega) (lw_c15z ρ σ hn hL hz) (op_beside ρ hI (ρ.2 (n + 1)) 0)
  · exact lw_one (B' := B) (by omega) (lw_c15n ρ σ hn hL hz) (op_beside ρ hI (ρ.2 (n + 1)) 1)
theorem lw_s16 (ρ : Nat × (Nat → Int32)) {n : Nat} (hn : n + 5 < ρ.1) (hL : ρ.1 ≤ 3072) : lwStep ρ n 582 := by
  intro σ B hI hB
  exact lw_one (B' := B) (by omega) (lw_c16 ρ σ hn hL) (op_met ρ hI (ρ.2 (n + 1)))
theorem lw_s17 (ρ : Nat × (Nat → Int32)) {n : Nat} (hn : n + 5 < ρ.1) (hL : ρ.1 ≤ 3072) : lwStep ρ n 599 := by
  intro σ B hI hB
  exact lw_one (B' := B) (by omega) (lw_c17 ρ σ hn hL) (op_verify ρ hI )
theorem lw_s18 (ρ : Nat × (Nat → Int32)) {n : Nat} (hn : n + 5 < ρ.1) (hL : ρ.1 ≤ 3072) : lwStep ρ n 606 := by
  intro σ B hI hB
  exact lw_one (B' := B) (by omega) (lw_c18 ρ σ hn hL) (op_wrong ρ hI (ρ.2 (n + 1)) (ρ.2 (n + 2)))
theorem lw_s19 (ρ : Nat × (Nat → Int32)) {n : Nat} (hn : n + 5 < ρ.1) (hL : ρ.1 ≤ 3072) : lwStep ρ n 633 := by
  intro σ B hI hB
  exact lw_one (B' := B) (by omega) (lw_c19 ρ σ hn hL) (op_cue ρ hI (ρ.2 (n + 1)) (ρ.2 (n + 2)) (ρ.2 (n + 3)) (ρ.2 (n + 4)))
theorem lw_s20 (ρ : Nat × (Nat → Int32)) {n : Nat} (hn : n + 5 < ρ.1) (hL : ρ.1 ≤ 3072) : lwStep ρ n 680 := by
  intro σ B hI hB
  exact lw_one (B' := B) (by omega) (lw_c20 ρ σ hn hL) (op_clear ρ hI )
theorem lw_s21 (ρ : Nat × (Nat → Int32)) {n : Nat} (hn : n + 5 < ρ.1) (hL : ρ.1 ≤ 3072) : lwStep ρ n 687 := by
  intro σ B hI hB
  exact lw_one (B' := B + 1000) (by omega) (lw_c21 ρ σ hn hL) (op_run ρ hI hB (ρ.2 (n + 1)))
theorem lw_s22 (ρ : Nat × (Nat → Int32)) {n : Nat} (hn : n + 5 < ρ.1) (hL : ρ.1 ≤ 3072) : lwStep ρ n 704 := by
  intro σ B hI hB
  exact lw_one (B' := B) (by omega) (lw_c22 ρ σ hn hL) (op_desk ρ hI (ρ.2 (n + 1)))
theorem lw_s23 (ρ : Nat × (Nat → Int32)) {n : Nat} (hn : n + 5 < ρ.1) (hL : ρ.1 ≤ 3072) : lwStep ρ n 721 := by
  intro σ B hI hB
  exact lw_one (B' := B) (by omega) (lw_c23 ρ σ hn hL) (op_told ρ hI (ρ.2 (n + 1)))
theorem lw_s24 (ρ : Nat × (Nat → Int32)) {n : Nat} (hn : n + 5 < ρ.1) (hL : ρ.1 ≤ 3072) : lwStep ρ n 738 := by
  intro σ B hI hB
  exact lw_one (B' := B) (by omega) (lw_c24 ρ σ hn hL) (op_count ρ hI (ρ.2 (n + 1)))
theorem lw_s25 (ρ : Nat × (Nat → Int32)) {n : Nat} (hn : n + 5 < ρ.1) (hL : ρ.1 ≤ 3072) : lwStep ρ n 755 := by
  intro σ B hI hB
  exact lw_one (B' := B) (by omega) (lw_c25 ρ σ hn hL) (op_forget ρ hI )
theorem rd_sw_in {x : Int32} {d : Nat} : ∀ (ts : List Nat) (lo : Int), rd_sw x lo ts d = d ∨ rd_sw x lo ts d ∈ ts := by
  intro ts
  induction ts with
  | nil => intro lo; exact Or.inl rfl
  | cons t ts ih =>
    intro lo
    rw [rd_sw]
    split
    · exact Or.inr List.mem_cons_self
    · rcases ih (lo + 1) with h | h
      · exact Or.inl h
      · exact Or.inr (List.mem_cons_of_mem _ h)
theorem lw_sd (ρ : Nat × (Nat → Int32)) {n : Nat} : lwStep ρ n 762 := by
  intro σ B hI hB
  exact ⟨σ, rfl, hI.le (by omega)⟩
theorem lw_all (ρ : Nat × (Nat → Int32)) {n : Nat} (hn : n + 5 < ρ.1) (hL : ρ.1 ≤ 3072) : ∀ t ∈ [22, 39, 96, 123, 150, 167, 194, 251, 288, 315, 372, 389, 416, 463, 520, 547, 582, 599, 606, 633, 680, 687, 704, 721, 738, 755], lwStep ρ n t := by
  refine List.forall_mem_cons.mpr ⟨lw_s0 ρ hn hL, List.forall_mem_cons.mpr ⟨lw_s1 ρ hn hL, List.forall_mem_cons.mpr ⟨lw_s2 ρ hn hL, List.forall_mem_cons.mpr ⟨lw_s3 ρ hn hL, List.forall_mem_cons.mpr ⟨lw_s4 ρ hn hL, List.forall_mem_cons.mpr ⟨lw_s5 ρ hn hL, List.forall_mem_cons.mpr ⟨lw_s6 ρ hn hL, List.forall_mem_cons.mpr ⟨lw_s7 ρ hn hL, List.forall_mem_cons.mpr ⟨lw_s8 ρ hn hL, List.forall_mem_cons.mpr ⟨lw_s9 ρ hn hL, List.forall_mem_cons.mpr ⟨lw_s10 ρ hn hL, List.forall_mem_cons.mpr ⟨lw_s11 ρ hn hL, List.forall_mem_cons.mpr ⟨lw_s12 ρ hn hL, List.forall_mem_cons.mpr ⟨lw_s13 ρ hn hL, List.forall_mem_cons.mpr ⟨lw_s14 ρ hn hL, List.forall_mem_cons.mpr ⟨lw_s15 ρ hn hL, List.forall_mem_cons.mpr ⟨lw_s16 ρ hn hL, List.forall_mem_cons.mpr ⟨lw_s17 ρ hn hL, List.forall_mem_cons.mpr ⟨lw_s18 ρ hn hL, List.forall_mem_cons.mpr ⟨lw_s19 ρ hn hL, List.forall_mem_cons.mpr ⟨lw_s20 ρ hn hL, List.forall_mem_cons.mpr ⟨lw_s21 ρ hn hL, List.forall_mem_cons.mpr ⟨lw_s22 ρ hn hL, List.forall_mem_cons.mpr ⟨lw_s23 ρ hn hL, List.forall_mem_cons.mpr ⟨lw_s24 ρ hn hL, List.forall_mem_cons.mpr ⟨lw_s25 ρ hn hL, fun _ h => absurd h List.not_mem_nil⟩⟩⟩⟩⟩⟩⟩⟩⟩⟩⟩⟩⟩⟩⟩⟩⟩⟩⟩⟩⟩⟩⟩⟩⟩⟩
theorem lw_lt {L n : Nat} (hL : L ≤ 3072) (hn : n ≤ 10000) : nI L - 6 < nI n ↔ L < n + 6 := by
  by_cases h : 6 ≤ L
  · obtain ⟨k, rfl⟩ : ∃ k, L = k + 6 := ⟨L - 6, by omega⟩
    have e : nI (k + 6) - 6 = nI k := by
      rw [← a_lit (K := 6) (by decide : (6 : Int32) = nI 6)]
      simp
    rw [e, p_lt rfl (by omega) (by omega)]
    omega
  · have e : nI L - 6 < 0 := by
      have : ∀ L, L < 6 → nI L - 6 < 0 := by decide
      exact this L (by omega)
    exact ⟨fun _ => by omega, fun _ => Int32.lt_of_lt_of_le e (nI_pos' (by omega))⟩
set_option maxRecDepth 100000 in
set_option maxHeartbeats 4000000 in
theorem lw_head (ρ : Nat × (Nat → Int32)) (σ : rd_Sg) {n : Nat} (hL : ρ.1 ≤ 3072) (hn : n ≤ 10000) : rd_R ρ 194 10 (lwV n) [] σ = if ρ.1 < n + 6 then some (1, σ) else rd_R ρ 194 16 (lwV n) [] σ := by
  refine (r_iload_n L_194_10 rfl).trans ?_
  refine (r_aload_n L_194_11 rfl).trans ?_
  refine (r_olen L_194_12 ar_no_100001 ro_100001).trans ?_
  refine (r_bipush L_194_13 kb_6).trans ?_
  refine (r_isub L_194_14).trans ?_
  refine (r_cmpgt L_194_15).trans ?_
  have e : (Int32.ofNat ρ.1 - 6 < nI n) ↔ ρ.1 < n + 6 := lw_lt hL hn
  by_cases h : ρ.1 < n + 6
  · rw [if_pos (e.mpr h), if_pos h]
    refine (r_iconst L_194_764 ki_1).trans ?_
    exact r_ret L_194_765 mz_194
  · rw [if_neg (fun q => h (e.mp q)), if_neg h]
set_option maxRecDepth 100000 in
set_option maxHeartbeats 4000000 in
theorem lw_turn (ρ : Nat × (Nat → Int32)) {n : Nat} (hn : n + 5 < ρ.1) (hL : ρ.1 ≤ 3072) : lwStep ρ n 16 := by
  intro σ B hI hB
  have h : rd_R ρ 194 16 (lwV n) [] σ = rd_R ρ 194 (rd_sw (ρ.2 n &&& 31) 0 [22, 39, 96, 123, 150, 167, 194, 251, 288, 315, 372, 389, 416, 463, 520, 547, 582, 599, 606, 633, 680, 687, 704, 721, 738, 755] 762) (lwV n) [] σ := by
    refine (r_aload_n L_194_16 rfl).trans ?_
    refine (r_iload_n L_194_17 rfl).trans ?_
    refine (r_scr0 L_194_18 hn hL).trans ?_
    refine (r_bipush L_194_19 kb_31).trans ?_
    refine (r_iand L_194_20).trans ?_
    exact r_tsw L_194_21
  rw [h]
  rcases rd_sw_in (x := ρ.2 n &&& 31) (d := 762) [22, 39, 96, 123, 150, 167, 194, 251, 288, 315, 372, 389, 416, 463, 520, 547, 582, 599, 606, 633, 680, 687, 704, 721, 738, 755] 0 with e | e
  · rw [e]; exact lw_sd ρ σ B hI hB
  · exact lw_all ρ hn hL _ e σ B hI hB
theorem lw_back (ρ : Nat × (Nat → Int32)) (σ : rd_Sg) {n : Nat} : rd_R ρ 194 762 (lwV n) [] σ = rd_R ρ 194 10 (lwV (n + 6)) [] σ := by
  refine (r_iinc L_194_762 rfl ki_6 rfl).trans ?_
  refine (r_goto L_194_763).trans ?_
  rw [a_lit (show (6 : Int32) = nI 6 by decide)]
set_option maxRecDepth 100000 in
set_option maxHeartbeats 4000000 in
theorem lw_loop (ρ : Nat × (Nat → Int32)) (hL : ρ.1 ≤ 3072) : ∀ (d n B : Nat) (σ : rd_Sg), n ≤ 3072 + 6 → 3078 ≤ n + 6 * d → B + 1000 * d < 2 ^ 29 → Inv B σ → ∃ σ2, rd_R ρ 194 10 (lwV n) [] σ = some (1, σ2) := by
  intro d
  induction d with
  | zero =>
    intro n B σ h1 h2 h3 hI
    exact ⟨σ, by rw [lw_head ρ σ hL (by omega), if_pos (by omega)]⟩
  | succ d ih =>
    intro n B σ h1 h2 h3 hI
    rw [lw_head ρ σ hL (by omega)]
    by_cases h : ρ.1 < n + 6
    · exact ⟨σ, by rw [if_pos h]⟩
    · rw [if_neg h]
      obtain ⟨σ2, e1, e2⟩ := lw_turn ρ (n := n) (by omega) hL σ B hI (by omega)
      rw [e1, lw_back]
      exact ih (n + 6) (B + 1000) σ2 (by omega) (by omega) (by omega) e2
theorem lw_ends (ρ : Nat × (Nat → Int32)) (hL : ρ.1 ≤ 3072) : ∃ σ2, rd_R ρ 194 10 rd_vs0 [] (rd_num rd_wr0) = some (1, σ2) := lw_loop ρ hL 513 0 0 _ (by omega) (by omega) (by omega) inv_0
