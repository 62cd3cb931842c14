theorem q_all_app {Pr : Nat → q_Op → Prop} {i : Nat} {L1 L2 : List q_Op} {j : Nat} (h1 : q_all Pr i L1) (hj : i + L1.length = j) (h2 : q_all Pr j L2) : q_all Pr i (L1 ++ L2) := fun k op hk => by
  rw [List.getElem?_append] at hk
  split at hk
  · exact h1 k op hk
  · have h3 := h2 (k - L1.length) op hk
    rw [show j + (k - L1.length) = i + k by omega] at h3
    exact h3
set_option maxRecDepth 20000 in
theorem zL_law_0 (b L : Nat) (xs : Nat → Int32) : q_all (q_LX b L xs pL_law) 0 [q_new 9 14, q_dup, q_invI (q_call kX10_init 2) 0, q_astore 1, q_new 10 43, q_dup, q_invI (q_call kX11_init 2) 0, q_astore 2, q_push (.int 0), q_istore 3, q_iload 3, q_aloadX 0, q_slen b L, q_push (.int 6), q_bin (fun x y => x - y), q_cmpgt 652, q_aloadX 0, q_iload 3, q_sld b L xs, q_push (.int 31), q_bin (fun x y => x &&& y), q_switch [(0, 22), (1, 79), (2, 116), (3, 173), (4, 180), (5, 187), (6, 214), (7, 231), (8, 248), (9, 275), (10, 292), (11, 329), (12, 367), (13, 424), (14, 452), (15, 480), (16, 497), (17, 524), (18, 571), (19, 608), (20, 625), (21, 642)] 650, q_aload 1, q_aloadX 0, q_iload 3, q_push (.int 1), q_bin (fun x y => x + y), q_sld b L xs, q_aloadX 0, q_iload 3, q_push (.int 2), q_bin (fun x y => x + y), q_sld b L xs, q_aloadX 0, q_iload 3, q_push (.int 3), q_bin (fun x y => x + y), q_sld b L xs, q_aloadX 0, q_iload 3, q_push (.int 4), q_bin (fun x y => x + y), q_sld b L xs, q_aloadX 0, q_iload 3, q_push (.int 5), q_bin (fun x y => x + y), q_sld b L xs, q_invV [(9, q_call kX10_stuff 7)] 5, q_aload 2, q_aloadX 0, q_iload 3, q_push (.int 1), q_bin (fun x y => x + y), q_sld b L xs, q_aloadX 0, q_iload 3, q_push (.int 2), q_bin (fun x y => x + y), q_sld b L xs] := (q_all_cons (oL_law_0 b L xs) (q_all_cons (oL_law_1 b L xs) (q_all_cons (oL_law_2 b L xs) (q_all_cons (oL_law_3 b L xs) (q_all_cons (oL_law_4 b L xs) (q_all_cons (oL_law_5 b L xs) (q_all_cons (oL_law_6 b L xs) (q_all_cons (oL_law_7 b L xs) (q_all_cons (oL_law_8 b L xs) (q_all_cons (oL_law_9 b L xs) (q_all_cons (oL_law_10 b L xs) (q_all_cons (oL_law_11 b L xs) (q_all_cons (oL_law_12 b L xs) (q_all_cons (oL_law_13 b L xs) (q_all_cons (oL_law_14 b L xs) (q_all_cons (oL_law_15 b L xs) (q_all_cons (oL_law_16 b L xs) (q_all_cons (oL_law_17 b L xs) (q_all_cons (oL_law_18 b L xs) (q_all_cons (oL_law_19 b L xs) (q_all_cons (oL_law_20 b L xs) (q_all_cons (oL_law_21 b L xs) (q_all_cons (oL_law_22 b L xs) (q_all_cons (oL_law_23 b L xs) (q_all_cons (oL_law_24 b L xs) (q_all_cons (oL_law_25 b L xs) (q_all_cons (oL_law_26 b L xs) (q_all_cons (oL_law_27 b L xs) (q_all_cons (oL_law_28 b L xs) (q_all_cons (oL_law_29 b L xs) (q_all_cons (oL_law_30 b L xs) (q_all_cons (oL_law_31 b L xs) (q_all_cons (oL_law_32 b L xs) (q_all_cons (oL_law_33 b L xs) (q_all_cons (oL_law_34 b L xs) (q_all_cons (oL_law_35 b L xs) (q_all_cons (oL_law_36 b L xs) (q_all_cons (oL_law_37 b L xs) (q_all_cons (oL_law_38 b L xs) (q_all_cons (oL_law_39 b L xs) (q_all_cons (oL_law_40 b L xs) (q_all_cons (oL_law_41 b L xs) (q_all_cons (oL_law_42 b L xs) (q_all_cons (oL_law_43 b L xs) (q_all_cons (oL_law_44 b L xs) (q_all_cons (oL_law_45 b L xs) (q_all_cons (oL_law_46 b L xs) (q_all_cons (oL_law_47 b L xs) (q_all_cons (oL_law_48 b L xs) (q_all_cons (oL_law_49 b L xs) (q_all_cons (oL_law_50 b L xs) (q_all_cons (oL_law_51 b L xs) (q_all_cons (oL_law_52 b L xs) (q_all_cons (oL_law_53 b L xs) (q_all_cons (oL_law_54 b L xs) (q_all_cons (oL_law_55 b L xs) (q_all_cons (oL_law_56 b L xs) (q_all_cons (oL_law_57 b L xs) (q_all_cons (oL_law_58 b L xs) (q_all_cons (oL_law_59 b L xs) (q_all_nil _ _)))))))))))))))))))))))))))))))))))))))))))))))))))))))))))))
set_option maxRecDepth 20000 in
theorem zL_law_1 (b L : Nat) (xs : Nat → Int32) : q_all (q_LX b L xs pL_law) 60 [q_aloadX 0, q_iload 3, q_push (.int 3), q_bin (fun x y => x + y), q_sld b L xs, q_aloadX 0, q_iload 3, q_push (.int 4), q_bin (fun x y => x + y), q_sld b L xs, q_aloadX 0, q_iload 3, q_push (.int 5), q_bin (fun x y => x + y), q_sld b L xs, q_invV [(10, q_call kX11_stuff 6)] 5, q_cmpeq 650, q_push (.int 0), q_zret, q_aload 1, q_aloadX 0, q_iload 3, q_push (.int 1), q_bin (fun x y => x + y), q_sld b L xs, q_aloadX 0, q_iload 3, q_push (.int 2), q_bin (fun x y => x + y), q_sld b L xs, q_aloadX 0, q_iload 3, q_push (.int 3), q_bin (fun x y => x + y), q_sld b L xs, q_invV [(9, q_call kX10_press 5)] 3, q_aload 2, q_aloadX 0, q_iload 3, q_push (.int 1), q_bin (fun x y => x + y), q_sld b L xs, q_aloadX 0, q_iload 3, q_push (.int 2), q_bin (fun x y => x + y), q_sld b L xs, q_aloadX 0, q_iload 3, q_push (.int 3), q_bin (fun x y => x + y), q_sld b L xs, q_invV [(10, q_call kX11_press 4)] 3, q_cmpeq 650, q_push (.int 0), q_zret, q_aload 1, q_aloadX 0, q_iload 3, q_push (.int 1)] := (q_all_cons (oL_law_60 b L xs) (q_all_cons (oL_law_61 b L xs) (q_all_cons (oL_law_62 b L xs) (q_all_cons (oL_law_63 b L xs) (q_all_cons (oL_law_64 b L xs) (q_all_cons (oL_law_65 b L xs) (q_all_cons (oL_law_66 b L xs) (q_all_cons (oL_law_67 b L xs) (q_all_cons (oL_law_68 b L xs) (q_all_cons (oL_law_69 b L xs) (q_all_cons (oL_law_70 b L xs) (q_all_cons (oL_law_71 b L xs) (q_all_cons (oL_law_72 b L xs) (q_all_cons (oL_law_73 b L xs) (q_all_cons (oL_law_74 b L xs) (q_all_cons (oL_law_75 b L xs) (q_all_cons (oL_law_76 b L xs) (q_all_cons (oL_law_77 b L xs) (q_all_cons (oL_law_78 b L xs) (q_all_cons (oL_law_79 b L xs) (q_all_cons (oL_law_80 b L xs) (q_all_cons (oL_law_81 b L xs) (q_all_cons (oL_law_82 b L xs) (q_all_cons (oL_law_83 b L xs) (q_all_cons (oL_law_84 b L xs) (q_all_cons (oL_law_85 b L xs) (q_all_cons (oL_law_86 b L xs) (q_all_cons (oL_law_87 b L xs) (q_all_cons (oL_law_88 b L xs) (q_all_cons (oL_law_89 b L xs) (q_all_cons (oL_law_90 b L xs) (q_all_cons (oL_law_91 b L xs) (q_all_cons (oL_law_92 b L xs) (q_all_cons (oL_law_93 b L xs) (q_all_cons (oL_law_94 b L xs) (q_all_cons (oL_law_95 b L xs) (q_all_cons (oL_law_96 b L xs) (q_all_cons (oL_law_97 b L xs) (q_all_cons (oL_law_98 b L xs) (q_all_cons (oL_law_99 b L xs) (q_all_cons (oL_law_100 b L xs) (q_all_cons (oL_law_101 b L xs) (q_all_cons (oL_law_102 b L xs) (q_all_cons (oL_law_103 b L xs) (q_all_cons (oL_law_104 b L xs) (q_all_cons (oL_law_105 b L xs) (q_all_cons (oL_law_106 b L xs) (q_all_cons (oL_law_107 b L xs) (q_all_cons (oL_law_108 b L xs) (q_all_cons (oL_law_109 b L xs) (q_all_cons (oL_law_110 b L xs) (q_all_cons (oL_law_111 b L xs) (q_all_cons (oL_law_112 b L xs) (q_all_cons (oL_law_113 b L xs) (q_all_cons (oL_law_114 b L xs) (q_all_cons (oL_law_115 b L xs) (q_all_cons (oL_law_116 b L xs) (q_all_cons (oL_law_117 b L xs) (q_all_cons (oL_law_118 b L xs) (q_all_cons (oL_law_119 b L xs) (q_all_nil _ _)))))))))))))))))))))))))))))))))))))))))))))))))))))))))))))
set_option maxRecDepth 20000 in
theorem zL_law_2 (b L : Nat) (xs : Nat → Int32) : q_all (q_LX b L xs pL_law) 120 [q_bin (fun x y => x + y), q_sld b L xs, q_aloadX 0, q_iload 3, q_push (.int 2), q_bin (fun x y => x + y), q_sld b L xs, q_aloadX 0, q_iload 3, q_push (.int 3), q_bin (fun x y => x + y), q_sld b L xs, q_aloadX 0, q_iload 3, q_push (.int 4), q_bin (fun x y => x + y), q_sld b L xs, q_aloadX 0, q_iload 3, q_push (.int 5), q_bin (fun x y => x + y), q_sld b L xs, q_invV [(9, q_call kX10_line 6)] 5, q_aload 2, q_aloadX 0, q_iload 3, q_push (.int 1), q_bin (fun x y => x + y), q_sld b L xs, q_aloadX 0, q_iload 3, q_push (.int 2), q_bin (fun x y => x + y), q_sld b L xs, q_aloadX 0, q_iload 3, q_push (.int 3), q_bin (fun x y => x + y), q_sld b L xs, q_aloadX 0, q_iload 3, q_push (.int 4), q_bin (fun x y => x + y), q_sld b L xs, q_aloadX 0, q_iload 3, q_push (.int 5), q_bin (fun x y => x + y), q_sld b L xs, q_invV [(10, q_call kX11_line 6)] 5, q_cmpeq 650, q_push (.int 0), q_zret, q_aload 1, q_invV [(9, q_call kX10_drop 1)] 0, q_aload 2, q_invV [(10, q_call kX11_drop 1)] 0, q_cmpeq 650, q_push (.int 0), q_zret] := (q_all_cons (oL_law_120 b L xs) (q_all_cons (oL_law_121 b L xs) (q_all_cons (oL_law_122 b L xs) (q_all_cons (oL_law_123 b L xs) (q_all_cons (oL_law_124 b L xs) (q_all_cons (oL_law_125 b L xs) (q_all_cons (oL_law_126 b L xs) (q_all_cons (oL_law_127 b L xs) (q_all_cons (oL_law_128 b L xs) (q_all_cons (oL_law_129 b L xs) (q_all_cons (oL_law_130 b L xs) (q_all_cons (oL_law_131 b L xs) (q_all_cons (oL_law_132 b L xs) (q_all_cons (oL_law_133 b L xs) (q_all_cons (oL_law_134 b L xs) (q_all_cons (oL_law_135 b L xs) (q_all_cons (oL_law_136 b L xs) (q_all_cons (oL_law_137 b L xs) (q_all_cons (oL_law_138 b L xs) (q_all_cons (oL_law_139 b L xs) (q_all_cons (oL_law_140 b L xs) (q_all_cons (oL_law_141 b L xs) (q_all_cons (oL_law_142 b L xs) (q_all_cons (oL_law_143 b L xs) (q_all_cons (oL_law_144 b L xs) (q_all_cons (oL_law_145 b L xs) (q_all_cons (oL_law_146 b L xs) (q_all_cons (oL_law_147 b L xs) (q_all_cons (oL_law_148 b L xs) (q_all_cons (oL_law_149 b L xs) (q_all_cons (oL_law_150 b L xs) (q_all_cons (oL_law_151 b L xs) (q_all_cons (oL_law_152 b L xs) (q_all_cons (oL_law_153 b L xs) (q_all_cons (oL_law_154 b L xs) (q_all_cons (oL_law_155 b L xs) (q_all_cons (oL_law_156 b L xs) (q_all_cons (oL_law_157 b L xs) (q_all_cons (oL_law_158 b L xs) (q_all_cons (oL_law_159 b L xs) (q_all_cons (oL_law_160 b L xs) (q_all_cons (oL_law_161 b L xs) (q_all_cons (oL_law_162 b L xs) (q_all_cons (oL_law_163 b L xs) (q_all_cons (oL_law_164 b L xs) (q_all_cons (oL_law_165 b L xs) (q_all_cons (oL_law_166 b L xs) (q_all_cons (oL_law_167 b L xs) (q_all_cons (oL_law_168 b L xs) (q_all_cons (oL_law_169 b L xs) (q_all_cons (oL_law_170 b L xs) (q_all_cons (oL_law_171 b L xs) (q_all_cons (oL_law_172 b L xs) (q_all_cons (oL_law_173 b L xs) (q_all_cons (oL_law_174 b L xs) (q_all_cons (oL_law_175 b L xs) (q_all_cons (oL_law_176 b L xs) (q_all_cons (oL_law_177 b L xs) (q_all_cons (oL_law_178 b L xs) (q_all_cons (oL_law_179 b L xs) (q_all_nil _ _)))))))))))))))))))))))))))))))))))))))))))))))))))))))))))))
set_option maxRecDepth 20000 in
theorem zL_law_3 (b L : Nat) (xs : Nat → Int32) : q_all (q_LX b L xs pL_law) 180 [q_aload 1, q_invV [(9, q_call kX10_turns 1)] 0, q_aload 2, q_invV [(10, q_call kX11_turns 1)] 0, q_cmpeq 650, q_push (.int 0), q_zret, q_aload 1, q_aloadX 0, q_iload 3, q_push (.int 1), q_bin (fun x y => x + y), q_sld b L xs, q_aloadX 0, q_iload 3, q_push (.int 2), q_bin (fun x y => x + y), q_sld b L xs, q_invV [(9, q_call kX10_set 4)] 2, q_aload 2, q_aloadX 0, q_iload 3, q_push (.int 1), q_bin (fun x y => x + y), q_sld b L xs, q_aloadX 0, q_iload 3, q_push (.int 2), q_bin (fun x y => x + y), q_sld b L xs, q_invV [(10, q_call kX11_set 4)] 2, q_cmpeq 650, q_push (.int 0), q_zret, q_aload 1, q_aloadX 0, q_iload 3, q_push (.int 1), q_bin (fun x y => x + y), q_sld b L xs, q_invV [(9, q_call kX10_run 3)] 1, q_aload 2, q_aloadX 0, q_iload 3, q_push (.int 1), q_bin (fun x y => x + y), q_sld b L xs, q_invV [(10, q_call kX11_run 6)] 1, q_cmpeq 650, q_push (.int 0), q_zret, q_aload 1, q_aloadX 0, q_iload 3, q_push (.int 1), q_bin (fun x y => x + y), q_sld b L xs, q_invV [(9, q_call kX10_lose 3)] 1, q_aload 2, q_aloadX 0] := (q_all_cons (oL_law_180 b L xs) (q_all_cons (oL_law_181 b L xs) (q_all_cons (oL_law_182 b L xs) (q_all_cons (oL_law_183 b L xs) (q_all_cons (oL_law_184 b L xs) (q_all_cons (oL_law_185 b L xs) (q_all_cons (oL_law_186 b L xs) (q_all_cons (oL_law_187 b L xs) (q_all_cons (oL_law_188 b L xs) (q_all_cons (oL_law_189 b L xs) (q_all_cons (oL_law_190 b L xs) (q_all_cons (oL_law_191 b L xs) (q_all_cons (oL_law_192 b L xs) (q_all_cons (oL_law_193 b L xs) (q_all_cons (oL_law_194 b L xs) (q_all_cons (oL_law_195 b L xs) (q_all_cons (oL_law_196 b L xs) (q_all_cons (oL_law_197 b L xs) (q_all_cons (oL_law_198 b L xs) (q_all_cons (oL_law_199 b L xs) (q_all_cons (oL_law_200 b L xs) (q_all_cons (oL_law_201 b L xs) (q_all_cons (oL_law_202 b L xs) (q_all_cons (oL_law_203 b L xs) (q_all_cons (oL_law_204 b L xs) (q_all_cons (oL_law_205 b L xs) (q_all_cons (oL_law_206 b L xs) (q_all_cons (oL_law_207 b L xs) (q_all_cons (oL_law_208 b L xs) (q_all_cons (oL_law_209 b L xs) (q_all_cons (oL_law_210 b L xs) (q_all_cons (oL_law_211 b L xs) (q_all_cons (oL_law_212 b L xs) (q_all_cons (oL_law_213 b L xs) (q_all_cons (oL_law_214 b L xs) (q_all_cons (oL_law_215 b L xs) (q_all_cons (oL_law_216 b L xs) (q_all_cons (oL_law_217 b L xs) (q_all_cons (oL_law_218 b L xs) (q_all_cons (oL_law_219 b L xs) (q_all_cons (oL_law_220 b L xs) (q_all_cons (oL_law_221 b L xs) (q_all_cons (oL_law_222 b L xs) (q_all_cons (oL_law_223 b L xs) (q_all_cons (oL_law_224 b L xs) (q_all_cons (oL_law_225 b L xs) (q_all_cons (oL_law_226 b L xs) (q_all_cons (oL_law_227 b L xs) (q_all_cons (oL_law_228 b L xs) (q_all_cons (oL_law_229 b L xs) (q_all_cons (oL_law_230 b L xs) (q_all_cons (oL_law_231 b L xs) (q_all_cons (oL_law_232 b L xs) (q_all_cons (oL_law_233 b L xs) (q_all_cons (oL_law_234 b L xs) (q_all_cons (oL_law_235 b L xs) (q_all_cons (oL_law_236 b L xs) (q_all_cons (oL_law_237 b L xs) (q_all_cons (oL_law_238 b L xs) (q_all_cons (oL_law_239 b L xs) (q_all_nil _ _)))))))))))))))))))))))))))))))))))))))))))))))))))))))))))))
set_option maxRecDepth 20000 in
theorem zL_law_4 (b L : Nat) (xs : Nat → Int32) : q_all (q_LX b L xs pL_law) 240 [q_iload 3, q_push (.int 1), q_bin (fun x y => x + y), q_sld b L xs, q_invV [(10, q_call kX11_lose 2)] 1, q_cmpeq 650, q_push (.int 0), q_zret, q_aload 1, q_aloadX 0, q_iload 3, q_push (.int 1), q_bin (fun x y => x + y), q_sld b L xs, q_aloadX 0, q_iload 3, q_push (.int 2), q_bin (fun x y => x + y), q_sld b L xs, q_invV [(9, q_call kX10_at 3)] 2, q_aload 2, q_aloadX 0, q_iload 3, q_push (.int 1), q_bin (fun x y => x + y), q_sld b L xs, q_aloadX 0, q_iload 3, q_push (.int 2), q_bin (fun x y => x + y), q_sld b L xs, q_invV [(10, q_call kX11_at 3)] 2, q_cmpeq 650, q_push (.int 0), q_zret, q_aload 1, q_aloadX 0, q_iload 3, q_push (.int 1), q_bin (fun x y => x + y), q_sld b L xs, q_invV [(9, q_call kX10_about 2)] 1, q_aload 2, q_aloadX 0, q_iload 3, q_push (.int 1), q_bin (fun x y => x + y), q_sld b L xs, q_invV [(10, q_call kX11_about 2)] 1, q_cmpeq 650, q_push (.int 0), q_zret, q_aload 1, q_aloadX 0, q_iload 3, q_push (.int 1), q_bin (fun x y => x + y), q_sld b L xs, q_aloadX 0, q_iload 3] := (q_all_cons (oL_law_240 b L xs) (q_all_cons (oL_law_241 b L xs) (q_all_cons (oL_law_242 b L xs) (q_all_cons (oL_law_243 b L xs) (q_all_cons (oL_law_244 b L xs) (q_all_cons (oL_law_245 b L xs) (q_all_cons (oL_law_246 b L xs) (q_all_cons (oL_law_247 b L xs) (q_all_cons (oL_law_248 b L xs) (q_all_cons (oL_law_249 b L xs) (q_all_cons (oL_law_250 b L xs) (q_all_cons (oL_law_251 b L xs) (q_all_cons (oL_law_252 b L xs) (q_all_cons (oL_law_253 b L xs) (q_all_cons (oL_law_254 b L xs) (q_all_cons (oL_law_255 b L xs) (q_all_cons (oL_law_256 b L xs) (q_all_cons (oL_law_257 b L xs) (q_all_cons (oL_law_258 b L xs) (q_all_cons (oL_law_259 b L xs) (q_all_cons (oL_law_260 b L xs) (q_all_cons (oL_law_261 b L xs) (q_all_cons (oL_law_262 b L xs) (q_all_cons (oL_law_263 b L xs) (q_all_cons (oL_law_264 b L xs) (q_all_cons (oL_law_265 b L xs) (q_all_cons (oL_law_266 b L xs) (q_all_cons (oL_law_267 b L xs) (q_all_cons (oL_law_268 b L xs) (q_all_cons (oL_law_269 b L xs) (q_all_cons (oL_law_270 b L xs) (q_all_cons (oL_law_271 b L xs) (q_all_cons (oL_law_272 b L xs) (q_all_cons (oL_law_273 b L xs) (q_all_cons (oL_law_274 b L xs) (q_all_cons (oL_law_275 b L xs) (q_all_cons (oL_law_276 b L xs) (q_all_cons (oL_law_277 b L xs) (q_all_cons (oL_law_278 b L xs) (q_all_cons (oL_law_279 b L xs) (q_all_cons (oL_law_280 b L xs) (q_all_cons (oL_law_281 b L xs) (q_all_cons (oL_law_282 b L xs) (q_all_cons (oL_law_283 b L xs) (q_all_cons (oL_law_284 b L xs) (q_all_cons (oL_law_285 b L xs) (q_all_cons (oL_law_286 b L xs) (q_all_cons (oL_law_287 b L xs) (q_all_cons (oL_law_288 b L xs) (q_all_cons (oL_law_289 b L xs) (q_all_cons (oL_law_290 b L xs) (q_all_cons (oL_law_291 b L xs) (q_all_cons (oL_law_292 b L xs) (q_all_cons (oL_law_293 b L xs) (q_all_cons (oL_law_294 b L xs) (q_all_cons (oL_law_295 b L xs) (q_all_cons (oL_law_296 b L xs) (q_all_cons (oL_law_297 b L xs) (q_all_cons (oL_law_298 b L xs) (q_all_cons (oL_law_299 b L xs) (q_all_nil _ _)))))))))))))))))))))))))))))))))))))))))))))))))))))))))))))
set_option maxRecDepth 20000 in
theorem zL_law_5 (b L : Nat) (xs : Nat → Int32) : q_all (q_LX b L xs pL_law) 300 [q_push (.int 2), q_bin (fun x y => x + y), q_sld b L xs, q_aloadX 0, q_iload 3, q_push (.int 3), q_bin (fun x y => x + y), q_sld b L xs, q_invV [(9, q_call kX10_steady 6)] 3, q_aload 2, q_aloadX 0, q_iload 3, q_push (.int 1), q_bin (fun x y => x + y), q_sld b L xs, q_aloadX 0, q_iload 3, q_push (.int 2), q_bin (fun x y => x + y), q_sld b L xs, q_aloadX 0, q_iload 3, q_push (.int 3), q_bin (fun x y => x + y), q_sld b L xs, q_invV [(10, q_call kX11_steady 9)] 3, q_cmpeq 650, q_push (.int 0), q_zret, q_aload 1, q_aloadX 0, q_iload 3, q_push (.int 1), q_bin (fun x y => x + y), q_sld b L xs, q_aloadX 0, q_iload 3, q_push (.int 2), q_bin (fun x y => x + y), q_sld b L xs, q_aloadX 0, q_iload 3, q_push (.int 3), q_bin (fun x y => x + y), q_sld b L xs, q_invV [(9, q_call kX10_miss 4)] 3, q_aload 2, q_aloadX 0, q_iload 3, q_push (.int 1), q_bin (fun x y => x + y), q_sld b L xs, q_aloadX 0, q_iload 3, q_push (.int 2), q_bin (fun x y => x + y), q_sld b L xs, q_aloadX 0, q_iload 3, q_push (.int 3)] := (q_all_cons (oL_law_300 b L xs) (q_all_cons (oL_law_301 b L xs) (q_all_cons (oL_law_302 b L xs) (q_all_cons (oL_law_303 b L xs) (q_all_cons (oL_law_304 b L xs) (q_all_cons (oL_law_305 b L xs) (q_all_cons (oL_law_306 b L xs) (q_all_cons (oL_law_307 b L xs) (q_all_cons (oL_law_308 b L xs) (q_all_cons (oL_law_309 b L xs) (q_all_cons (oL_law_310 b L xs) (q_all_cons (oL_law_311 b L xs) (q_all_cons (oL_law_312 b L xs) (q_all_cons (oL_law_313 b L xs) (q_all_cons (oL_law_314 b L xs) (q_all_cons (oL_law_315 b L xs) (q_all_cons (oL_law_316 b L xs) (q_all_cons (oL_law_317 b L xs) (q_all_cons (oL_law_318 b L xs) (q_all_cons (oL_law_319 b L xs) (q_all_cons (oL_law_320 b L xs) (q_all_cons (oL_law_321 b L xs) (q_all_cons (oL_law_322 b L xs) (q_all_cons (oL_law_323 b L xs) (q_all_cons (oL_law_324 b L xs) (q_all_cons (oL_law_325 b L xs) (q_all_cons (oL_law_326 b L xs) (q_all_cons (oL_law_327 b L xs) (q_all_cons (oL_law_328 b L xs) (q_all_cons (oL_law_329 b L xs) (q_all_cons (oL_law_330 b L xs) (q_all_cons (oL_law_331 b L xs) (q_all_cons (oL_law_332 b L xs) (q_all_cons (oL_law_333 b L xs) (q_all_cons (oL_law_334 b L xs) (q_all_cons (oL_law_335 b L xs) (q_all_cons (oL_law_336 b L xs) (q_all_cons (oL_law_337 b L xs) (q_all_cons (oL_law_338 b L xs) (q_all_cons (oL_law_339 b L xs) (q_all_cons (oL_law_340 b L xs) (q_all_cons (oL_law_341 b L xs) (q_all_cons (oL_law_342 b L xs) (q_all_cons (oL_law_343 b L xs) (q_all_cons (oL_law_344 b L xs) (q_all_cons (oL_law_345 b L xs) (q_all_cons (oL_law_346 b L xs) (q_all_cons (oL_law_347 b L xs) (q_all_cons (oL_law_348 b L xs) (q_all_cons (oL_law_349 b L xs) (q_all_cons (oL_law_350 b L xs) (q_all_cons (oL_law_351 b L xs) (q_all_cons (oL_law_352 b L xs) (q_all_cons (oL_law_353 b L xs) (q_all_cons (oL_law_354 b L xs) (q_all_cons (oL_law_355 b L xs) (q_all_cons (oL_law_356 b L xs) (q_all_cons (oL_law_357 b L xs) (q_all_cons (oL_law_358 b L xs) (q_all_cons (oL_law_359 b L xs) (q_all_nil _ _)))))))))))))))))))))))))))))))))))))))))))))))))))))))))))))
set_option maxRecDepth 20000 in
theorem zL_law_6 (b L : Nat) (xs : Nat → Int32) : q_all (q_LX b L xs pL_law) 360 [q_bin (fun x y => x + y), q_sld b L xs, q_invV [(10, q_call kX11_miss 10)] 3, q_lcmp, q_ifeq 650, q_push (.int 0), q_zret, q_aload 1, q_aloadX 0, q_iload 3, q_push (.int 1), q_bin (fun x y => x + y), q_sld b L xs, q_aloadX 0, q_iload 3, q_push (.int 2), q_bin (fun x y => x + y), q_sld b L xs, q_aloadX 0, q_iload 3, q_push (.int 3), q_bin (fun x y => x + y), q_sld b L xs, q_aloadX 0, q_iload 3, q_push (.int 4), q_bin (fun x y => x + y), q_sld b L xs, q_aloadX 0, q_iload 3, q_push (.int 5), q_bin (fun x y => x + y), q_sld b L xs, q_invV [(9, q_call kX10_beside 6)] 5, q_aload 2, q_aloadX 0, q_iload 3, q_push (.int 1), q_bin (fun x y => x + y), q_sld b L xs, q_aloadX 0, q_iload 3, q_push (.int 2), q_bin (fun x y => x + y), q_sld b L xs, q_aloadX 0, q_iload 3, q_push (.int 3), q_bin (fun x y => x + y), q_sld b L xs, q_aloadX 0, q_iload 3, q_push (.int 4), q_bin (fun x y => x + y), q_sld b L xs, q_aloadX 0, q_iload 3, q_push (.int 5), q_bin (fun x y => x + y), q_sld b L xs] := (q_all_cons (oL_law_360 b L xs) (q_all_cons (oL_law_361 b L xs) (q_all_cons (oL_law_362 b L xs) (q_all_cons (oL_law_363 b L xs) (q_all_cons (oL_law_364 b L xs) (q_all_cons (oL_law_365 b L xs) (q_all_cons (oL_law_366 b L xs) (q_all_cons (oL_law_367 b L xs) (q_all_cons (oL_law_368 b L xs) (q_all_cons (oL_law_369 b L xs) (q_all_cons (oL_law_370 b L xs) (q_all_cons (oL_law_371 b L xs) (q_all_cons (oL_law_372 b L xs) (q_all_cons (oL_law_373 b L xs) (q_all_cons (oL_law_374 b L xs) (q_all_cons (oL_law_375 b L xs) (q_all_cons (oL_law_376 b L xs) (q_all_cons (oL_law_377 b L xs) (q_all_cons (oL_law_378 b L xs) (q_all_cons (oL_law_379 b L xs) (q_all_cons (oL_law_380 b L xs) (q_all_cons (oL_law_381 b L xs) (q_all_cons (oL_law_382 b L xs) (q_all_cons (oL_law_383 b L xs) (q_all_cons (oL_law_384 b L xs) (q_all_cons (oL_law_385 b L xs) (q_all_cons (oL_law_386 b L xs) (q_all_cons (oL_law_387 b L xs) (q_all_cons (oL_law_388 b L xs) (q_all_cons (oL_law_389 b L xs) (q_all_cons (oL_law_390 b L xs) (q_all_cons (oL_law_391 b L xs) (q_all_cons (oL_law_392 b L xs) (q_all_cons (oL_law_393 b L xs) (q_all_cons (oL_law_394 b L xs) (q_all_cons (oL_law_395 b L xs) (q_all_cons (oL_law_396 b L xs) (q_all_cons (oL_law_397 b L xs) (q_all_cons (oL_law_398 b L xs) (q_all_cons (oL_law_399 b L xs) (q_all_cons (oL_law_400 b L xs) (q_all_cons (oL_law_401 b L xs) (q_all_cons (oL_law_402 b L xs) (q_all_cons (oL_law_403 b L xs) (q_all_cons (oL_law_404 b L xs) (q_all_cons (oL_law_405 b L xs) (q_all_cons (oL_law_406 b L xs) (q_all_cons (oL_law_407 b L xs) (q_all_cons (oL_law_408 b L xs) (q_all_cons (oL_law_409 b L xs) (q_all_cons (oL_law_410 b L xs) (q_all_cons (oL_law_411 b L xs) (q_all_cons (oL_law_412 b L xs) (q_all_cons (oL_law_413 b L xs) (q_all_cons (oL_law_414 b L xs) (q_all_cons (oL_law_415 b L xs) (q_all_cons (oL_law_416 b L xs) (q_all_cons (oL_law_417 b L xs) (q_all_cons (oL_law_418 b L xs) (q_all_cons (oL_law_419 b L xs) (q_all_nil _ _)))))))))))))))))))))))))))))))))))))))))))))))))))))))))))))
set_option maxRecDepth 20000 in
theorem zL_law_7 (b L : Nat) (xs : Nat → Int32) : q_all (q_LX b L xs pL_law) 420 [q_invV [(10, q_call kX11_beside 11)] 5, q_cmpeq 650, q_push (.int 0), q_zret, q_aload 1, q_aloadX 0, q_iload 3, q_push (.int 1), q_bin (fun x y => x + y), q_sld b L xs, q_aloadX 0, q_iload 3, q_push (.int 2), q_bin (fun x y => x + y), q_sld b L xs, q_invV [(9, q_call kX10_swing 10)] 2, q_aload 2, q_aloadX 0, q_iload 3, q_push (.int 1), q_bin (fun x y => x + y), q_sld b L xs, q_aloadX 0, q_iload 3, q_push (.int 2), q_bin (fun x y => x + y), q_sld b L xs, q_invV [(10, q_call kX11_swing 13)] 2, q_lcmp, q_ifeq 650, q_push (.int 0), q_zret, q_aload 1, q_aloadX 0, q_iload 3, q_push (.int 1), q_bin (fun x y => x + y), q_sld b L xs, q_aloadX 0, q_iload 3, q_push (.int 2), q_bin (fun x y => x + y), q_sld b L xs, q_invV [(9, q_call kX10_area 3)] 2, q_aload 2, q_aloadX 0, q_iload 3, q_push (.int 1), q_bin (fun x y => x + y), q_sld b L xs, q_aloadX 0, q_iload 3, q_push (.int 2), q_bin (fun x y => x + y), q_sld b L xs, q_invV [(10, q_call kX11_area 6)] 2, q_lcmp, q_ifeq 650, q_push (.int 0), q_zret] := (q_all_cons (oL_law_420 b L xs) (q_all_cons (oL_law_421 b L xs) (q_all_cons (oL_law_422 b L xs) (q_all_cons (oL_law_423 b L xs) (q_all_cons (oL_law_424 b L xs) (q_all_cons (oL_law_425 b L xs) (q_all_cons (oL_law_426 b L xs) (q_all_cons (oL_law_427 b L xs) (q_all_cons (oL_law_428 b L xs) (q_all_cons (oL_law_429 b L xs) (q_all_cons (oL_law_430 b L xs) (q_all_cons (oL_law_431 b L xs) (q_all_cons (oL_law_432 b L xs) (q_all_cons (oL_law_433 b L xs) (q_all_cons (oL_law_434 b L xs) (q_all_cons (oL_law_435 b L xs) (q_all_cons (oL_law_436 b L xs) (q_all_cons (oL_law_437 b L xs) (q_all_cons (oL_law_438 b L xs) (q_all_cons (oL_law_439 b L xs) (q_all_cons (oL_law_440 b L xs) (q_all_cons (oL_law_441 b L xs) (q_all_cons (oL_law_442 b L xs) (q_all_cons (oL_law_443 b L xs) (q_all_cons (oL_law_444 b L xs) (q_all_cons (oL_law_445 b L xs) (q_all_cons (oL_law_446 b L xs) (q_all_cons (oL_law_447 b L xs) (q_all_cons (oL_law_448 b L xs) (q_all_cons (oL_law_449 b L xs) (q_all_cons (oL_law_450 b L xs) (q_all_cons (oL_law_451 b L xs) (q_all_cons (oL_law_452 b L xs) (q_all_cons (oL_law_453 b L xs) (q_all_cons (oL_law_454 b L xs) (q_all_cons (oL_law_455 b L xs) (q_all_cons (oL_law_456 b L xs) (q_all_cons (oL_law_457 b L xs) (q_all_cons (oL_law_458 b L xs) (q_all_cons (oL_law_459 b L xs) (q_all_cons (oL_law_460 b L xs) (q_all_cons (oL_law_461 b L xs) (q_all_cons (oL_law_462 b L xs) (q_all_cons (oL_law_463 b L xs) (q_all_cons (oL_law_464 b L xs) (q_all_cons (oL_law_465 b L xs) (q_all_cons (oL_law_466 b L xs) (q_all_cons (oL_law_467 b L xs) (q_all_cons (oL_law_468 b L xs) (q_all_cons (oL_law_469 b L xs) (q_all_cons (oL_law_470 b L xs) (q_all_cons (oL_law_471 b L xs) (q_all_cons (oL_law_472 b L xs) (q_all_cons (oL_law_473 b L xs) (q_all_cons (oL_law_474 b L xs) (q_all_cons (oL_law_475 b L xs) (q_all_cons (oL_law_476 b L xs) (q_all_cons (oL_law_477 b L xs) (q_all_cons (oL_law_478 b L xs) (q_all_cons (oL_law_479 b L xs) (q_all_nil _ _)))))))))))))))))))))))))))))))))))))))))))))))))))))))))))))
set_option maxRecDepth 20000 in
theorem zL_law_8 (b L : Nat) (xs : Nat → Int32) : q_all (q_LX b L xs pL_law) 480 [q_aload 1, q_aloadX 0, q_iload 3, q_push (.int 1), q_bin (fun x y => x + y), q_sld b L xs, q_invV [(9, q_call kX10_keep 2)] 1, q_aload 2, q_aloadX 0, q_iload 3, q_push (.int 1), q_bin (fun x y => x + y), q_sld b L xs, q_invV [(10, q_call kX11_keep 3)] 1, q_cmpeq 650, q_push (.int 0), q_zret, q_aload 1, q_aloadX 0, q_iload 3, q_push (.int 1), q_bin (fun x y => x + y), q_sld b L xs, q_aloadX 0, q_iload 3, q_push (.int 2), q_bin (fun x y => x + y), q_sld b L xs, q_invV [(9, q_call kX10_curve 4)] 2, q_aload 2, q_aloadX 0, q_iload 3, q_push (.int 1), q_bin (fun x y => x + y), q_sld b L xs, q_aloadX 0, q_iload 3, q_push (.int 2), q_bin (fun x y => x + y), q_sld b L xs, q_invV [(10, q_call kX11_curve 3)] 2, q_cmpeq 650, q_push (.int 0), q_zret, q_aload 1, q_aloadX 0, q_iload 3, q_push (.int 1), q_bin (fun x y => x + y), q_sld b L xs, q_aloadX 0, q_iload 3, q_push (.int 2), q_bin (fun x y => x + y), q_sld b L xs, q_aloadX 0, q_iload 3, q_push (.int 3), q_bin (fun x y => x + y), q_sld b L xs] := (q_all_cons (oL_law_480 b L xs) (q_all_cons (oL_law_481 b L xs) (q_all_cons (oL_law_482 b L xs) (q_all_cons (oL_law_483 b L xs) (q_all_cons (oL_law_484 b L xs) (q_all_cons (oL_law_485 b L xs) (q_all_cons (oL_law_486 b L xs) (q_all_cons (oL_law_487 b L xs) (q_all_cons (oL_law_488 b L xs) (q_all_cons (oL_law_489 b L xs) (q_all_cons (oL_law_490 b L xs) (q_all_cons (oL_law_491 b L xs) (q_all_cons (oL_law_492 b L xs) (q_all_cons (oL_law_493 b L xs) (q_all_cons (oL_law_494 b L xs) (q_all_cons (oL_law_495 b L xs) (q_all_cons (oL_law_496 b L xs) (q_all_cons (oL_law_497 b L xs) (q_all_cons (oL_law_498 b L xs) (q_all_cons (oL_law_499 b L xs) (q_all_cons (oL_law_500 b L xs) (q_all_cons (oL_law_501 b L xs) (q_all_cons (oL_law_502 b L xs) (q_all_cons (oL_law_503 b L xs) (q_all_cons (oL_law_504 b L xs) (q_all_cons (oL_law_505 b L xs) (q_all_cons (oL_law_506 b L xs) (q_all_cons (oL_law_507 b L xs) (q_all_cons (oL_law_508 b L xs) (q_all_cons (oL_law_509 b L xs) (q_all_cons (oL_law_510 b L xs) (q_all_cons (oL_law_511 b L xs) (q_all_cons (oL_law_512 b L xs) (q_all_cons (oL_law_513 b L xs) (q_all_cons (oL_law_514 b L xs) (q_all_cons (oL_law_515 b L xs) (q_all_cons (oL_law_516 b L xs) (q_all_cons (oL_law_517 b L xs) (q_all_cons (oL_law_518 b L xs) (q_all_cons (oL_law_519 b L xs) (q_all_cons (oL_law_520 b L xs) (q_all_cons (oL_law_521 b L xs) (q_all_cons (oL_law_522 b L xs) (q_all_cons (oL_law_523 b L xs) (q_all_cons (oL_law_524 b L xs) (q_all_cons (oL_law_525 b L xs) (q_all_cons (oL_law_526 b L xs) (q_all_cons (oL_law_527 b L xs) (q_all_cons (oL_law_528 b L xs) (q_all_cons (oL_law_529 b L xs) (q_all_cons (oL_law_530 b L xs) (q_all_cons (oL_law_531 b L xs) (q_all_cons (oL_law_532 b L xs) (q_all_cons (oL_law_533 b L xs) (q_all_cons (oL_law_534 b L xs) (q_all_cons (oL_law_535 b L xs) (q_all_cons (oL_law_536 b L xs) (q_all_cons (oL_law_537 b L xs) (q_all_cons (oL_law_538 b L xs) (q_all_cons (oL_law_539 b L xs) (q_all_nil _ _)))))))))))))))))))))))))))))))))))))))))))))))))))))))))))))
set_option maxRecDepth 20000 in
theorem zL_law_9 (b L : Nat) (xs : Nat → Int32) : q_all (q_LX b L xs pL_law) 540 [q_aloadX 0, q_iload 3, q_push (.int 4), q_bin (fun x y => x + y), q_sld b L xs, q_invV [(9, q_call kX10_spread 5)] 4, q_aload 2, q_aloadX 0, q_iload 3, q_push (.int 1), q_bin (fun x y => x + y), q_sld b L xs, q_aloadX 0, q_iload 3, q_push (.int 2), q_bin (fun x y => x + y), q_sld b L xs, q_aloadX 0, q_iload 3, q_push (.int 3), q_bin (fun x y => x + y), q_sld b L xs, q_aloadX 0, q_iload 3, q_push (.int 4), q_bin (fun x y => x + y), q_sld b L xs, q_invV [(10, q_call kX11_spread 6)] 4, q_cmpeq 650, q_push (.int 0), q_zret, q_aload 1, q_aloadX 0, q_iload 3, q_push (.int 1), q_bin (fun x y => x + y), q_sld b L xs, q_aloadX 0, q_iload 3, q_push (.int 2), q_bin (fun x y => x + y), q_sld b L xs, q_aloadX 0, q_iload 3, q_push (.int 3), q_bin (fun x y => x + y), q_sld b L xs, q_invV [(9, q_call kX10_shift 4)] 3, q_aload 2, q_aloadX 0, q_iload 3, q_push (.int 1), q_bin (fun x y => x + y), q_sld b L xs, q_aloadX 0, q_iload 3, q_push (.int 2), q_bin (fun x y => x + y), q_sld b L xs, q_aloadX 0] := (q_all_cons (oL_law_540 b L xs) (q_all_cons (oL_law_541 b L xs) (q_all_cons (oL_law_542 b L xs) (q_all_cons (oL_law_543 b L xs) (q_all_cons (oL_law_544 b L xs) (q_all_cons (oL_law_545 b L xs) (q_all_cons (oL_law_546 b L xs) (q_all_cons (oL_law_547 b L xs) (q_all_cons (oL_law_548 b L xs) (q_all_cons (oL_law_549 b L xs) (q_all_cons (oL_law_550 b L xs) (q_all_cons (oL_law_551 b L xs) (q_all_cons (oL_law_552 b L xs) (q_all_cons (oL_law_553 b L xs) (q_all_cons (oL_law_554 b L xs) (q_all_cons (oL_law_555 b L xs) (q_all_cons (oL_law_556 b L xs) (q_all_cons (oL_law_557 b L xs) (q_all_cons (oL_law_558 b L xs) (q_all_cons (oL_law_559 b L xs) (q_all_cons (oL_law_560 b L xs) (q_all_cons (oL_law_561 b L xs) (q_all_cons (oL_law_562 b L xs) (q_all_cons (oL_law_563 b L xs) (q_all_cons (oL_law_564 b L xs) (q_all_cons (oL_law_565 b L xs) (q_all_cons (oL_law_566 b L xs) (q_all_cons (oL_law_567 b L xs) (q_all_cons (oL_law_568 b L xs) (q_all_cons (oL_law_569 b L xs) (q_all_cons (oL_law_570 b L xs) (q_all_cons (oL_law_571 b L xs) (q_all_cons (oL_law_572 b L xs) (q_all_cons (oL_law_573 b L xs) (q_all_cons (oL_law_574 b L xs) (q_all_cons (oL_law_575 b L xs) (q_all_cons (oL_law_576 b L xs) (q_all_cons (oL_law_577 b L xs) (q_all_cons (oL_law_578 b L xs) (q_all_cons (oL_law_579 b L xs) (q_all_cons (oL_law_580 b L xs) (q_all_cons (oL_law_581 b L xs) (q_all_cons (oL_law_582 b L xs) (q_all_cons (oL_law_583 b L xs) (q_all_cons (oL_law_584 b L xs) (q_all_cons (oL_law_585 b L xs) (q_all_cons (oL_law_586 b L xs) (q_all_cons (oL_law_587 b L xs) (q_all_cons (oL_law_588 b L xs) (q_all_cons (oL_law_589 b L xs) (q_all_cons (oL_law_590 b L xs) (q_all_cons (oL_law_591 b L xs) (q_all_cons (oL_law_592 b L xs) (q_all_cons (oL_law_593 b L xs) (q_all_cons (oL_law_594 b L xs) (q_all_cons (oL_law_595 b L xs) (q_all_cons (oL_law_596 b L xs) (q_all_cons (oL_law_597 b L xs) (q_all_cons (oL_law_598 b L xs) (q_all_cons (oL_law_599 b L xs) (q_all_nil _ _)))))))))))))))))))))))))))))))))))))))))))))))))))))))))))))
set_option maxRecDepth 20000 in
theorem zL_law_10 (b L : Nat) (xs : Nat → Int32) : q_all (q_LX b L xs pL_law) 600 [q_iload 3, q_push (.int 3), q_bin (fun x y => x + y), q_sld b L xs, q_invV [(10, q_call kX11_shift 11)] 3, q_cmpeq 650, q_push (.int 0), q_zret, q_aload 1, q_aloadX 0, q_iload 3, q_push (.int 1), q_bin (fun x y => x + y), q_sld b L xs, q_invV [(9, q_call kX10_check 5)] 1, q_aload 2, q_aloadX 0, q_iload 3, q_push (.int 1), q_bin (fun x y => x + y), q_sld b L xs, q_invV [(10, q_call kX11_check 5)] 1, q_cmpeq 650, q_push (.int 0), q_zret, q_aload 1, q_aloadX 0, q_iload 3, q_push (.int 1), q_bin (fun x y => x + y), q_sld b L xs, q_invV [(9, q_call kX10_count 2)] 1, q_aload 2, q_aloadX 0, q_iload 3, q_push (.int 1), q_bin (fun x y => x + y), q_sld b L xs, q_invV [(10, q_call kX11_count 4)] 1, q_cmpeq 650, q_push (.int 0), q_zret, q_aload 1, q_invV [(9, q_call kX10_trace 1)] 0, q_aload 2, q_invV [(10, q_call kX11_trace 1)] 0, q_lcmp, q_ifeq 650, q_push (.int 0), q_zret, q_iinc 3 6, q_goto 10, q_push (.int 1), q_zret] := (q_all_cons (oL_law_600 b L xs) (q_all_cons (oL_law_601 b L xs) (q_all_cons (oL_law_602 b L xs) (q_all_cons (oL_law_603 b L xs) (q_all_cons (oL_law_604 b L xs) (q_all_cons (oL_law_605 b L xs) (q_all_cons (oL_law_606 b L xs) (q_all_cons (oL_law_607 b L xs) (q_all_cons (oL_law_608 b L xs) (q_all_cons (oL_law_609 b L xs) (q_all_cons (oL_law_610 b L xs) (q_all_cons (oL_law_611 b L xs) (q_all_cons (oL_law_612 b L xs) (q_all_cons (oL_law_613 b L xs) (q_all_cons (oL_law_614 b L xs) (q_all_cons (oL_law_615 b L xs) (q_all_cons (oL_law_616 b L xs) (q_all_cons (oL_law_617 b L xs) (q_all_cons (oL_law_618 b L xs) (q_all_cons (oL_law_619 b L xs) (q_all_cons (oL_law_620 b L xs) (q_all_cons (oL_law_621 b L xs) (q_all_cons (oL_law_622 b L xs) (q_all_cons (oL_law_623 b L xs) (q_all_cons (oL_law_624 b L xs) (q_all_cons (oL_law_625 b L xs) (q_all_cons (oL_law_626 b L xs) (q_all_cons (oL_law_627 b L xs) (q_all_cons (oL_law_628 b L xs) (q_all_cons (oL_law_629 b L xs) (q_all_cons (oL_law_630 b L xs) (q_all_cons (oL_law_631 b L xs) (q_all_cons (oL_law_632 b L xs) (q_all_cons (oL_law_633 b L xs) (q_all_cons (oL_law_634 b L xs) (q_all_cons (oL_law_635 b L xs) (q_all_cons (oL_law_636 b L xs) (q_all_cons (oL_law_637 b L xs) (q_all_cons (oL_law_638 b L xs) (q_all_cons (oL_law_639 b L xs) (q_all_cons (oL_law_640 b L xs) (q_all_cons (oL_law_641 b L xs) (q_all_cons (oL_law_642 b L xs) (q_all_cons (oL_law_643 b L xs) (q_all_cons (oL_law_644 b L xs) (q_all_cons (oL_law_645 b L xs) (q_all_cons (oL_law_646 b L xs) (q_all_cons (oL_law_647 b L xs) (q_all_cons (oL_law_648 b L xs) (q_all_cons (oL_law_649 b L xs) (q_all_cons (oL_law_650 b L xs) (q_all_cons (oL_law_651 b L xs) (q_all_cons (oL_law_652 b L xs) (q_all_cons (oL_law_653 b L xs) (q_all_nil _ _)))))))))))))))))))))))))))))))))))))))))))))))))))))))
set_option maxRecDepth 20000 in
theorem zL_law (b L : Nat) (xs : Nat → Int32) : q_all (q_LX b L xs pL_law) 0 (kL_law b L xs) := q_all_app (zL_law_0 b L xs) rfl (q_all_app (zL_law_1 b L xs) rfl (q_all_app (zL_law_2 b L xs) rfl (q_all_app (zL_law_3 b L xs) rfl (q_all_app (zL_law_4 b L xs) rfl (q_all_app (zL_law_5 b L xs) rfl (q_all_app (zL_law_6 b L xs) rfl (q_all_app (zL_law_7 b L xs) rfl (q_all_app (zL_law_8 b L xs) rfl (q_all_app (zL_law_9 b L xs) rfl (zL_law_10 b L xs))))))))))
set_option maxRecDepth 20000 in
theorem sL_law_0 {b L : Nat} {xs : Nat → Int32} (lo : q_Lo) (st : List Value) (S : q_S) : q_ev (kL_law b L xs) (0, lo, st, S) = q_fin (kL_law b L xs) ((q_new 9 14) 0 lo st S) := q_ev_step rfl lo st S
set_option maxRecDepth 20000 in
theorem sL_law_1 {b L : Nat} {xs : Nat → Int32} (lo : q_Lo) (st : List Value) (S : q_S) : q_ev (kL_law b L xs) (1, lo, st, S) = q_fin (kL_law b L xs) ((q_dup) 1 lo st S) := q_ev_step rfl lo st S
set_option maxRecDepth 20000 in
theorem sL_law_2 {b L : Nat} {xs : Nat → Int32} (lo : q_Lo) (st : List Value) (S : q_S) : q_ev (kL_law b L xs) (2, lo, st, S) = q_fin (kL_law b L xs) ((q_invI (q_call kX10_init 2) 0) 2 lo st S) := q_ev_step rfl lo st S
set_option maxRecDepth 20000 in
theorem sL_law_3 {b L : Nat} {xs : Nat → Int32} (lo : q_Lo) (st : List Value) (S : q_S) : q_ev (kL_law b L xs) (3, lo, st, S) = q_fin (kL_law b L xs) ((q_astore 1) 3 lo st S) := q_ev_step rfl lo st S
set_option maxRecDepth 20000 in
theorem sL_law_4 {b L : Nat} {xs : Nat → Int32} (lo : q_Lo) (st : List Value) (S : q_S) : q_ev (kL_law b L xs) (4, lo, st, S) = q_fin (kL_law b L xs) ((q_new 10 43) 4 lo st S) := q_ev_step rfl lo st S
set_option maxRecDepth 20000 in
theorem sL_law_5 {b L : Nat} {xs : Nat → Int32} (lo : q_Lo) (st : List Value) (S : q_S) : q_ev (kL_law b L xs) (5, lo, st, S) = q_fin (kL_law b L xs) ((q_dup) 5 lo st S) := q_ev_step rfl lo st S
set_option maxRecDepth 20000 in
theorem sL_law_6 {b L : Nat} {xs : Nat → Int32} (lo : q_Lo) (st : List Value) (S : q_S) : q_ev (kL_law b L xs) (6, lo, st, S) = q_fin (kL_law b L xs) ((q_invI (q_call kX11_init 2) 0) 6 lo st S) := q_ev_step rfl lo st S
set_option maxRecDepth 20000 in
theorem sL_law_7 {b L : Nat} {xs : Nat → Int32} (lo : q_Lo) (st : List Value) (S : q_S) : q_ev (kL_law b L xs) (7, lo, st, S) = q_fin (kL_law b L xs) ((q_astore 2) 7 lo st S) := q_ev_step rfl lo st S
set_option maxRecDepth 20000 in
theorem sL_law_8 {b L : Nat} {xs : Nat → Int32} (lo : q_Lo) (st : List Value) (S : q_S) : q_ev (kL_law b L xs) (8, lo, st, S) = q_fin (kL_law b L xs) ((q_push (.int 0)) 8 lo st S) := q_ev_step rfl lo st S
set_option maxRecDepth 20000 in
theorem sL_law_9 {b L : Nat} {xs : Nat → Int32} (lo : q_Lo) (st : List Value) (S : q_S) : q_ev (kL_law b L xs) (9, lo, st, S) = q_fin (kL_law b L xs) ((q_istore 3) 9 lo st S) := q_ev_step rfl lo st S
set_option maxRecDepth 20000 in
theorem sL_law_10 {b L : Nat} {xs : Nat → Int32} (lo : q_Lo) (st : List Value) (S : q_S) : q_ev (kL_law b L xs) (10, lo, st, S) = q_fin (kL_law b L xs) ((q_iload 3) 10 lo st S) := q_ev_step rfl lo st S
set_option maxRecDepth 20000 in
theorem sL_law_11 {b L : Nat} {xs : Nat → Int32} (lo : q_Lo) (st : List Value) (S : q_S) : q_ev (kL_law b L xs) (11, lo, st, S) = q_fin (kL_law b L xs) ((q_aloadX 0) 11 lo st S) := q_ev_step rfl lo st S
set_option maxRecDepth 20000 in
theorem sL_law_12 {b L : Nat} {xs : Nat → Int32} (lo : q_Lo) (st : List Value) (S : q_S) : q_ev (kL_law b L xs) (12, lo, st, S) = q_fin (kL_law b L xs) ((q_slen b L) 12 lo st S) := q_ev_step rfl lo st S
set_option maxRecDepth 20000 in
theorem sL_law_13 {b L : Nat} {xs : Nat → Int32} (lo : q_Lo) (st : List Value) (S : q_S) : q_ev (kL_law b L xs) (13, lo, st, S) = q_fin (kL_law b L xs) ((q_push (.int 6)) 13 lo st S) := q_ev_step rfl lo st S
set_option maxRecDepth 20000 in
theorem sL_law_14 {b L : Nat} {xs : Nat → Int32} (lo : q_Lo) (st : List Value) (S : q_S) : q_ev (kL_law b L xs) (14, lo, st, S) = q_fin (kL_law b L xs) ((q_bin (fun x y => x - y)) 14 lo st S) := q_ev_step rfl lo st S
set_option maxRecDepth 20000 in
theorem sL_law_15 {b L : Nat} {xs : Nat → Int32} (lo : q_Lo) (st : List Value) (S : q_S) : q_ev (kL_law b L xs) (15, lo, st, S) = q_fin (kL_law b L xs) ((q_cmpgt 652) 15 lo st S) := q_ev_step rfl lo st S
set_option maxRecDepth 20000 in
theorem sL_law_16 {b L : Nat} {xs : Nat → Int32} (lo : q_Lo) (st : List Value) (S : q_S) : q_ev (kL_law b L xs) (16, lo, st, S) = q_fin (kL_law b L xs) ((q_aloadX 0) 16 lo st S) := q_ev_step rfl lo st S
set_option maxRecDepth 20000 in
theorem sL_law_17 {b L : Nat} {xs : Nat → Int32} (lo : q_Lo) (st : List Value) (S : q_S) : q_ev (kL_law b L xs) (17, lo, st, S) = q_fin (kL_law b L xs) ((q_iload 3) 17 lo st S) := q_ev_step rfl lo st S
set_option maxRecDepth 20000 in
theorem sL_law_18 {b L : Nat} {xs : Nat → Int32} (lo : q_Lo) (st : List Value) (S : q_S) : q_ev (kL_law b L xs) (18, lo, st, S) = q_fin (kL_law b L xs) ((q_sld b L xs) 18 lo st S) := q_ev_step rfl lo st S
set_option maxRecDepth 20000 in
theorem sL_law_19 {b L : Nat} {xs : Nat → Int32} (lo : q_Lo) (st : List Value) (S : q_S) : q_ev (kL_law b L xs) (19, lo, st, S) = q_fin (kL_law b L xs) ((q_push (.int 31)) 19 lo st S) := q_ev_step rfl lo st S
set_option maxRecDepth 20000 in
theorem sL_law_20 {b L : Nat} {xs : Nat → Int32} (lo : q_Lo) (st : List Value) (S : q_S) : q_ev (kL_law b L xs) (20, lo, st, S) = q_fin (kL_law b L xs) ((q_bin (fun x y => x &&& y)) 20 lo st S) := q_ev_step rfl lo st S
set_option maxRecDepth 20000 in
theorem sL_law_21 {b L : Nat} {xs : Nat → Int32} (lo : q_Lo) (st : List Value) (S : q_S) : q_ev (kL_law b L xs) (21, lo, st, S) = q_fin (kL_law b L xs) ((q_switch [(0, 22), (1, 79), (2, 116), (3, 173), (4, 180), (5, 187), (6, 214), (7, 231), (8, 248), (9, 275), (10, 292), (11, 329), (12, 367), (13, 424), (14, 452), (15, 480), (16, 497), (17, 524), (18, 571), (19, 608), (20, 625), (21, 642)] 650) 21 lo st S) := q_ev_step rfl lo st S
set_option maxRecDepth 20000 in
theorem sL_law_22 {b L : Nat} {xs : Nat → Int32} (lo : q_Lo) (st : List Value) (S : q_S) : q_ev (kL_law b L xs) (22, lo, st, S) = q_fin (kL_law b L xs) ((q_aload 1) 22 lo st S) := q_ev_step rfl lo st S
set_option maxRecDepth 20000 in
theorem sL_law_23 {b L : Nat} {xs : Nat → Int32} (lo : q_Lo) (st : List Value) (S : q_S) : q_ev (kL_law b L xs) (23, lo, st, S) = q_fin (kL_law b L xs) ((q_aloadX 0) 23 lo st S) := q_ev_step rfl lo st S
set_option maxRecDepth 20000 in
theorem sL_law_24 {b L : Nat} {xs : Nat → Int32} (lo : q_Lo) (st : List Value) (S : q_S) : q_ev (kL_law b L xs) (24, lo, st, S) = q_fin (kL_law b L xs) ((q_iload 3) 24 lo st S) := q_ev_step rfl lo st S
set_option maxRecDepth 20000 in
theorem sL_law_25 {b L : Nat} {xs : Nat → Int32} (lo : q_Lo) (st : List Value) (S : q_S) : q_ev (kL_law b L xs) (25, lo, st, S) = q_fin (kL_law b L xs) ((q_push (.int 1)) 25 lo st S) := q_ev_step rfl lo st S
set_option maxRecDepth 20000 in
theorem sL_law_26 {b L : Nat} {xs : Nat → Int32} (lo : q_Lo) (st : List Value) (S : q_S) : q_ev (kL_law b L xs) (26, lo, st, S) = q_fin (kL_law b L xs) ((q_bin (fun x y => x + y)) 26 lo st S) := q_ev_step rfl lo st S
set_option maxRecDepth 20000 in
theorem sL_law_27 {b L : Nat} {xs : Nat → Int32} (lo : q_Lo) (st : List Value) (S : q_S) : q_ev (kL_law b L xs) (27, lo, st, S) = q_fin (kL_law b L xs) ((q_sld b L xs) 27 lo st S) := q_ev_step rfl lo st S
set_option maxRecDepth 20000 in
theorem sL_law_28 {b L : Nat} {xs : Nat → Int32} (lo : q_Lo) (st : List Value) (S : q_S) : q_ev (kL_law b L xs) (28, lo, st, S) = q_fin (kL_law b L xs) ((q_aloadX 0) 28 lo st S) := q_ev_step rfl lo st S
set_option maxRecDepth 20000 in
theorem sL_law_29 {b L : Nat} {xs : Nat → Int32} (lo : q_Lo) (st : List Value) (S : q_S) : q_ev (kL_law b L xs) (29, lo, st, S) = q_fin (kL_law b L xs) ((q_iload 3) 29 lo st S) := q_ev_step rfl lo st S
set_option maxRecDepth 20000 in
theorem sL_law_30 {b L : Nat} {xs : Nat → Int32} (lo : q_Lo) (st : List Value) (S : q_S) : q_ev (kL_law b L xs) (30, lo, st, S) = q_fin (kL_law b L xs) ((q_push (.int 2)) 30 lo st S) := q_ev_step rfl lo st S
set_option maxRecDepth 20000 in
theorem sL_law_31 {b L : Nat} {xs : Nat → Int32} (lo : q_Lo) (st : List Value) (S : q_S) : q_ev (kL_law b L xs) (31, lo, st, S) = q_fin (kL_law b L xs) ((q_bin (fun x y => x + y)) 31 lo st S) := q_ev_step rfl lo st S
set_option maxRecDepth 20000 in
theorem sL_law_32 {b L : Nat} {xs : Nat → Int32} (lo : q_Lo) (st : List Value) (S : q_S) : q_ev (kL_law b L xs) (32, lo, st, S) = q_fin (kL_law b L xs) ((q_sld b L xs) 32 lo st S) := q_ev_step rfl lo st S
set_option maxRecDepth 20000 in
theorem sL_law_33 {b L : Nat} {xs : Nat → Int32} (lo : q_Lo) (st : List Value) (S : q_S) : q_ev (kL_law b L xs) (33, lo, st, S) = q_fin (kL_law b L xs) ((q_aloadX 0) 33 lo st S) := q_ev_step rfl lo st S
set_option maxRecDepth 20000 in
theorem sL_law_34 {b L : Nat} {xs : Nat → Int32} (lo : q_Lo) (st : List Value) (S : q_S) : q_ev (kL_law b L xs) (34, lo, st, S) = q_fin (kL_law b L xs) ((q_iload 3) 34 lo st S) := q_ev_step rfl lo st S
set_option maxRecDepth 20000 in
theorem sL_law_35 {b L : Nat} {xs : Nat → Int32} (lo : q_Lo) (st : List Value) (S : q_S) : q_ev (kL_law b L xs) (35, lo, st, S) = q_fin (kL_law b L xs) ((q_push (.int 3)) 35 lo st S) := q_ev_step rfl lo st S
set_option maxRecDepth 20000 in
theorem sL_law_36 {b L : Nat} {xs : Nat → Int32} (lo : q_Lo) (st : List Value) (S : q_S) : q_ev (kL_law b L xs) (36, lo, st, S) = q_fin (kL_law b L xs) ((q_bin (fun x y => x + y)) 36 lo st S) := q_ev_step rfl lo st S
set_option maxRecDepth 20000 in
theorem sL_law_37 {b L : Nat} {xs : Nat → Int32} (lo : q_Lo) (st : List Value) (S : q_S) : q_ev (kL_law b L xs) (37, lo, st, S) = q_fin (kL_law b L xs) ((q_sld b L xs) 37 lo st S) := q_ev_step rfl lo st S
set_option maxRecDepth 20000 in
theorem sL_law_38 {b L : Nat} {xs : Nat → Int32} (lo : q_Lo) (st : List Value) (S : q_S) : q_ev (kL_law b L xs) (38, lo, st, S) = q_fin (kL_law b L xs) ((q_aloadX 0) 38 lo st S) := q_ev_step rfl lo st S
set_option maxRecDepth 20000 in
theorem sL_law_39 {b L : Nat} {xs : Nat → Int32} (lo : q_Lo) (st : List Value) (S : q_S) : q_ev (kL_law b L xs) (39, lo, st, S) = q_fin (kL_law b L xs) ((q_iload 3) 39 lo st S) := q_ev_step rfl lo st S
set_option maxRecDepth 20000 in
theorem sL_law_40 {b L : Nat} {xs : Nat → Int32} (lo : q_Lo) (st : List Value) (S : q_S) : q_ev (kL_law b L xs) (40, lo, st, S) = q_fin (kL_law b L xs) ((q_push (.int 4)) 40 lo st S) := q_ev_step rfl lo st S
set_option maxRecDepth 20000 in
theorem sL_law_41 {b L : Nat} {xs : Nat → Int32} (lo : q_Lo) (st : List Value) (S : q_S) : q_ev (kL_law b L xs) (41, lo, st, S) = q_fin (kL_law b L xs) ((q_bin (fun x y => x + y)) 41 lo st S) := q_ev_step rfl lo st S
set_option maxRecDepth 20000 in
theorem sL_law_42 {b L : Nat} {xs : Nat → Int32} (lo : q_Lo) (st : List Value) (S : q_S) : q_ev (kL_law b L xs) (42, lo, st, S) = q_fin (kL_law b L xs) ((q_sld b L xs) 42 lo st S) := q_ev_step rfl lo st S
set_option maxRecDepth 20000 in
theorem sL_law_43 {b L : Nat} {xs : Nat → Int32} (lo : q_Lo) (st : List Value) (S : q_S) : q_ev (kL_law b L xs) (43, lo, st, S) = q_fin (kL_law b L xs) ((q_aloadX 0) 43 lo st S) := q_ev_step rfl lo st S
set_option maxRecDepth 20000 in
theorem sL_law_44 {b L : Nat} {xs : Nat → Int32} (lo : q_Lo) (st : List Value) (S : q_S) : q_ev (kL_law b L xs) (44, lo, st, S) = q_fin (kL_law b L xs) ((q_iload 3) 44 lo st S) := q_ev_step rfl lo st S
set_option maxRecDepth 20000 in
theorem sL_law_45 {b L : Nat} {xs : Nat → Int32} (lo : q_Lo) (st : List Value) (S : q_S) : q_ev (kL_law b L xs) (45, lo, st, S) = q_fin (kL_law b L xs) ((q_push (.int 5)) 45 lo st S) := q_ev_step rfl lo st S
set_option maxRecDepth 20000 in
theorem sL_law_46 {b L : Nat} {xs : Nat → Int32} (lo : q_Lo) (st : List Value) (S : q_S) : q_ev (kL_law b L xs) (46, lo, st, S) = q_fin (kL_law b L xs) ((q_bin (fun x y => x + y)) 46 lo st S) := q_ev_step rfl lo st S
set_option maxRecDepth 20000 in
theorem sL_law_47 {b L : Nat} {xs : Nat → Int32} (lo : q_Lo) (st : List Value) (S : q_S) : q_ev (kL_law b L xs) (47, lo, st, S) = q_fin (kL_law b L xs) ((q_sld b L xs) 47 lo st S) := q_ev_step rfl lo st S
set_option maxRecDepth 20000 in
theorem sL_law_48 {b L : Nat} {xs : Nat → Int32} (lo : q_Lo) (st : List Value) (S : q_S) : q_ev (kL_law b L xs) (48, lo, st, S) = q_fin (kL_law b L xs) ((q_invV [(9, q_call kX10_stuff 7)] 5) 48 lo st S) := q_ev_step rfl lo st S
set_option maxRecDepth 20000 in
theorem sL_law_49 {b L : Nat} {xs : Nat → Int32} (lo : q_Lo) (st : List Value) (S : q_S) : q_ev (kL_law b L xs) (49, lo, st, S) = q_fin (kL_law b L xs) ((q_aload 2) 49 lo st S) := q_ev_step rfl lo st S
set_option maxRecDepth 20000 in
theorem sL_law_50 {b L : Nat} {xs : Nat → Int32} (lo : q_Lo) (st : List Value) (S : q_S) : q_ev (kL_law b L xs) (50, lo, st, S) = q_fin (kL_law b L xs) ((q_aloadX 0) 50 lo st S) := q_ev_step rfl lo st S
set_option maxRecDepth 20000 in
theorem sL_law_51 {b L : Nat} {xs : Nat → Int32} (lo : q_Lo) (st : List Value) (S : q_S) : q_ev (kL_law b L xs) (51, lo, st, S) = q_fin (kL_law b L xs) ((q_iload 3) 51 lo st S) := q_ev_step rfl lo st S
set_option maxRecDepth 20000 in
theorem sL_law_52 {b L : Nat} {xs : Nat → Int32} (lo : q_Lo) (st : List Value) (S : q_S) : q_ev (kL_law b L xs) (52, lo, st, S) = q_fin (kL_law b L xs) ((q_push (.int 1)) 52 lo st S) := q_ev_step rfl lo st S
set_option maxRecDepth 20000 in
theorem sL_law_53 {b L : Nat} {xs : Nat → Int32} (lo : q_Lo) (st : List Value) (S : q_S) : q_ev (kL_law b L xs) (53, lo, st, S) = q_fin (kL_law b L xs) ((q_bin (fun x y => x + y)) 53 lo st S) := q_ev_step rfl lo st S
set_option maxRecDepth 20000 in
theorem sL_law_54 {b L : Nat} {xs : Nat → Int32} (lo : q_Lo) (st : List Value) (S : q_S) : q_ev (kL_law b L xs) (54, lo, st, S) = q_fin (kL_law b L xs) ((q_sld b L xs) 54 lo st S) := q_ev_step rfl lo st S
set_option maxRecDepth 20000 in
theorem sL_law_55 {b L : Nat} {xs : Nat → Int32} (lo : q_Lo) (st : List Value) (S : q_S) : q_ev (kL_law b L xs) (55, lo, st, S) = q_fin (kL_law b L xs) ((q_aloadX 0) 55 lo st S) := q_ev_step rfl lo st S
set_option maxRecDepth 20000 in
theorem sL_law_56 {b L : Nat} {xs : Nat → Int32} (lo : q_Lo) (st : List Value) (S : q_S) : q_ev (kL_law b L xs) (56, lo, st, S) = q_fin (kL_law b L xs) ((q_iload 3) 56 lo st S) := q_ev_step rfl lo st S
set_option maxRecDepth 20000 in
theorem sL_law_57 {b L : Nat} {xs : Nat → Int32} (lo : q_Lo) (st : List Value) (S : q_S) : q_ev (kL_law b L xs) (57, lo, st, S) = q_fin (kL_law b L xs) ((q_push (.int 2)) 57 lo st S) := q_ev_step rfl lo st S
set_option maxRecDepth 20000 in
theorem sL_law_58 {b L : Nat} {xs : Nat → Int32} (lo : q_Lo) (st : List Value) (S : q_S) : q_ev (kL_law b L xs) (58, lo, st, S) = q_fin (kL_law b L xs) ((q_bin (fun x y => x + y)) 58 lo st S) := q_ev_step rfl lo st S
set_option maxRecDepth 20000 in
theorem sL_law_59 {b L : Nat} {xs : Nat → Int32} (lo : q_Lo) (st : List Value) (S : q_S) : q_ev (kL_law b L xs) (59, lo, st, S) = q_fin (kL_law b L xs) ((q_sld b L xs) 59 lo st S) := q_ev_step rfl lo st S
set_option maxRecDepth 20000 in
theorem sL_law_60 {b L : Nat} {xs : Nat → Int32} (lo : q_Lo) (st : List Value) (S : q_S) : q_ev (kL_law b L xs) (60, lo, st, S) = q_fin (kL_law b L xs) ((q_aloadX 0) 60 lo st S) := q_ev_step rfl lo st S
set_option maxRecDepth 20000 in
theorem sL_law_61 {b L : Nat} {xs : Nat → Int32} (lo : q_Lo) (st : List Value) (S : q_S) : q_ev (kL_law b L xs) (61, lo, st, S) = q_fin (kL_law b L xs) ((q_iload 3) 61 lo st S) := q_ev_step rfl lo st S
set_option maxRecDepth 20000 in
theorem sL_law_62 {b L : Nat} {xs : Nat → Int32} (lo : q_Lo) (st : List Value) (S : q_S) : q_ev (kL_law b L xs) (62, lo, st, S) = q_fin (kL_law b L xs) ((q_push (.int 3)) 62 lo st S) := q_ev_step rfl lo st S
set_option maxRecDepth 20000 in
theorem sL_law_63 {b L : Nat} {xs : Nat → Int32} (lo : q_Lo) (st : List Value) (S : q_S) : q_ev (kL_law b L xs) (63, lo, st, S) = q_fin (kL_law b L xs) ((q_bin (fun x y => x + y)) 63 lo st S) := q_ev_step rfl lo st S
set_option maxRecDepth 20000 in
theorem sL_law_64 {b L : Nat} {xs : Nat → Int32} (lo : q_Lo) (st : List Value) (S : q_S) : q_ev (kL_law b L xs) (64, lo, st, S) = q_fin (kL_law b L xs) ((q_sld b L xs) 64 lo st S) := q_ev_step rfl lo st S
set_option maxRecDepth 20000 in
theorem sL_law_65 {b L : Nat} {xs : Nat → Int32} (lo : q_Lo) (st : List Value) (S : q_S) : q_ev (kL_law b L xs) (65, lo, st, S) = q_fin (kL_law b L xs) ((q_aloadX 0) 65 lo st S) := q_ev_step rfl lo st S
set_option maxRecDepth 20000 in
theorem sL_law_66 {b L : Nat} {xs : Nat → Int32} (lo : q_Lo) (st : List Value) (S : q_S) : q_ev (kL_law b L xs) (66, lo, st, S) = q_fin (kL_law b L xs) ((q_iload 3) 66 lo st S) := q_ev_step rfl lo st S
set_option maxRecDepth 20000 in
theorem sL_law_67 {b L : Nat} {xs : Nat → Int32} (lo : q_Lo) (st : List Value) (S : q_S) : q_ev (kL_law b L xs) (67, lo, st, S) = q_fin (kL_law b L xs) ((q_push (.int 4)) 67 lo st S) := q_ev_step rfl lo st S
set_option maxRecDepth 20000 in
theorem sL_law_68 {b L : Nat} {xs : Nat → Int32} (lo : q_Lo) (st : List Value) (S : q_S) : q_ev (kL_law b L xs) (68, lo, st, S) = q_fin (kL_law b L xs) ((q_bin (fun x y => x + y)) 68 lo st S) := q_ev_step rfl lo st S
set_option maxRecDepth 20000 in
theorem sL_law_69 {b L : Nat} {xs : Nat → Int32} (lo : q_Lo) (st : List Value) (S : q_S) : q_ev (kL_law b L xs) (69, lo, st, S) = q_fin (kL_law b L xs) ((q_sld b L xs) 69 lo st S) := q_ev_step rfl lo st S
set_option maxRecDepth 20000 in
theorem sL_law_70 {b L : Nat} {xs : Nat → Int32} (lo : q_Lo) (st : List Value) (S : q_S) : q_ev (kL_law b L xs) (70, lo, st, S) = q_fin (kL_law b L xs) ((q_aloadX 0) 70 lo st S) := q_ev_step rfl lo st S
set_option maxRecDepth 20000 in
theorem sL_law_71 {b L : Nat} {xs : Nat → Int32} (lo : q_Lo) (st : List Value) (S : q_S) : q_ev (kL_law b L xs) (71, lo, st, S) = q_fin (kL_law b L xs) ((q_iload 3) 71 lo st S) := q_ev_step rfl lo st S
set_option maxRecDepth 20000 in
theorem sL_law_72 {b L : Nat} {xs : Nat → Int32} (lo : q_Lo) (st : List Value) (S : q_S) : q_ev (kL_law b L xs) (72, lo, st, S) = q_fin (kL_law b L xs) ((q_push (.int 5)) 72 lo st S) := q_ev_step rfl lo st S
set_option maxRecDepth 20000 in
theorem sL_law_73 {b L : Nat} {xs : Nat → Int32} (lo : q_Lo) (st : List Value) (S : q_S) : q_ev (kL_law b L xs) (73, lo, st, S) = q_fin (kL_law b L xs) ((q_bin (fun x y => x + y)) 73 lo st S) := q_ev_step rfl lo st S
set_option maxRecDepth 20000 in
theorem sL_law_74 {b L : Nat} {xs : Nat → Int32} (lo : q_Lo) (st : List Value) (S : q_S) : q_ev (kL_law b L xs) (74, lo, st, S) = q_fin (kL_law b L xs) ((q_sld b L xs) 74 lo st S) := q_ev_step rfl lo st S
set_option maxRecDepth 20000 in
theorem sL_law_75 {b L : Nat} {xs : Nat → Int32} (lo : q_Lo) (st : List Value) (S : q_S) : q_ev (kL_law b L xs) (75, lo, st, S) = q_fin (kL_law b L xs) ((q_invV [(10, q_call kX11_stuff 6)] 5) 75 lo st S) := q_ev_step rfl lo st S
set_option maxRecDepth 20000 in
theorem sL_law_76 {b L : Nat} {xs : Nat → Int32} (lo : q_Lo) (st : List Value) (S : q_S) : q_ev (kL_law b L xs) (76, lo, st, S) = q_fin (kL_law b L xs) ((q_cmpeq 650) 76 lo st S) := q_ev_step rfl lo st S
set_option maxRecDepth 20000 in
theorem sL_law_77 {b L : Nat} {xs : Nat → Int32} (lo : q_Lo) (st : List Value) (S : q_S) : q_ev (kL_law b L xs) (77, lo, st, S) = q_fin (kL_law b L xs) ((q_push (.int 0)) 77 lo st S) := q_ev_step rfl lo st S
set_option maxRecDepth 20000 in
theorem sL_law_78 {b L : Nat} {xs : Nat → Int32} (lo : q_Lo) (st : List Value) (S : q_S) : q_ev (kL_law b L xs) (78, lo, st, S) = q_fin (kL_law b L xs) ((q_zret) 78 lo st S) := q_ev_step rfl lo st S
set_option maxRecDepth 20000 in
theorem sL_law_79 {b L : Nat} {xs : Nat → Int32} (lo : q_Lo) (st : List Value) (S : q_S) : q_ev (kL_law b L xs) (79, lo, st, S) = q_fin (kL_law b L xs) ((q_aload 1) 79 lo st S) := q_ev_step rfl lo st S
set_option maxRecDepth 20000 in
theorem sL_law_80 {b L : Nat} {xs : Nat → Int32} (lo : q_Lo) (st : List Value) (S : q_S) : q_ev (kL_law b L xs) (80, lo, st, S) = q_fin (kL_law b L xs) ((q_aloadX 0) 80 lo st S) := q_ev_step rfl lo st S
set_option maxRecDepth 20000 in
theorem sL_law_81 {b L : Nat} {xs : Nat → Int32} (lo : q_Lo) (st : List Value) (S : q_S) : q_ev (kL_law b L xs) (81, lo, st, S) = q_fin (kL_law b L xs) ((q_iload 3) 81 lo st S) := q_ev_step rfl lo st S
set_option maxRecDepth 20000 in
theorem sL_law_82 {b L : Nat} {xs : Nat → Int32} (lo : q_Lo) (st : List Value) (S : q_S) : q_ev (kL_law b L xs) (82, lo, st, S) = q_fin (kL_law b L xs) ((q_push (.int 1)) 82 lo st S) := q_ev_step rfl lo st S
set_option maxRecDepth 20000 in
theorem sL_law_83 {b L : Nat} {xs : Nat → Int32} (lo : q_Lo) (st : List Value) (S : q_S) : q_ev (kL_law b L xs) (83, lo, st, S) = q_fin (kL_law b L xs) ((q_bin (fun x y => x + y)) 83 lo st S) := q_ev_step rfl lo st S
set_option maxRecDepth 20000 in
theorem sL_law_84 {b L : Nat} {xs : Nat → Int32} (lo : q_Lo) (st : List Value) (S : q_S) : q_ev (kL_law b L xs) (84, lo, st, S) = q_fin (kL_law b L xs) ((q_sld b L xs) 84 lo st S) := q_ev_step rfl lo st S
set_option maxRecDepth 20000 in
theorem sL_law_85 {b L : Nat} {xs : Nat → Int32} (lo : q_Lo) (st : List Value) (S : q_S) : q_ev (kL_law b L xs) (85, lo, st, S) = q_fin (kL_law b L xs) ((q_aloadX 0) 85 lo st S) := q_ev_step rfl lo st S
set_option maxRecDepth 20000 in
theorem sL_law_86 {b L : Nat} {xs : Nat → Int32} (lo : q_Lo) (st : List Value) (S : q_S) : q_ev (kL_law b L xs) (86, lo, st, S) = q_fin (kL_law b L xs) ((q_iload 3) 86 lo st S) := q_ev_step rfl lo st S
set_option maxRecDepth 20000 in
theorem sL_law_87 {b L : Nat} {xs : Nat → Int32} (lo : q_Lo) (st : List Value) (S : q_S) : q_ev (kL_law b L xs) (87, lo, st, S) = q_fin (kL_law b L xs) ((q_push (.int 2)) 87 lo st S) := q_ev_step rfl lo st S
set_option maxRecDepth 20000 in
theorem sL_law_88 {b L : Nat} {xs : Nat → Int32} (lo : q_Lo) (st : List Value) (S : q_S) : q_ev (kL_law b L xs) (88, lo, st, S) = q_fin (kL_law b L xs) ((q_bin (fun x y => x + y)) 88 lo st S) := q_ev_step rfl lo st S
set_option maxRecDepth 20000 in
theorem sL_law_89 {b L : Nat} {xs : Nat → Int32} (lo : q_Lo) (st : List Value) (S : q_S) : q_ev (kL_law b L xs) (89, lo, st, S) = q_fin (kL_law b L xs) ((q_sld b L xs) 89 lo st S) := q_ev_step rfl lo st S
set_option maxRecDepth 20000 in
theorem sL_law_90 {b L : Nat} {xs : Nat → Int32} (lo : q_Lo) (st : List Value) (S : q_S) : q_ev (kL_law b L xs) (90, lo, st, S) = q_fin (kL_law b L xs) ((q_aloadX 0) 90 lo st S) := q_ev_step rfl lo st S
set_option maxRecDepth 20000 in
theorem sL_law_91 {b L : Nat} {xs : Nat → Int32} (lo : q_Lo) (st : List Value) (S : q_S) : q_ev (kL_law b L xs) (91, lo, st, S) = q_fin (kL_law b L xs) ((q_iload 3) 91 lo st S) := q_ev_step rfl lo st S
set_option maxRecDepth 20000 in
theorem sL_law_92 {b L : Nat} {xs : Nat → Int32} (lo : q_Lo) (st : List Value) (S : q_S) : q_ev (kL_law b L xs) (92, lo, st, S) = q_fin (kL_law b L xs) ((q_push (.int 3)) 92 lo st S) := q_ev_step rfl lo st S
set_option maxRecDepth 20000 in
theorem sL_law_93 {b L : Nat} {xs : Nat → Int32} (lo : q_Lo) (st : List Value) (S : q_S) : q_ev (kL_law b L xs) (93, lo, st, S) = q_fin (kL_law b L xs) ((q_bin (fun x y => x + y)) 93 lo st S) := q_ev_step rfl lo st S
set_option maxRecDepth 20000 in
theorem sL_law_94 {b L : Nat} {xs : Nat → Int32} (lo : q_Lo) (st : List Value) (S : q_S) : q_ev (kL_law b L xs) (94, lo, st, S) = q_fin (kL_law b L xs) ((q_sld b L xs) 94 lo st S) := q_ev_step rfl lo st S
set_option maxRecDepth 20000 in
theorem sL_law_95 {b L : Nat} {xs : Nat → Int32} (lo : q_Lo) (st : List Value) (S : q_S) : q_ev (kL_law b L xs) (95, lo, st, S) = q_fin (kL_law b L xs) ((q_invV [(9, q_call kX10_press 5)] 3) 95 lo st S) := q_ev_step rfl lo st S
set_option maxRecDepth 20000 in
theorem sL_law_96 {b L : Nat} {xs : Nat → Int32} (lo : q_Lo) (st : List Value) (S : q_S) : q_ev (kL_law b L xs) (96, lo, st, S) = q_fin (kL_law b L xs) ((q_aload 2) 96 lo st S) := q_ev_step rfl lo st S
set_option maxRecDepth 20000 in
theorem sL_law_97 {b L : Nat} {xs : Nat → Int32} (lo : q_Lo) (st : List Value) (S : q_S) : q_ev (kL_law b L xs) (97, lo, st, S) = q_fin (kL_law b L xs) ((q_aloadX 0) 97 lo st S) := q_ev_step rfl lo st S
set_option maxRecDepth 20000 in
theorem sL_law_98 {b L : Nat} {xs : Nat → Int32} (lo : q_Lo) (st : List Value) (S : q_S) : q_ev (kL_law b L xs) (98, lo, st, S) = q_fin (kL_law b L xs) ((q_iload 3) 98 lo st S) := q_ev_step rfl lo st S
set_option maxRecDepth 20000 in
theorem sL_law_99 {b L : Nat} {xs : Nat → Int32} (lo : q_Lo) (st : List Value) (S : q_S) : q_ev (kL_law b L xs) (99, lo, st, S) = q_fin (kL_law b L xs) ((q_push (.int 1)) 99 lo st S) := q_ev_step rfl lo st S
set_option maxRecDepth 20000 in
theorem sL_law_100 {b L : Nat} {xs : Nat → Int32} (lo : q_Lo) (st : List Value) (S : q_S) : q_ev (kL_law b L xs) (100, lo, st, S) = q_fin (kL_law b L xs) ((q_bin (fun x y => x + y)) 100 lo st S) := q_ev_step rfl lo st S
set_option maxRecDepth 20000 in
theorem sL_law_101 {b L : Nat} {xs : Nat → Int32} (lo : q_Lo) (st : List Value) (S : q_S) : q_ev (kL_law b L xs) (101, lo, st, S) = q_fin (kL_law b L xs) ((q_sld b L xs) 101 lo st S) := q_ev_step rfl lo st S
set_option maxRecDepth 20000 in
theorem sL_law_102 {b L : Nat} {xs : Nat → Int32} (lo : q_Lo) (st : List Value) (S : q_S) : q_ev (kL_law b L xs) (102, lo, st, S) = q_fin (kL_law b L xs) ((q_aloadX 0) 102 lo st S) := q_ev_step rfl lo st S
set_option maxRecDepth 20000 in
theorem sL_law_103 {b L : Nat} {xs : Nat → Int32} (lo : q_Lo) (st : List Value) (S : q_S) : q_ev (kL_law b L xs) (103, lo, st, S) = q_fin (kL_law b L xs) ((q_iload 3) 103 lo st S) := q_ev_step rfl lo st S
set_option maxRecDepth 20000 in
theorem sL_law_104 {b L : Nat} {xs : Nat → Int32} (lo : q_Lo) (st : List Value) (S : q_S) : q_ev (kL_law b L xs) (104, lo, st, S) = q_fin (kL_law b L xs) ((q_push (.int 2)) 104 lo st S) := q_ev_step rfl lo st S
set_option maxRecDepth 20000 in
theorem sL_law_105 {b L : Nat} {xs : Nat → Int32} (lo : q_Lo) (st : List Value) (S : q_S) : q_ev (kL_law b L xs) (105, lo, st, S) = q_fin (kL_law b L xs) ((q_bin (fun x y => x + y)) 105 lo st S) := q_ev_step rfl lo st S
set_option maxRecDepth 20000 in
theorem sL_law_106 {b L : Nat} {xs : Nat → Int32} (lo : q_Lo) (st : List Value) (S : q_S) : q_ev (kL_law b L xs) (106, lo, st, S) = q_fin (kL_law b L xs) ((q_sld b L xs) 106 lo st S) := q_ev_step rfl lo st S
set_option maxRecDepth 20000 in
theorem sL_law_107 {b L : Nat} {xs : Nat → Int32} (lo : q_Lo) (st : List Value) (S : q_S) : q_ev (kL_law b L xs) (107, lo, st, S) = q_fin (kL_law b L xs) ((q_aloadX 0) 107 lo st S) := q_ev_step rfl lo st S
set_option maxRecDepth 20000 in
theorem sL_law_108 {b L : Nat} {xs : Nat → Int32} (lo : q_Lo) (st : List Value) (S : q_S) : q_ev (kL_law b L xs) (108, lo, st, S) = q_fin (kL_law b L xs) ((q_iload 3) 108 lo st S) := q_ev_step rfl lo st S
set_option maxRecDepth 20000 in
theorem sL_law_109 {b L : Nat} {xs : Nat → Int32} (lo : q_Lo) (st : List Value) (S : q_S) : q_ev (kL_law b L xs) (109, lo, st, S) = q_fin (kL_law b L xs) ((q_push (.int 3)) 109 lo st S) := q_ev_step rfl lo st S
set_option maxRecDepth 20000 in
theorem sL_law_110 {b L : Nat} {xs : Nat → Int32} (lo : q_Lo) (st : List Value) (S : q_S) : q_ev (kL_law b L xs) (110, lo, st, S) = q_fin (kL_law b L xs) ((q_bin (fun x y => x + y)) 110 lo st S) := q_ev_step rfl lo st S
set_option maxRecDepth 20000 in
theorem sL_law_111 {b L : Nat} {xs : Nat → Int32} (lo : q_Lo) (st : List Value) (S : q_S) : q_ev (kL_law b L xs) (111, lo, st, S) = q_fin (kL_law b L xs) ((q_sld b L xs) 111 lo st S) := q_ev_step rfl lo st S
set_option maxRecDepth 20000 in
theorem sL_law_112 {b L : Nat} {xs : Nat → Int32} (lo : q_Lo) (st : List Value) (S : q_S) : q_ev (kL_law b L xs) (112, lo, st, S) = q_fin (kL_law b L xs) ((q_invV [(10, q_call kX11_press 4)] 3) 112 lo st S) := q_ev_step rfl lo st S
set_option maxRecDepth 20000 in
theorem sL_law_113 {b L : Nat} {xs : Nat → Int32} (lo : q_Lo) (st : List Value) (S : q_S) : q_ev (kL_law b L xs) (113, lo, st, S) = q_fin (kL_law b L xs) ((q_cmpeq 650) 113 lo st S) := q_ev_step rfl lo st S
set_option maxRecDepth 20000 in
theorem sL_law_114 {b L : Nat} {xs : Nat → Int32} (lo : q_Lo) (st : List Value) (S : q_S) : q_ev (kL_law b L xs) (114, lo, st, S) = q_fin (kL_law b L xs) ((q_push (.int 0)) 114 lo st S) := q_ev_step rfl lo st S
set_option maxRecDepth 20000 in
theorem sL_law_115 {b L : Nat} {xs : Nat → Int32} (lo : q_Lo) (st : List Value) (S : q_S) : q_ev (kL_law b L xs) (115, lo, st, S) = q_fin (kL_law b L xs) ((q_zret) 115 lo st S) := q_ev_step rfl lo st S
set_option maxRecDepth 20000 in
theorem sL_law_116 {b L : Nat} {xs : Nat → Int32} (lo : q_Lo) (st : List Value) (S : q_S) : q_ev (kL_law b L xs) (116, lo, st, S) = q_fin (kL_law b L xs) ((q_aload 1) 116 lo st S) := q_ev_step rfl lo st S
set_option maxRecDepth 20000 in
theorem sL_law_117 {b L : Nat} {xs : Nat → Int32} (lo : q_Lo) (st : List Value) (S : q_S) : q_ev (kL_law b L xs) (117, lo, st, S) = q_fin (kL_law b L xs) ((q_aloadX 0) 117 lo st S) := q_ev_step rfl lo st S
set_option maxRecDepth 20000 in
theorem sL_law_118 {b L : Nat} {xs : Nat → Int32} (lo : q_Lo) (st : List Value) (S : q_S) : q_ev (kL_law b L xs) (118, lo, st, S) = q_fin (kL_law b L xs) ((q_iload 3) 118 lo st S) := q_ev_step rfl lo st S
set_option maxRecDepth 20000 in
theorem sL_law_119 {b L : Nat} {xs : Nat → Int32} (lo : q_Lo) (st : List Value) (S : q_S) : q_ev (kL_law b L xs) (119, lo, st, S) = q_fin (kL_law b L xs) ((q_push (.int 1)) 119 lo st S) := q_ev_step rfl lo st S
set_option maxRecDepth 20000 in
theorem sL_law_120 {b L : Nat} {xs : Nat → Int32} (lo : q_Lo) (st : List Value) (S : q_S) : q_ev (kL_law b L xs) (120, lo, st, S) = q_fin (kL_law b L xs) ((q_bin (fun x y => x + y)) 120 lo st S) := q_ev_step rfl lo st S
set_option maxRecDepth 20000 in
theorem sL_law_121 {b L : Nat} {xs : Nat → Int32} (lo : q_Lo) (st : List Value) (S : q_S) : q_ev (kL_law b L xs) (121, lo, st, S) = q_fin (kL_law b L xs) ((q_sld b L xs) 121 lo st S) := q_ev_step rfl lo st S
set_option maxRecDepth 20000 in
theorem sL_law_122 {b L : Nat} {xs : Nat → Int32} (lo : q_Lo) (st : List Value) (S : q_S) : q_ev (kL_law b L xs) (122, lo, st, S) = q_fin (kL_law b L xs) ((q_aloadX 0) 122 lo st S) := q_ev_step rfl lo st S
set_option maxRecDepth 20000 in
theorem sL_law_123 {b L : Nat} {xs : Nat → Int32} (lo : q_Lo) (st : List Value) (S : q_S) : q_ev (kL_law b L xs) (123, lo, st, S) = q_fin (kL_law b L xs) ((q_iload 3) 123 lo st S) := q_ev_step rfl lo st S
set_option maxRecDepth 20000 in
theorem sL_law_124 {b L : Nat} {xs : Nat → Int32} (lo : q_Lo) (st : List Value) (S : q_S) : q_ev (kL_law b L xs) (124, lo, st, S) = q_fin (kL_law b L xs) ((q_push (.int 2)) 124 lo st S) := q_ev_step rfl lo st S
set_option maxRecDepth 20000 in
theorem sL_law_125 {b L : Nat} {xs : Nat → Int32} (lo : q_Lo) (st : List Value) (S : q_S) : q_ev (kL_law b L xs) (125, lo, st, S) = q_fin (kL_law b L xs) ((q_bin (fun x y => x + y)) 125 lo st S) := q_ev_step rfl lo st S
set_option maxRecDepth 20000 in
theorem sL_law_126 {b L : Nat} {xs : Nat → Int32} (lo : q_Lo) (st : List Value) (S : q_S) : q_ev (kL_law b L xs) (126, lo, st, S) = q_fin (kL_law b L xs) ((q_sld b L xs) 126 lo st S) := q_ev_step rfl lo st S
set_option maxRecDepth 20000 in
theorem sL_law_127 {b L : Nat} {xs : Nat → Int32} (lo : q_Lo) (st : List Value) (S : q_S) : q_ev (kL_law b L xs) (127, lo, st, S) = q_fin (kL_law b L xs) ((q_aloadX 0) 127 lo st S) := q_ev_step rfl lo st S
set_option maxRecDepth 20000 in
theorem sL_law_128 {b L : Nat} {xs : Nat → Int32} (lo : q_Lo) (st : List Value) (S : q_S) : q_ev (kL_law b L xs) (128, lo, st, S) = q_fin (kL_law b L xs) ((q_iload 3) 128 lo st S) := q_ev_step rfl lo st S
set_option maxRecDepth 20000 in
theorem sL_law_129 {b L : Nat} {xs : Nat → Int32} (lo : q_Lo) (st : List Value) (S : q_S) : q_ev (kL_law b L xs) (129, lo, st, S) = q_fin (kL_law b L xs) ((q_push (.int 3)) 129 lo st S) := q_ev_step rfl lo st S
set_option maxRecDepth 20000 in
theorem sL_law_130 {b L : Nat} {xs : Nat → Int32} (lo : q_Lo) (st : List Value) (S : q_S) : q_ev (kL_law b L xs) (130, lo, st, S) = q_fin (kL_law b L xs) ((q_bin (fun x y => x + y)) 130 lo st S) := q_ev_step rfl lo st S
set_option maxRecDepth 20000 in
theorem sL_law_131 {b L : Nat} {xs : Nat → Int32} (lo : q_Lo) (st : List Value) (S : q_S) : q_ev (kL_law b L xs) (131, lo, st, S) = q_fin (kL_law b L xs) ((q_sld b L xs) 131 lo st S) := q_ev_step rfl lo st S
set_option maxRecDepth 20000 in
theorem sL_law_132 {b L : Nat} {xs : Nat → Int32} (lo : q_Lo) (st : List Value) (S : q_S) : q_ev (kL_law b L xs) (132, lo, st, S) = q_fin (kL_law b L xs) ((q_aloadX 0) 132 lo st S) := q_ev_step rfl lo st S
set_option maxRecDepth 20000 in
theorem sL_law_133 {b L : Nat} {xs : Nat → Int32} (lo : q_Lo) (st : List Value) (S : q_S) : q_ev (kL_law b L xs) (133, lo, st, S) = q_fin (kL_law b L xs) ((q_iload 3) 133 lo st S) := q_ev_step rfl lo st S
set_option maxRecDepth 20000 in
theorem sL_law_134 {b L : Nat} {xs : Nat → Int32} (lo : q_Lo) (st : List Value) (S : q_S) : q_ev (kL_law b L xs) (134, lo, st, S) = q_fin (kL_law b L xs) ((q_push (.int 4)) 134 lo st S) := q_ev_step rfl lo st S
set_option maxRecDepth 20000 in
theorem sL_law_135 {b L : Nat} {xs : Nat → Int32} (lo : q_Lo) (st : List Value) (S : q_S) : q_ev (kL_law b L xs) (135, lo, st, S) = q_fin (kL_law b L xs) ((q_bin (fun x y => x + y)) 135 lo st S) := q_ev_step rfl lo st S
set_option maxRecDepth 20000 in
theorem sL_law_136 {b L : Nat} {xs : Nat → Int32} (lo : q_Lo) (st : List Value) (S : q_S) : q_ev (kL_law b L xs) (136, lo, st, S) = q_fin (kL_law b L xs) ((q_sld b L xs) 136 lo st S) := q_ev_step rfl lo st S
set_option maxRecDepth 20000 in
theorem sL_law_137 {b L : Nat} {xs : Nat → Int32} (lo : q_Lo) (st : List Value) (S : q_S) : q_ev (kL_law b L xs) (137, lo, st, S) = q_fin (kL_law b L xs) ((q_aloadX 0) 137 lo st S) := q_ev_step rfl lo st S
set_option maxRecDepth 20000 in
theorem sL_law_138 {b L : Nat} {xs : Nat → Int32} (lo : q_Lo) (st : List Value) (S : q_S) : q_ev (kL_law b L xs) (138, lo, st, S) = q_fin (kL_law b L xs) ((q_iload 3) 138 lo st S) := q_ev_step rfl lo st S
set_option maxRecDepth 20000 in
theorem sL_law_139 {b L : Nat} {xs : Nat → Int32} (lo : q_Lo) (st : List Value) (S : q_S) : q_ev (kL_law b L xs) (139, lo, st, S) = q_fin (kL_law b L xs) ((q_push (.int 5)) 139 lo st S) := q_ev_step rfl lo st S
set_option maxRecDepth 20000 in
theorem sL_law_140 {b L : Nat} {xs : Nat → Int32} (lo : q_Lo) (st : List Value) (S : q_S) : q_ev (kL_law b L xs) (140, lo, st, S) = q_fin (kL_law b L xs) ((q_bin (fun x y => x + y)) 140 lo st S) := q_ev_step rfl lo st S
set_option maxRecDepth 20000 in
theorem sL_law_141 {b L : Nat} {xs : Nat → Int32} (lo : q_Lo) (st : List Value) (S : q_S) : q_ev (kL_law b L xs) (141, lo, st, S) = q_fin (kL_law b L xs) ((q_sld b L xs) 141 lo st S) := q_ev_step rfl lo st S
set_option maxRecDepth 20000 in
theorem sL_law_142 {b L : Nat} {xs : Nat → Int32} (lo : q_Lo) (st : List Value) (S : q_S) : q_ev (kL_law b L xs) (142, lo, st, S) = q_fin (kL_law b L xs) ((q_invV [(9, q_call kX10_line 6)] 5) 142 lo st S) := q_ev_step rfl lo st S
set_option maxRecDepth 20000 in
theorem sL_law_143 {b L : Nat} {xs : Nat → Int32} (lo : q_Lo) (st : List Value) (S : q_S) : q_ev (kL_law b L xs) (143, lo, st, S) = q_fin (kL_law b L xs) ((q_aload 2) 143 lo st S) := q_ev_step rfl lo st S
set_option maxRecDepth 20000 in
theorem sL_law_144 {b L : Nat} {xs : Nat → Int32} (lo : q_Lo) (st : List Value) (S : q_S) : q_ev (kL_law b L xs) (144, lo, st, S) = q_fin (kL_law b L xs) ((q_aloadX 0) 144 lo st S) := q_ev_step rfl lo st S
set_option maxRecDepth 20000 in
theorem sL_law_145 {b L : Nat} {xs : Nat → Int32} (lo : q_Lo) (st : List Value) (S : q_S) : q_ev (kL_law b L xs) (145, lo, st, S) = q_fin (kL_law b L xs) ((q_iload 3) 145 lo st S) := q_ev_step rfl lo st S
set_option maxRecDepth 20000 in
theorem sL_law_146 {b L : Nat} {xs : Nat → Int32} (lo : q_Lo) (st : List Value) (S : q_S) : q_ev (kL_law b L xs) (146, lo, st, S) = q_fin (kL_law b L xs) ((q_push (.int 1)) 146 lo st S) := q_ev_step rfl lo st S
set_option maxRecDepth 20000 in
theorem sL_law_147 {b L : Nat} {xs : Nat → Int32} (lo : q_Lo) (st : List Value) (S : q_S) : q_ev (kL_law b L xs) (147, lo, st, S) = q_fin (kL_law b L xs) ((q_bin (fun x y => x + y)) 147 lo st S) := q_ev_step rfl lo st S
set_option maxRecDepth 20000 in
theorem sL_law_148 {b L : Nat} {xs : Nat → Int32} (lo : q_Lo) (st : List Value) (S : q_S) : q_ev (kL_law b L xs) (148, lo, st, S) = q_fin (kL_law b L xs) ((q_sld b L xs) 148 lo st S) := q_ev_step rfl lo st S
set_option maxRecDepth 20000 in
theorem sL_law_149 {b L : Nat} {xs : Nat → Int32} (lo : q_Lo) (st : List Value) (S : q_S) : q_ev (kL_law b L xs) (149, lo, st, S) = q_fin (kL_law b L xs) ((q_aloadX 0) 149 lo st S) := q_ev_step rfl lo st S
set_option maxRecDepth 20000 in
theorem sL_law_150 {b L : Nat} {xs : Nat → Int32} (lo : q_Lo) (st : List Value) (S : q_S) : q_ev (kL_law b L xs) (150, lo, st, S) = q_fin (kL_law b L xs) ((q_iload 3) 150 lo st S) := q_ev_step rfl lo st S
set_option maxRecDepth 20000 in
theorem sL_law_151 {b L : Nat} {xs : Nat → Int32} (lo : q_Lo) (st : List Value) (S : q_S) : q_ev (kL_law b L xs) (151, lo, st, S) = q_fin (kL_law b L xs) ((q_push (.int 2)) 151 lo st S) := q_ev_step rfl lo st S
set_option maxRecDepth 20000 in
theorem sL_law_152 {b L : Nat} {xs : Nat → Int32} (lo : q_Lo) (st : List Value) (S : q_S) : q_ev (kL_law b L xs) (152, lo, st, S) = q_fin (kL_law b L xs) ((q_bin (fun x y => x + y)) 152 lo st S) := q_ev_step rfl lo st S
set_option maxRecDepth 20000 in
theorem sL_law_153 {b L : Nat} {xs : Nat → Int32} (lo : q_Lo) (st : List Value) (S : q_S) : q_ev (kL_law b L xs) (153, lo, st, S) = q_fin (kL_law b L xs) ((q_sld b L xs) 153 lo st S) := q_ev_step rfl lo st S
set_option maxRecDepth 20000 in
theorem sL_law_154 {b L : Nat} {xs : Nat → Int32} (lo : q_Lo) (st : List Value) (S : q_S) : q_ev (kL_law b L xs) (154, lo, st, S) = q_fin (kL_law b L xs) ((q_aloadX 0) 154 lo st S) := q_ev_step rfl lo st S
set_option maxRecDepth 20000 in
theorem sL_law_155 {b L : Nat} {xs : Nat → Int32} (lo : q_Lo) (st : List Value) (S : q_S) : q_ev (kL_law b L xs) (155, lo, st, S) = q_fin (kL_law b L xs) ((q_iload 3) 155 lo st S) := q_ev_step rfl lo st S
set_option maxRecDepth 20000 in
theorem sL_law_156 {b L : Nat} {xs : Nat → Int32} (lo : q_Lo) (st : List Value) (S : q_S) : q_ev (kL_law b L xs) (156, lo, st, S) = q_fin (kL_law b L xs) ((q_push (.int 3)) 156 lo st S) := q_ev_step rfl lo st S
set_option maxRecDepth 20000 in
theorem sL_law_157 {b L : Nat} {xs : Nat → Int32} (lo : q_Lo) (st : List Value) (S : q_S) : q_ev (kL_law b L xs) (157, lo, st, S) = q_fin (kL_law b L xs) ((q_bin (fun x y => x + y)) 157 lo st S) := q_ev_step rfl lo st S
set_option maxRecDepth 20000 in
theorem sL_law_158 {b L : Nat} {xs : Nat → Int32} (lo : q_Lo) (st : List Value) (S : q_S) : q_ev (kL_law b L xs) (158, lo, st, S) = q_fin (kL_law b L xs) ((q_sld b L xs) 158 lo st S) := q_ev_step rfl lo st S
set_option maxRecDepth 20000 in
theorem sL_law_159 {b L : Nat} {xs : Nat → Int32} (lo : q_Lo) (st : List Value) (S : q_S) : q_ev (kL_law b L xs) (159, lo, st, S) = q_fin (kL_law b L xs) ((q_aloadX 0) 159 lo st S) := q_ev_step rfl lo st S
set_option maxRecDepth 20000 in
theorem sL_law_160 {b L : Nat} {xs : Nat → Int32} (lo : q_Lo) (st : List Value) (S : q_S) : q_ev (kL_law b L xs) (160, lo, st, S) = q_fin (kL_law b L xs) ((q_iload 3) 160 lo st S) := q_ev_step rfl lo st S
set_option maxRecDepth 20000 in
theorem sL_law_161 {b L : Nat} {xs : Nat → Int32} (lo : q_Lo) (st : List Value) (S : q_S) : q_ev (kL_law b L xs) (161, lo, st, S) = q_fin (kL_law b L xs) ((q_push (.int 4)) 161 lo st S) := q_ev_step rfl lo st S
set_option maxRecDepth 20000 in
theorem sL_law_162 {b L : Nat} {xs : Nat → Int32} (lo : q_Lo) (st : List Value) (S : q_S) : q_ev (kL_law b L xs) (162, lo, st, S) = q_fin (kL_law b L xs) ((q_bin (fun x y => x + y)) 162 lo st S) := q_ev_step rfl lo st S
set_option maxRecDepth 20000 in
theorem sL_law_163 {b L : Nat} {xs : Nat → Int32} (lo : q_Lo) (st : List Value) (S : q_S) : q_ev (kL_law b L xs) (163, lo, st, S) = q_fin (kL_law b L xs) ((q_sld b L xs) 163 lo st S) := q_ev_step rfl lo st S
set_option maxRecDepth 20000 in
theorem sL_law_164 {b L : Nat} {xs : Nat → Int32} (lo : q_Lo) (st : List Value) (S : q_S) : q_ev (kL_law b L xs) (164, lo, st, S) = q_fin (kL_law b L xs) ((q_aloadX 0) 164 lo st S) := q_ev_step rfl lo st S
set_option maxRecDepth 20000 in
theorem sL_law_165 {b L : Nat} {xs : Nat → Int32} (lo : q_Lo) (st : List Value) (S : q_S) : q_ev (kL_law b L xs) (165, lo, st, S) = q_fin (kL_law b L xs) ((q_iload 3) 165 lo st S) := q_ev_step rfl lo st S
set_option maxRecDepth 20000 in
theorem sL_law_166 {b L : Nat} {xs : Nat → Int32} (lo : q_Lo) (st : List Value) (S : q_S) : q_ev (kL_law b L xs) (166, lo, st, S) = q_fin (kL_law b L xs) ((q_push (.int 5)) 166 lo st S) := q_ev_step rfl lo st S
set_option maxRecDepth 20000 in
theorem sL_law_167 {b L : Nat} {xs : Nat → Int32} (lo : q_Lo) (st : List Value) (S : q_S) : q_ev (kL_law b L xs) (167, lo, st, S) = q_fin (kL_law b L xs) ((q_bin (fun x y => x + y)) 167 lo st S) := q_ev_step rfl lo st S
set_option maxRecDepth 20000 in
theorem sL_law_168 {b L : Nat} {xs : Nat → Int32} (lo : q_Lo) (st : List Value) (S : q_S) : q_ev (kL_law b L xs) (168, lo, st, S) = q_fin (kL_law b L xs) ((q_sld b L xs) 168 lo st S) := q_ev_step rfl lo st S
set_option maxRecDepth 20000 in
theorem sL_law_169 {b L : Nat} {xs : Nat → Int32} (lo : q_Lo) (st : List Value) (S : q_S) : q_ev (kL_law b L xs) (169, lo, st, S) = q_fin (kL_law b L xs) ((q_invV [(10, q_call kX11_line 6)] 5) 169 lo st S) := q_ev_step rfl lo st S
set_option maxRecDepth 20000 in
theorem sL_law_170 {b L : Nat} {xs : Nat → Int32} (lo : q_Lo) (st : List Value) (S : q_S) : q_ev (kL_law b L xs) (170, lo, st, S) = q_fin (kL_law b L xs) ((q_cmpeq 650) 170 lo st S) := q_ev_step rfl lo st S
set_option maxRecDepth 20000 in
theorem sL_law_171 {b L : Nat} {xs : Nat → Int32} (lo : q_Lo) (st : List Value) (S : q_S) : q_ev (kL_law b L xs) (171, lo, st, S) = q_fin (kL_law b L xs) ((q_push (.int 0)) 171 lo st S) := q_ev_step rfl lo st S
set_option maxRecDepth 20000 in
theorem sL_law_172 {b L : Nat} {xs : Nat → Int32} (lo : q_Lo) (st : List Value) (S : q_S) : q_ev (kL_law b L xs) (172, lo, st, S) = q_fin (kL_law b L xs) ((q_zret) 172 lo st S) := q_ev_step rfl lo st S
set_option maxRecDepth 20000 in
theorem sL_law_173 {b L : Nat} {xs : Nat → Int32} (lo : q_Lo) (st : List Value) (S : q_S) : q_ev (kL_law b L xs) (173, lo, st, S) = q_fin (kL_law b L xs) ((q_aload 1) 173 lo st S) := q_ev_step rfl lo st S
set_option maxRecDepth 20000 in
theorem sL_law_174 {b L : Nat} {xs : Nat → Int32} (lo : q_Lo) (st : List Value) (S : q_S) : q_ev (kL_law b L xs) (174, lo, st, S) = q_fin (kL_law b L xs) ((q_invV [(9, q_call kX10_drop 1)] 0) 174 lo st S) := q_ev_step rfl lo st S
set_option maxRecDepth 20000 in
theorem sL_law_175 {b L : Nat} {xs : Nat → Int32} (lo : q_Lo) (st : List Value) (S : q_S) : q_ev (kL_law b L xs) (175, lo, st, S) = q_fin (kL_law b L xs) ((q_aload 2) 175 lo st S) := q_ev_step rfl lo st S
set_option maxRecDepth 20000 in
theorem sL_law_176 {b L : Nat} {xs : Nat → Int32} (lo : q_Lo) (st : List Value) (S : q_S) : q_ev (kL_law b L xs) (176, lo, st, S) = q_fin (kL_law b L xs) ((q_invV [(10, q_call kX11_drop 1)] 0) 176 lo st S) := q_ev_step rfl lo st S
set_option maxRecDepth 20000 in
theorem sL_law_177 {b L : Nat} {xs : Nat → Int32} (lo : q_Lo) (st : List Value) (S : q_S) : q_ev (kL_law b L xs) (177, lo, st, S) = q_fin (kL_law b L xs) ((q_cmpeq 650) 177 lo st S) := q_ev_step rfl lo st S
set_option maxRecDepth 20000 in
theorem sL_law_178 {b L : Nat} {xs : Nat → Int32} (lo : q_Lo) (st : List Value) (S : q_S) : q_ev (kL_law b L xs) (178, lo, st, S) = q_fin (kL_law b L xs) ((q_push (.int 0)) 178 lo st S) := q_ev_step rfl lo st S
set_option maxRecDepth 20000 in
theorem sL_law_179 {b L : Nat} {xs : Nat → Int32} (lo : q_Lo) (st : List Value) (S : q_S) : q_ev (kL_law b L xs) (179, lo, st, S) = q_fin (kL_law b L xs) ((q_zret) 179 lo st S) := q_ev_step rfl lo st S
set_option maxRecDepth 20000 in
theorem sL_law_180 {b L : Nat} {xs : Nat → Int32} (lo : q_Lo) (st : List Value) (S : q_S) : q_ev (kL_law b L xs) (180, lo, st, S) = q_fin (kL_law b L xs) ((q_aload 1) 180 lo st S) := q_ev_step rfl lo st S
set_option maxRecDepth 20000 in
theorem sL_law_181 {b L : Nat} {xs : Nat → Int32} (lo : q_Lo) (st : List Value) (S : q_S) : q_ev (kL_law b L xs) (181, lo, st, S) = q_fin (kL_law b L xs) ((q_invV [(9, q_call kX10_turns 1)] 0) 181 lo st S) := q_ev_step rfl lo st S
set_option maxRecDepth 20000 in
theorem sL_law_182 {b L : Nat} {xs : Nat → Int32} (lo : q_Lo) (st : List Value) (S : q_S) : q_ev (kL_law b L xs) (182, lo, st, S) = q_fin (kL_law b L xs) ((q_aload 2) 182 lo st S) := q_ev_step rfl lo st S
set_option maxRecDepth 20000 in
theorem sL_law_183 {b L : Nat} {xs : Nat → Int32} (lo : q_Lo) (st : List Value) (S : q_S) : q_ev (kL_law b L xs) (183, lo, st, S) = q_fin (kL_law b L xs) ((q_invV [(10, q_call kX11_turns 1)] 0) 183 lo st S) := q_ev_step rfl lo st S
set_option maxRecDepth 20000 in
theorem sL_law_184 {b L : Nat} {xs : Nat → Int32} (lo : q_Lo) (st : List Value) (S : q_S) : q_ev (kL_law b L xs) (184, lo, st, S) = q_fin (kL_law b L xs) ((q_cmpeq 650) 184 lo st S) := q_ev_step rfl lo st S
set_option maxRecDepth 20000 in
theorem sL_law_185 {b L : Nat} {xs : Nat → Int32} (lo : q_Lo) (st : List Value) (S : q_S) : q_ev (kL_law b L xs) (185, lo, st, S) = q_fin (kL_law b L xs) ((q_push (.int 0)) 185 lo st S) := q_ev_step rfl lo st S
set_option maxRecDepth 20000 in
theorem sL_law_186 {b L : Nat} {xs : Nat → Int32} (lo : q_Lo) (st : List Value) (S : q_S) : q_ev (kL_law b L xs) (186, lo, st, S) = q_fin (kL_law b L xs) ((q_zret) 186 lo st S) := q_ev_step rfl lo st S
set_option maxRecDepth 20000 in
theorem sL_law_187 {b L : Nat} {xs : Nat → Int32} (lo : q_Lo) (st : List Value) (S : q_S) : q_ev (kL_law b L xs) (187, lo, st, S) = q_fin (kL_law b L xs) ((q_aload 1) 187 lo st S) := q_ev_step rfl lo st S
set_option maxRecDepth 20000 in
theorem sL_law_188 {b L : Nat} {xs : Nat → Int32} (lo : q_Lo) (st : List Value) (S : q_S) : q_ev (kL_law b L xs) (188, lo, st, S) = q_fin (kL_law b L xs) ((q_aloadX 0) 188 lo st S) := q_ev_step rfl lo st S
set_option maxRecDepth 20000 in
theorem sL_law_189 {b L : Nat} {xs : Nat → Int32} (lo : q_Lo) (st : List Value) (S : q_S) : q_ev (kL_law b L xs) (189, lo, st, S) = q_fin (kL_law b L xs) ((q_iload 3) 189 lo st S) := q_ev_step rfl lo st S
set_option maxRecDepth 20000 in
theorem sL_law_190 {b L : Nat} {xs : Nat → Int32} (lo : q_Lo) (st : List Value) (S : q_S) : q_ev (kL_law b L xs) (190, lo, st, S) = q_fin (kL_law b L xs) ((q_push (.int 1)) 190 lo st S) := q_ev_step rfl lo st S
set_option maxRecDepth 20000 in
theorem sL_law_191 {b L : Nat} {xs : Nat → Int32} (lo : q_Lo) (st : List Value) (S : q_S) : q_ev (kL_law b L xs) (191, lo, st, S) = q_fin (kL_law b L xs) ((q_bin (fun x y => x + y)) 191 lo st S) := q_ev_step rfl lo st S
set_option maxRecDepth 20000 in
theorem sL_law_192 {b L : Nat} {xs : Nat → Int32} (lo : q_Lo) (st : List Value) (S : q_S) : q_ev (kL_law b L xs) (192, lo, st, S) = q_fin (kL_law b L xs) ((q_sld b L xs) 192 lo st S) := q_ev_step rfl lo st S
set_option maxRecDepth 20000 in
theorem sL_law_193 {b L : Nat} {xs : Nat → Int32} (lo : q_Lo) (st : List Value) (S : q_S) : q_ev (kL_law b L xs) (193, lo, st, S) = q_fin (kL_law b L xs) ((q_aloadX 0) 193 lo st S) := q_ev_step rfl lo st S
set_option maxRecDepth 20000 in
theorem sL_law_194 {b L : Nat} {xs : Nat → Int32} (lo : q_Lo) (st : List Value) (S : q_S) : q_ev (kL_law b L xs) (194, lo, st, S) = q_fin (kL_law b L xs) ((q_iload 3) 194 lo st S) := q_ev_step rfl lo st S
set_option maxRecDepth 20000 in
theorem sL_law_195 {b L : Nat} {xs : Nat → Int32} (lo : q_Lo) (st : List Value) (S : q_S) : q_ev (kL_law b L xs) (195, lo, st, S) = q_fin (kL_law b L xs) ((q_push (.int 2)) 195 lo st S) := q_ev_step rfl lo st S
set_option maxRecDepth 20000 in
theorem sL_law_196 {b L : Nat} {xs : Nat → Int32} (lo : q_Lo) (st : List Value) (S : q_S) : q_ev (kL_law b L xs) (196, lo, st, S) = q_fin (kL_law b L xs) ((q_bin (fun x y => x + y)) 196 lo st S) := q_ev_step rfl lo st S
set_option maxRecDepth 20000 in
theorem sL_law_197 {b L : Nat} {xs : Nat → Int32} (lo : q_Lo) (st : List Value) (S : q_S) : q_ev (kL_law b L xs) (197, lo, st, S) = q_fin (kL_law b L xs) ((q_sld b L xs) 197 lo st S) := q_ev_step rfl lo st S
set_option maxRecDepth 20000 in
theorem sL_law_198 {b L : Nat} {xs : Nat → Int32} (lo : q_Lo) (st : List Value) (S : q_S) : q_ev (kL_law b L xs) (198, lo, st, S) = q_fin (kL_law b L xs) ((q_invV [(9, q_call kX10_set 4)] 2) 198 lo st S) := q_ev_step rfl lo st S
set_option maxRecDepth 20000 in
theorem sL_law_199 {b L : Nat} {xs : Nat → Int32} (lo : q_Lo) (st : List Value) (S : q_S) : q_ev (kL_law b L xs) (199, lo, st, S) = q_fin (kL_law b L xs) ((q_aload 2) 199 lo st S) := q_ev_step rfl lo st S
set_option maxRecDepth 20000 in
theorem sL_law_200 {b L : Nat} {xs : Nat → Int32} (lo : q_Lo) (st : List Value) (S : q_S) : q_ev (kL_law b L xs) (200, lo, st, S) = q_fin (kL_law b L xs) ((q_aloadX 0) 200 lo st S) := q_ev_step rfl lo st S
set_option maxRecDepth 20000 in
theorem sL_law_201 {b L : Nat} {xs : Nat → Int32} (lo : q_Lo) (st : List Value) (S : q_S) : q_ev (kL_law b L xs) (201, lo, st, S) = q_fin (kL_law b L xs) ((q_iload 3) 201 lo st S) := q_ev_step rfl lo st S
set_option maxRecDepth 20000 in
theorem sL_law_202 {b L : Nat} {xs : Nat → Int32} (lo : q_Lo) (st : List Value) (S : q_S) : q_ev (kL_law b L xs) (202, lo, st, S) = q_fin (kL_law b L xs) ((q_push (.int 1)) 202 lo st S) := q_ev_step rfl lo st S
set_option maxRecDepth 20000 in
theorem sL_law_203 {b L : Nat} {xs : Nat → Int32} (lo : q_Lo) (st : List Value) (S : q_S) : q_ev (kL_law b L xs) (203, lo, st, S) = q_fin (kL_law b L xs) ((q_bin (fun x y => x + y)) 203 lo st S) := q_ev_step rfl lo st S
set_option maxRecDepth 20000 in
theorem sL_law_204 {b L : Nat} {xs : Nat → Int32} (lo : q_Lo) (st : List Value) (S : q_S) : q_ev (kL_law b L xs) (204, lo, st, S) = q_fin (kL_law b L xs) ((q_sld b L xs) 204 lo st S) := q_ev_step rfl lo st S
set_option maxRecDepth 20000 in
theorem sL_law_205 {b L : Nat} {xs : Nat → Int32} (lo : q_Lo) (st : List Value) (S : q_S) : q_ev (kL_law b L xs) (205, lo, st, S) = q_fin (kL_law b L xs) ((q_aloadX 0) 205 lo st S) := q_ev_step rfl lo st S
set_option maxRecDepth 20000 in
theorem sL_law_206 {b L : Nat} {xs : Nat → Int32} (lo : q_Lo) (st : List Value) (S : q_S) : q_ev (kL_law b L xs) (206, lo, st, S) = q_fin (kL_law b L xs) ((q_iload 3) 206 lo st S) := q_ev_step rfl lo st S
set_option maxRecDepth 20000 in
theorem sL_law_207 {b L : Nat} {xs : Nat → Int32} (lo : q_Lo) (st : List Value) (S : q_S) : q_ev (kL_law b L xs) (207, lo, st, S) = q_fin (kL_law b L xs) ((q_push (.int 2)) 207 lo st S) := q_ev_step rfl lo st S
set_option maxRecDepth 20000 in
theorem sL_law_208 {b L : Nat} {xs : Nat → Int32} (lo : q_Lo) (st : List Value) (S : q_S) : q_ev (kL_law b L xs) (208, lo, st, S) = q_fin (kL_law b L xs) ((q_bin (fun x y => x + y)) 208 lo st S) := q_ev_step rfl lo st S
set_option maxRecDepth 20000 in
theorem sL_law_209 {b L : Nat} {xs : Nat → Int32} (lo : q_Lo) (st : List Value) (S : q_S) : q_ev (kL_law b L xs) (209, lo, st, S) = q_fin (kL_law b L xs) ((q_sld b L xs) 209 lo st S) := q_ev_step rfl lo st S
set_option maxRecDepth 20000 in
theorem sL_law_210 {b L : Nat} {xs : Nat → Int32} (lo : q_Lo) (st : List Value) (S : q_S) : q_ev (kL_law b L xs) (210, lo, st, S) = q_fin (kL_law b L xs) ((q_invV [(10, q_call kX11_set 4)] 2) 210 lo st S) := q_ev_step rfl lo st S
set_option maxRecDepth 20000 in
theorem sL_law_211 {b L : Nat} {xs : Nat → Int32} (lo : q_Lo) (st : List Value) (S : q_S) : q_ev (kL_law b L xs) (211, lo, st, S) = q_fin (kL_law b L xs) ((q_cmpeq 650) 211 lo st S) := q_ev_step rfl lo st S
set_option maxRecDepth 20000 in
theorem sL_law_212 {b L : Nat} {xs : Nat → Int32} (lo : q_Lo) (st : List Value) (S : q_S) : q_ev (kL_law b L xs) (212, lo, st, S) = q_fin (kL_law b L xs) ((q_push (.int 0)) 212 lo st S) := q_ev_step rfl lo st S
set_option maxRecDepth 20000 in
theorem sL_law_213 {b L : Nat} {xs : Nat → Int32} (lo : q_Lo) (st : List Value) (S : q_S) : q_ev (kL_law b L xs) (213, lo, st, S) = q_fin (kL_law b L xs) ((q_zret) 213 lo st S) := q_ev_step rfl lo st S
set_option maxRecDepth 20000 in
theorem sL_law_214 {b L : Nat} {xs : Nat → Int32} (lo : q_Lo) (st : List Value) (S : q_S) : q_ev (kL_law b L xs) (214, lo, st, S) = q_fin (kL_law b L xs) ((q_aload 1) 214 lo st S) := q_ev_step rfl lo st S
set_option maxRecDepth 20000 in
theorem sL_law_215 {b L : Nat} {xs : Nat → Int32} (lo : q_Lo) (st : List Value) (S : q_S) : q_ev (kL_law b L xs) (215, lo, st, S) = q_fin (kL_law b L xs) ((q_aloadX 0) 215 lo st S) := q_ev_step rfl lo st S
set_option maxRecDepth 20000 in
theorem sL_law_216 {b L : Nat} {xs : Nat → Int32} (lo : q_Lo) (st : List Value) (S : q_S) : q_ev (kL_law b L xs) (216, lo, st, S) = q_fin (kL_law b L xs) ((q_iload 3) 216 lo st S) := q_ev_step rfl lo st S
set_option maxRecDepth 20000 in
theorem sL_law_217 {b L : Nat} {xs : Nat → Int32} (lo : q_Lo) (st : List Value) (S : q_S) : q_ev (kL_law b L xs) (217, lo, st, S) = q_fin (kL_law b L xs) ((q_push (.int 1)) 217 lo st S) := q_ev_step rfl lo st S
set_option maxRecDepth 20000 in
theorem sL_law_218 {b L : Nat} {xs : Nat → Int32} (lo : q_Lo) (st : List Value) (S : q_S) : q_ev (kL_law b L xs) (218, lo, st, S) = q_fin (kL_law b L xs) ((q_bin (fun x y => x + y)) 218 lo st S) := q_ev_step rfl lo st S
set_option maxRecDepth 20000 in
theorem sL_law_219 {b L : Nat} {xs : Nat → Int32} (lo : q_Lo) (st : List Value) (S : q_S) : q_ev (kL_law b L xs) (219, lo, st, S) = q_fin (kL_law b L xs) ((q_sld b L xs) 219 lo st S) := q_ev_step rfl lo st S
set_option maxRecDepth 20000 in
theorem sL_law_220 {b L : Nat} {xs : Nat → Int32} (lo : q_Lo) (st : List Value) (S : q_S) : q_ev (kL_law b L xs) (220, lo, st, S) = q_fin (kL_law b L xs) ((q_invV [(9, q_call kX10_run 3)] 1) 220 lo st S) := q_ev_step rfl lo st S
set_option maxRecDepth 20000 in
theorem sL_law_221 {b L : Nat} {xs : Nat → Int32} (lo : q_Lo) (st : List Value) (S : q_S) : q_ev (kL_law b L xs) (221, lo, st, S) = q_fin (kL_law b L xs) ((q_aload 2) 221 lo st S) := q_ev_step rfl lo st S
set_option maxRecDepth 20000 in
theorem sL_law_222 {b L : Nat} {xs : Nat → Int32} (lo : q_Lo) (st : List Value) (S : q_S) : q_ev (kL_law b L xs) (222, lo, st, S) = q_fin (kL_law b L xs) ((q_aloadX 0) 222 lo st S) := q_ev_step rfl lo st S
set_option maxRecDepth 20000 in
theorem sL_law_223 {b L : Nat} {xs : Nat → Int32} (lo : q_Lo) (st : List Value) (S : q_S) : q_ev (kL_law b L xs) (223, lo, st, S) = q_fin (kL_law b L xs) ((q_iload 3) 223 lo st S) := q_ev_step rfl lo st S
set_option maxRecDepth 20000 in
theorem sL_law_224 {b L : Nat} {xs : Nat → Int32} (lo : q_Lo) (st : List Value) (S : q_S) : q_ev (kL_law b L xs) (224, lo, st, S) = q_fin (kL_law b L xs) ((q_push (.int 1)) 224 lo st S) := q_ev_step rfl lo st S
set_option maxRecDepth 20000 in
theorem sL_law_225 {b L : Nat} {xs : Nat → Int32} (lo : q_Lo) (st : List Value) (S : q_S) : q_ev (kL_law b L xs) (225, lo, st, S) = q_fin (kL_law b L xs) ((q_bin (fun x y => x + y)) 225 lo st S) := q_ev_step rfl lo st S
set_option maxRecDepth 20000 in
theorem sL_law_226 {b L : Nat} {xs : Nat → Int32} (lo : q_Lo) (st : List Value) (S : q_S) : q_ev (kL_law b L xs) (226, lo, st, S) = q_fin (kL_law b L xs) ((q_sld b L xs) 226 lo st S) := q_ev_step rfl lo st S
set_option maxRecDepth 20000 in
theorem sL_law_227 {b L : Nat} {xs : Nat → Int32} (lo : q_Lo) (st : List Value) (S : q_S) : q_ev (kL_law b L xs) (227, lo, st, S) = q_fin (kL_law b L xs) ((q_invV [(10, q_call kX11_run 6)] 1) 227 lo st S) := q_ev_step rfl lo st S
set_option maxRecDepth 20000 in
theorem sL_law_228 {b L : Nat} {xs : Nat → Int32} (lo : q_Lo) (st : List Value) (S : q_S) : q_ev (kL_law b L xs) (228, lo, st, S) = q_fin (kL_law b L xs) ((q_cmpeq 650) 228 lo st S) := q_ev_step rfl lo st S
set_option maxRecDepth 20000 in
theorem sL_law_229 {b L : Nat} {xs : Nat → Int32} (lo : q_Lo) (st : List Value) (S : q_S) : q_ev (kL_law b L xs) (229, lo, st, S) = q_fin (kL_law b L xs) ((q_push (.int 0)) 229 lo st S) := q_ev_step rfl lo st S
set_option maxRecDepth 20000 in
theorem sL_law_230 {b L : Nat} {xs : Nat → Int32} (lo : q_Lo) (st : List Value) (S : q_S) : q_ev (kL_law b L xs) (230, lo, st, S) = q_fin (kL_law b L xs) ((q_zret) 230 lo st S) := q_ev_step rfl lo st S
set_option maxRecDepth 20000 in
theorem sL_law_231 {b L : Nat} {xs : Nat → Int32} (lo : q_Lo) (st : List Value) (S : q_S) : q_ev (kL_law b L xs) (231, lo, st, S) = q_fin (kL_law b L xs) ((q_aload 1) 231 lo st S) := q_ev_step rfl lo st S
set_option maxRecDepth 20000 in
theorem sL_law_232 {b L : Nat} {xs : Nat → Int32} (lo : q_Lo) (st : List Value) (S : q_S) : q_ev (kL_law b L xs) (232, lo, st, S) = q_fin (kL_law b L xs) ((q_aloadX 0) 232 lo st S) := q_ev_step rfl lo st S
set_option maxRecDepth 20000 in
theorem sL_law_233 {b L : Nat} {xs : Nat → Int32} (lo : q_Lo) (st : List Value) (S : q_S) : q_ev (kL_law b L xs) (233, lo, st, S) = q_fin (kL_law b L xs) ((q_iload 3) 233 lo st S) := q_ev_step rfl lo st S
set_option maxRecDepth 20000 in
theorem sL_law_234 {b L : Nat} {xs : Nat → Int32} (lo : q_Lo) (st : List Value) (S : q_S) : q_ev (kL_law b L xs) (234, lo, st, S) = q_fin (kL_law b L xs) ((q_push (.int 1)) 234 lo st S) := q_ev_step rfl lo st S
set_option maxRecDepth 20000 in
theorem sL_law_235 {b L : Nat} {xs : Nat → Int32} (lo : q_Lo) (st : List Value) (S : q_S) : q_ev (kL_law b L xs) (235, lo, st, S) = q_fin (kL_law b L xs) ((q_bin (fun x y => x + y)) 235 lo st S) := q_ev_step rfl lo st S
set_option maxRecDepth 20000 in
theorem sL_law_236 {b L : Nat} {xs : Nat → Int32} (lo : q_Lo) (st : List Value) (S : q_S) : q_ev (kL_law b L xs) (236, lo, st, S) = q_fin (kL_law b L xs) ((q_sld b L xs) 236 lo st S) := q_ev_step rfl lo st S
set_option maxRecDepth 20000 in
theorem sL_law_237 {b L : Nat} {xs : Nat → Int32} (lo : q_Lo) (st : List Value) (S : q_S) : q_ev (kL_law b L xs) (237, lo, st, S) = q_fin (kL_law b L xs) ((q_invV [(9, q_call kX10_lose 3)] 1) 237 lo st S) := q_ev_step rfl lo st S
set_option maxRecDepth 20000 in
theorem sL_law_238 {b L : Nat} {xs : Nat → Int32} (lo : q_Lo) (st : List Value) (S : q_S) : q_ev (kL_law b L xs) (238, lo, st, S) = q_fin (kL_law b L xs) ((q_aload 2) 238 lo st S) := q_ev_step rfl lo st S
set_option maxRecDepth 20000 in
theorem sL_law_239 {b L : Nat} {xs : Nat → Int32} (lo : q_Lo) (st : List Value) (S : q_S) : q_ev (kL_law b L xs) (239, lo, st, S) = q_fin (kL_law b L xs) ((q_aloadX 0) 239 lo st S) := q_ev_step rfl lo st S
set_option maxRecDepth 20000 in
theorem sL_law_240 {b L : Nat} {xs : Nat → Int32} (lo : q_Lo) (st : List Value) (S : q_S) : q_ev (kL_law b L xs) (240, lo, st, S) = q_fin (kL_law b L xs) ((q_iload 3) 240 lo st S) := q_ev_step rfl lo st S
set_option maxRecDepth 20000 in
theorem sL_law_241 {b L : Nat} {xs : Nat → Int32} (lo : q_Lo) (st : List Value) (S : q_S) : q_ev (kL_law b L xs) (241, lo, st, S) = q_fin (kL_law b L xs) ((q_push (.int 1)) 241 lo st S) := q_ev_step rfl lo st S
set_option maxRecDepth 20000 in
theorem sL_law_242 {b L : Nat} {xs : Nat → Int32} (lo : q_Lo) (st : List Value) (S : q_S) : q_ev (kL_law b L xs) (242, lo, st, S) = q_fin (kL_law b L xs) ((q_bin (fun x y => x + y)) 242 lo st S) := q_ev_step rfl lo st S
set_option maxRecDepth 20000 in
theorem sL_law_243 {b L : Nat} {xs : Nat → Int32} (lo : q_Lo) (st : List Value) (S : q_S) : q_ev (kL_law b L xs) (243, lo, st, S) = q_fin (kL_law b L xs) ((q_sld b L xs) 243 lo st S) := q_ev_step rfl lo st S
set_option maxRecDepth 20000 in
theorem sL_law_244 {b L : Nat} {xs : Nat → Int32} (lo : q_Lo) (st : List Value) (S : q_S) : q_ev (kL_law b L xs) (244, lo, st, S) = q_fin (kL_law b L xs) ((q_invV [(10, q_call kX11_lose 2)] 1) 244 lo st S) := q_ev_step rfl lo st S
set_option maxRecDepth 20000 in
theorem sL_law_245 {b L : Nat} {xs : Nat → Int32} (lo : q_Lo) (st : List Value) (S : q_S) : q_ev (kL_law b L xs) (245, lo, st, S) = q_fin (kL_law b L xs) ((q_cmpeq 650) 245 lo st S) := q_ev_step rfl lo st S
set_option maxRecDepth 20000 in
theorem sL_law_246 {b L : Nat} {xs : Nat → Int32} (lo : q_Lo) (st : List Value) (S : q_S) : q_ev (kL_law b L xs) (246, lo, st, S) = q_fin (kL_law b L xs) ((q_push (.int 0)) 246 lo st S) := q_ev_step rfl lo st S
set_option maxRecDepth 20000 in
theorem sL_law_247 {b L : Nat} {xs : Nat → Int32} (lo : q_Lo) (st : List Value) (S : q_S) : q_ev (kL_law b L xs) (247, lo, st, S) = q_fin (kL_law b L xs) ((q_zret) 247 lo st S) := q_ev_step rfl lo st S
set_option maxRecDepth 20000 in
theorem sL_law_248 {b L : Nat} {xs : Nat → Int32} (lo : q_Lo) (st : List Value) (S : q_S) : q_ev (kL_law b L xs) (248, lo, st, S) = q_fin (kL_law b L xs) ((q_aload 1) 248 lo st S) := q_ev_step rfl lo st S
set_option maxRecDepth 20000 in
theorem sL_law_249 {b L : Nat} {xs : Nat → Int32} (lo : q_Lo) (st : List Value) (S : q_S) : q_ev (kL_law b L xs) (249, lo, st, S) = q_fin (kL_law b L xs) ((q_aloadX 0) 249 lo st S) := q_ev_step rfl lo st S
set_option maxRecDepth 20000 in
theorem sL_law_250 {b L : Nat} {xs : Nat → Int32} (lo : q_Lo) (st : List Value) (S : q_S) : q_ev (kL_law b L xs) (250, lo, st, S) = q_fin (kL_law b L xs) ((q_iload 3) 250 lo st S) := q_ev_step rfl lo st S
set_option maxRecDepth 20000 in
theorem sL_law_251 {b L : Nat} {xs : Nat → Int32} (lo : q_Lo) (st : List Value) (S : q_S) : q_ev (kL_law b L xs) (251, lo, st, S) = q_fin (kL_law b L xs) ((q_push (.int 1)) 251 lo st S) := q_ev_step rfl lo st S
set_option maxRecDepth 20000 in
theorem sL_law_252 {b L : Nat} {xs : Nat → Int32} (lo : q_Lo) (st : List Value) (S : q_S) : q_ev (kL_law b L xs) (252, lo, st, S) = q_fin (kL_law b L xs) ((q_bin (fun x y => x + y)) 252 lo st S) := q_ev_step rfl lo st S
set_option maxRecDepth 20000 in
theorem sL_law_253 {b L : Nat} {xs : Nat → Int32} (lo : q_Lo) (st : List Value) (S : q_S) : q_ev (kL_law b L xs) (253, lo, st, S) = q_fin (kL_law b L xs) ((q_sld b L xs) 253 lo st S) := q_ev_step rfl lo st S
set_option maxRecDepth 20000 in
theorem sL_law_254 {b L : Nat} {xs : Nat → Int32} (lo : q_Lo) (st : List Value) (S : q_S) : q_ev (kL_law b L xs) (254, lo, st, S) = q_fin (kL_law b L xs) ((q_aloadX 0) 254 lo st S) := q_ev_step rfl lo st S
set_option maxRecDepth 20000 in
theorem sL_law_255 {b L : Nat} {xs : Nat → Int32} (lo : q_Lo) (st : List Value) (S : q_S) : q_ev (kL_law b L xs) (255, lo, st, S) = q_fin (kL_law b L xs) ((q_iload 3) 255 lo st S) := q_ev_step rfl lo st S
set_option maxRecDepth 20000 in
theorem sL_law_256 {b L : Nat} {xs : Nat → Int32} (lo : q_Lo) (st : List Value) (S : q_S) : q_ev (kL_law b L xs) (256, lo, st, S) = q_fin (kL_law b L xs) ((q_push (.int 2)) 256 lo st S) := q_ev_step rfl lo st S
set_option maxRecDepth 20000 in
theorem sL_law_257 {b L : Nat} {xs : Nat → Int32} (lo : q_Lo) (st : List Value) (S : q_S) : q_ev (kL_law b L xs) (257, lo, st, S) = q_fin (kL_law b L xs) ((q_bin (fun x y => x + y)) 257 lo st S) := q_ev_step rfl lo st S
set_option maxRecDepth 20000 in
theorem sL_law_258 {b L : Nat} {xs : Nat → Int32} (lo : q_Lo) (st : List Value) (S : q_S) : q_ev (kL_law b L xs) (258, lo, st, S) = q_fin (kL_law b L xs) ((q_sld b L xs) 258 lo st S) := q_ev_step rfl lo st S
set_option maxRecDepth 20000 in
theorem sL_law_259 {b L : Nat} {xs : Nat → Int32} (lo : q_Lo) (st : List Value) (S : q_S) : q_ev (kL_law b L xs) (259, lo, st, S) = q_fin (kL_law b L xs) ((q_invV [(9, q_call kX10_at 3)] 2) 259 lo st S) := q_ev_step rfl lo st S
set_option maxRecDepth 20000 in
theorem sL_law_260 {b L : Nat} {xs : Nat → Int32} (lo : q_Lo) (st : List Value) (S : q_S) : q_ev (kL_law b L xs) (260, lo, st, S) = q_fin (kL_law b L xs) ((q_aload 2) 260 lo st S) := q_ev_step rfl lo st S
set_option maxRecDepth 20000 in
theorem sL_law_261 {b L : Nat} {xs : Nat → Int32} (lo : q_Lo) (st : List Value) (S : q_S) : q_ev (kL_law b L xs) (261, lo, st, S) = q_fin (kL_law b L xs) ((q_aloadX 0) 261 lo st S) := q_ev_step rfl lo st S
set_option maxRecDepth 20000 in
theorem sL_law_262 {b L : Nat} {xs : Nat → Int32} (lo : q_Lo) (st : List Value) (S : q_S) : q_ev (kL_law b L xs) (262, lo, st, S) = q_fin (kL_law b L xs) ((q_iload 3) 262 lo st S) := q_ev_step rfl lo st S
set_option maxRecDepth 20000 in
theorem sL_law_263 {b L : Nat} {xs : Nat → Int32} (lo : q_Lo) (st : List Value) (S : q_S) : q_ev (kL_law b L xs) (263, lo, st, S) = q_fin (kL_law b L xs) ((q_push (.int 1)) 263 lo st S) := q_ev_step rfl lo st S
set_option maxRecDepth 20000 in
theorem sL_law_264 {b L : Nat} {xs : Nat → Int32} (lo : q_Lo) (st : List Value) (S : q_S) : q_ev (kL_law b L xs) (264, lo, st, S) = q_fin (kL_law b L xs) ((q_bin (fun x y => x + y)) 264 lo st S) := q_ev_step rfl lo st S
set_option maxRecDepth 20000 in
theorem sL_law_265 {b L : Nat} {xs : Nat → Int32} (lo : q_Lo) (st : List Value) (S : q_S) : q_ev (kL_law b L xs) (265, lo, st, S) = q_fin (kL_law b L xs) ((q_sld b L xs) 265 lo st S) := q_ev_step rfl lo st S
set_option maxRecDepth 20000 in
theorem sL_law_266 {b L : Nat} {xs : Nat → Int32} (lo : q_Lo) (st : List Value) (S : q_S) : q_ev (kL_law b L xs) (266, lo, st, S) = q_fin (kL_law b L xs) ((q_aloadX 0) 266 lo st S) := q_ev_step rfl lo st S
set_option maxRecDepth 20000 in
theorem sL_law_267 {b L : Nat} {xs : Nat → Int32} (lo : q_Lo) (st : List Value) (S : q_S) : q_ev (kL_law b L xs) (267, lo, st, S) = q_fin (kL_law b L xs) ((q_iload 3) 267 lo st S) := q_ev_step rfl lo st S
set_option maxRecDepth 20000 in
theorem sL_law_268 {b L : Nat} {xs : Nat → Int32} (lo : q_Lo) (st : List Value) (S : q_S) : q_ev (kL_law b L xs) (268, lo, st, S) = q_fin (kL_law b L xs) ((q_push (.int 2)) 268 lo st S) := q_ev_step rfl lo st S
set_option maxRecDepth 20000 in
theorem sL_law_269 {b L : Nat} {xs : Nat → Int32} (lo : q_Lo) (st : List Value) (S : q_S) : q_ev (kL_law b L xs) (269, lo, st, S) = q_fin (kL_law b L xs) ((q_bin (fun x y => x + y)) 269 lo st S) := q_ev_step rfl lo st S
set_option maxRecDepth 20000 in
theorem sL_law_270 {b L : Nat} {xs : Nat → Int32} (lo : q_Lo) (st : List Value) (S : q_S) : q_ev (kL_law b L xs) (270, lo, st, S) = q_fin (kL_law b L xs) ((q_sld b L xs) 270 lo st S) := q_ev_step rfl lo st S
set_option maxRecDepth 20000 in
theorem sL_law_271 {b L : Nat} {xs : Nat → Int32} (lo : q_Lo) (st : List Value) (S : q_S) : q_ev (kL_law b L xs) (271, lo, st, S) = q_fin (kL_law b L xs) ((q_invV [(10, q_call kX11_at 3)] 2) 271 lo st S) := q_ev_step rfl lo st S
set_option maxRecDepth 20000 in
theorem sL_law_272 {b L : Nat} {xs : Nat → Int32} (lo : q_Lo) (st : List Value) (S : q_S) : q_ev (kL_law b L xs) (272, lo, st, S) = q_fin (kL_law b L xs) ((q_cmpeq 650) 272 lo st S) := q_ev_step rfl lo st S
set_option maxRecDepth 20000 in
theorem sL_law_273 {b L : Nat} {xs : Nat → Int32} (lo : q_Lo) (st : List Value) (S : q_S) : q_ev (kL_law b L xs) (273, lo, st, S) = q_fin (kL_law b L xs) ((q_push (.int 0)) 273 lo st S) := q_ev_step rfl lo st S
set_option maxRecDepth 20000 in
theorem sL_law_274 {b L : Nat} {xs : Nat → Int32} (lo : q_Lo) (st : List Value) (S : q_S) : q_ev (kL_law b L xs) (274, lo, st, S) = q_fin (kL_law b L xs) ((q_zret) 274 lo st S) := q_ev_step rfl lo st S
set_option maxRecDepth 20000 in
theorem sL_law_275 {b L : Nat} {xs : Nat → Int32} (lo : q_Lo) (st : List Value) (S : q_S) : q_ev (kL_law b L xs) (275, lo, st, S) = q_fin (kL_law b L xs) ((q_aload 1) 275 lo st S) := q_ev_step rfl lo st S
set_option maxRecDepth 20000 in
theorem sL_law_276 {b L : Nat} {xs : Nat → Int32} (lo : q_Lo) (st : List Value) (S : q_S) : q_ev (kL_law b L xs) (276, lo, st, S) = q_fin (kL_law b L xs) ((q_aloadX 0) 276 lo st S) := q_ev_step rfl lo st S
set_option maxRecDepth 20000 in
theorem sL_law_277 {b L : Nat} {xs : Nat → Int32} (lo : q_Lo) (st : List Value) (S : q_S) : q_ev (kL_law b L xs) (277, lo, st, S) = q_fin (kL_law b L xs) ((q_iload 3) 277 lo st S) := q_ev_step rfl lo st S
set_option maxRecDepth 20000 in
theorem sL_law_278 {b L : Nat} {xs : Nat → Int32} (lo : q_Lo) (st : List Value) (S : q_S) : q_ev (kL_law b L xs) (278, lo, st, S) = q_fin (kL_law b L xs) ((q_push (.int 1)) 278 lo st S) := q_ev_step rfl lo st S
set_option maxRecDepth 20000 in
theorem sL_law_279 {b L : Nat} {xs : Nat → Int32} (lo : q_Lo) (st : List Value) (S : q_S) : q_ev (kL_law b L xs) (279, lo, st, S) = q_fin (kL_law b L xs) ((q_bin (fun x y => x + y)) 279 lo st S) := q_ev_step rfl lo st S
set_option maxRecDepth 20000 in
theorem sL_law_280 {b L : Nat} {xs : Nat → Int32} (lo : q_Lo) (st : List Value) (S : q_S) : q_ev (kL_law b L xs) (280, lo, st, S) = q_fin (kL_law b L xs) ((q_sld b L xs) 280 lo st S) := q_ev_step rfl lo st S
set_option maxRecDepth 20000 in
theorem sL_law_281 {b L : Nat} {xs : Nat → Int32} (lo : q_Lo) (st : List Value) (S : q_S) : q_ev (kL_law b L xs) (281, lo, st, S) = q_fin (kL_law b L xs) ((q_invV [(9, q_call kX10_about 2)] 1) 281 lo st S) := q_ev_step rfl lo st S
set_option maxRecDepth 20000 in
theorem sL_law_282 {b L : Nat} {xs : Nat → Int32} (lo : q_Lo) (st : List Value) (S : q_S) : q_ev (kL_law b L xs) (282, lo, st, S) = q_fin (kL_law b L xs) ((q_aload 2) 282 lo st S) := q_ev_step rfl lo st S
set_option maxRecDepth 20000 in
theorem sL_law_283 {b L : Nat} {xs : Nat → Int32} (lo : q_Lo) (st : List Value) (S : q_S) : q_ev (kL_law b L xs) (283, lo, st, S) = q_fin (kL_law b L xs) ((q_aloadX 0) 283 lo st S) := q_ev_step rfl lo st S
set_option maxRecDepth 20000 in
theorem sL_law_284 {b L : Nat} {xs : Nat → Int32} (lo : q_Lo) (st : List Value) (S : q_S) : q_ev (kL_law b L xs) (284, lo, st, S) = q_fin (kL_law b L xs) ((q_iload 3) 284 lo st S) := q_ev_step rfl lo st S
set_option maxRecDepth 20000 in
theorem sL_law_285 {b L : Nat} {xs : Nat → Int32} (lo : q_Lo) (st : List Value) (S : q_S) : q_ev (kL_law b L xs) (285, lo, st, S) = q_fin (kL_law b L xs) ((q_push (.int 1)) 285 lo st S) := q_ev_step rfl lo st S
set_option maxRecDepth 20000 in
theorem sL_law_286 {b L : Nat} {xs : Nat → Int32} (lo : q_Lo) (st : List Value) (S : q_S) : q_ev (kL_law b L xs) (286, lo, st, S) = q_fin (kL_law b L xs) ((q_bin (fun x y => x + y)) 286 lo st S) := q_ev_step rfl lo st S
set_option maxRecDepth 20000 in
theorem sL_law_287 {b L : Nat} {xs : Nat → Int32} (lo : q_Lo) (st : List Value) (S : q_S) : q_ev (kL_law b L xs) (287, lo, st, S) = q_fin (kL_law b L xs) ((q_sld b L xs) 287 lo st S) := q_ev_step rfl lo st S
set_option maxRecDepth 20000 in
theorem sL_law_288 {b L : Nat} {xs : Nat → Int32} (lo : q_Lo) (st : List Value) (S : q_S) : q_ev (kL_law b L xs) (288, lo, st, S) = q_fin (kL_law b L xs) ((q_invV [(10, q_call kX11_about 2)] 1) 288 lo st S) := q_ev_step rfl lo st S
set_option maxRecDepth 20000 in
theorem sL_law_289 {b L : Nat} {xs : Nat → Int32} (lo : q_Lo) (st : List Value) (S : q_S) : q_ev (kL_law b L xs) (289, lo, st, S) = q_fin (kL_law b L xs) ((q_cmpeq 650) 289 lo st S) := q_ev_step rfl lo st S
set_option maxRecDepth 20000 in
theorem sL_law_290 {b L : Nat} {xs : Nat → Int32} (lo : q_Lo) (st : List Value) (S : q_S) : q_ev (kL_law b L xs) (290, lo, st, S) = q_fin (kL_law b L xs) ((q_push (.int 0)) 290 lo st S) := q_ev_step rfl lo st S
set_option maxRecDepth 20000 in
theorem sL_law_291 {b L : Nat} {xs : Nat → Int32} (lo : q_Lo) (st : List Value) (S : q_S) : q_ev (kL_law b L xs) (291, lo, st, S) = q_fin (kL_law b L xs) ((q_zret) 291 lo st S) := q_ev_step rfl lo st S
set_option maxRecDepth 20000 in
theorem sL_law_292 {b L : Nat} {xs : Nat → Int32} (lo : q_Lo) (st : List Value) (S : q_S) : q_ev (kL_law b L xs) (292, lo, st, S) = q_fin (kL_law b L xs) ((q_aload 1) 292 lo st S) := q_ev_step rfl lo st S
set_option maxRecDepth 20000 in
theorem sL_law_293 {b L : Nat} {xs : Nat → Int32} (lo : q_Lo) (st : List Value) (S : q_S) : q_ev (kL_law b L xs) (293, lo, st, S) = q_fin (kL_law b L xs) ((q_aloadX 0) 293 lo st S) := q_ev_step rfl lo st S
set_option maxRecDepth 20000 in
theorem sL_law_294 {b L : Nat} {xs : Nat → Int32} (lo : q_Lo) (st : List Value) (S : q_S) : q_ev (kL_law b L xs) (294, lo, st, S) = q_fin (kL_law b L xs) ((q_iload 3) 294 lo st S) := q_ev_step rfl lo st S
set_option maxRecDepth 20000 in
theorem sL_law_295 {b L : Nat} {xs : Nat → Int32} (lo : q_Lo) (st : List Value) (S : q_S) : q_ev (kL_law b L xs) (295, lo, st, S) = q_fin (kL_law b L xs) ((q_push (.int 1)) 295 lo st S) := q_ev_step rfl lo st S
set_option maxRecDepth 20000 in
theorem sL_law_296 {b L : Nat} {xs : Nat → Int32} (lo : q_Lo) (st : List Value) (S : q_S) : q_ev (kL_law b L xs) (296, lo, st, S) = q_fin (kL_law b L xs) ((q_bin (fun x y => x + y)) 296 lo st S) := q_ev_step rfl lo st S
set_option maxRecDepth 20000 in
theorem sL_law_297 {b L : Nat} {xs : Nat → Int32} (lo : q_Lo) (st : List Value) (S : q_S) : q_ev (kL_law b L xs) (297, lo, st, S) = q_fin (kL_law b L xs) ((q_sld b L xs) 297 lo st S) := q_ev_step rfl lo st S
set_option maxRecDepth 20000 in
theorem sL_law_298 {b L : Nat} {xs : Nat → Int32} (lo : q_Lo) (st : List Value) (S : q_S) : q_ev (kL_law b L xs) (298, lo, st, S) = q_fin (kL_law b L xs) ((q_aloadX 0) 298 lo st S) := q_ev_step rfl lo st S
set_option maxRecDepth 20000 in
theorem sL_law_299 {b L : Nat} {xs : Nat → Int32} (lo : q_Lo) (st : List Value) (S : q_S) : q_ev (kL_law b L xs) (299, lo, st, S) = q_fin (kL_law b L xs) ((q_iload 3) 299 lo st S) := q_ev_step rfl lo st S
set_option maxRecDepth 20000 in
theorem sL_law_300 {b L : Nat} {xs : Nat → Int32} (lo : q_Lo) (st : List Value) (S : q_S) : q_ev (kL_law b L xs) (300, lo, st, S) = q_fin (kL_law b L xs) ((q_push (.int 2)) 300 lo st S) := q_ev_step rfl lo st S
set_option maxRecDepth 20000 in
theorem sL_law_301 {b L : Nat} {xs : Nat → Int32} (lo : q_Lo) (st : List Value) (S : q_S) : q_ev (kL_law b L xs) (301, lo, st, S) = q_fin (kL_law b L xs) ((q_bin (fun x y => x + y)) 301 lo st S) := q_ev_step rfl lo st S
set_option maxRecDepth 20000 in
theorem sL_law_302 {b L : Nat} {xs : Nat → Int32} (lo : q_Lo) (st : List Value) (S : q_S) : q_ev (kL_law b L xs) (302, lo, st, S) = q_fin (kL_law b L xs) ((q_sld b L xs) 302 lo st S) := q_ev_step rfl lo st S
set_option maxRecDepth 20000 in
theorem sL_law_303 {b L : Nat} {xs : Nat → Int32} (lo : q_Lo) (st : List Value) (S : q_S) : q_ev (kL_law b L xs) (303, lo, st, S) = q_fin (kL_law b L xs) ((q_aloadX 0) 303 lo st S) := q_ev_step rfl lo st S
set_option maxRecDepth 20000 in
theorem sL_law_304 {b L : Nat} {xs : Nat → Int32} (lo : q_Lo) (st : List Value) (S : q_S) : q_ev (kL_law b L xs) (304, lo, st, S) = q_fin (kL_law b L xs) ((q_iload 3) 304 lo st S) := q_ev_step rfl lo st S
set_option maxRecDepth 20000 in
theorem sL_law_305 {b L : Nat} {xs : Nat → Int32} (lo : q_Lo) (st : List Value) (S : q_S) : q_ev (kL_law b L xs) (305, lo, st, S) = q_fin (kL_law b L xs) ((q_push (.int 3)) 305 lo st S) := q_ev_step rfl lo st S
set_option maxRecDepth 20000 in
theorem sL_law_306 {b L : Nat} {xs : Nat → Int32} (lo : q_Lo) (st : List Value) (S : q_S) : q_ev (kL_law b L xs) (306, lo, st, S) = q_fin (kL_law b L xs) ((q_bin (fun x y => x + y)) 306 lo st S) := q_ev_step rfl lo st S
set_option maxRecDepth 20000 in
theorem sL_law_307 {b L : Nat} {xs : Nat → Int32} (lo : q_Lo) (st : List Value) (S : q_S) : q_ev (kL_law b L xs) (307, lo, st, S) = q_fin (kL_law b L xs) ((q_sld b L xs) 307 lo st S) := q_ev_step rfl lo st S
set_option maxRecDepth 20000 in
theorem sL_law_308 {b L : Nat} {xs : Nat → Int32} (lo : q_Lo) (st : List Value) (S : q_S) : q_ev (kL_law b L xs) (308, lo, st, S) = q_fin (kL_law b L xs) ((q_invV [(9, q_call kX10_steady 6)] 3) 308 lo st S) := q_ev_step rfl lo st S
set_option maxRecDepth 20000 in
theorem sL_law_309 {b L : Nat} {xs : Nat → Int32} (lo : q_Lo) (st : List Value) (S : q_S) : q_ev (kL_law b L xs) (309, lo, st, S) = q_fin (kL_law b L xs) ((q_aload 2) 309 lo st S) := q_ev_step rfl lo st S
set_option maxRecDepth 20000 in
theorem sL_law_310 {b L : Nat} {xs : Nat → Int32} (lo : q_Lo) (st : List Value) (S : q_S) : q_ev (kL_law b L xs) (310, lo, st, S) = q_fin (kL_law b L xs) ((q_aloadX 0) 310 lo st S) := q_ev_step rfl lo st S
set_option maxRecDepth 20000 in
theorem sL_law_311 {b L : Nat} {xs : Nat → Int32} (lo : q_Lo) (st : List Value) (S : q_S) : q_ev (kL_law b L xs) (311, lo, st, S) = q_fin (kL_law b L xs) ((q_iload 3) 311 lo st S) := q_ev_step rfl lo st S
set_option maxRecDepth 20000 in
theorem sL_law_312 {b L : Nat} {xs : Nat → Int32} (lo : q_Lo) (st : List Value) (S : q_S) : q_ev (kL_law b L xs) (312, lo, st, S) = q_fin (kL_law b L xs) ((q_push (.int 1)) 312 lo st S) := q_ev_step rfl lo st S
set_option maxRecDepth 20000 in
theorem sL_law_313 {b L : Nat} {xs : Nat → Int32} (lo : q_Lo) (st : List Value) (S : q_S) : q_ev (kL_law b L xs) (313, lo, st, S) = q_fin (kL_law b L xs) ((q_bin (fun x y => x + y)) 313 lo st S) := q_ev_step rfl lo st S
set_option maxRecDepth 20000 in
theorem sL_law_314 {b L : Nat} {xs : Nat → Int32} (lo : q_Lo) (st : List Value) (S : q_S) : q_ev (kL_law b L xs) (314, lo, st, S) = q_fin (kL_law b L xs) ((q_sld b L xs) 314 lo st S) := q_ev_step rfl lo st S
set_option maxRecDepth 20000 in
theorem sL_law_315 {b L : Nat} {xs : Nat → Int32} (lo : q_Lo) (st : List Value) (S : q_S) : q_ev (kL_law b L xs) (315, lo, st, S) = q_fin (kL_law b L xs) ((q_aloadX 0) 315 lo st S) := q_ev_step rfl lo st S
set_option maxRecDepth 20000 in
theorem sL_law_316 {b L : Nat} {xs : Nat → Int32} (lo : q_Lo) (st : List Value) (S : q_S) : q_ev (kL_law b L xs) (316, lo, st, S) = q_fin (kL_law b L xs) ((q_iload 3) 316 lo st S) := q_ev_step rfl lo st S
set_option maxRecDepth 20000 in
theorem sL_law_317 {b L : Nat} {xs : Nat → Int32} (lo : q_Lo) (st : List Value) (S : q_S) : q_ev (kL_law b L xs) (317, lo, st, S) = q_fin (kL_law b L xs) ((q_push (.int 2)) 317 lo st S) := q_ev_step rfl lo st S
set_option maxRecDepth 20000 in
theorem sL_law_318 {b L : Nat} {xs : Nat → Int32} (lo : q_Lo) (st : List Value) (S : q_S) : q_ev (kL_law b L xs) (318, lo, st, S) = q_fin (kL_law b L xs) ((q_bin (fun x y => x + y)) 318 lo st S) := q_ev_step rfl lo st S
set_option maxRecDepth 20000 in
theorem sL_law_319 {b L : Nat} {xs : Nat → Int32} (lo : q_Lo) (st : List Value) (S : q_S) : q_ev (kL_law b L xs) (319, lo, st, S) = q_fin (kL_law b L xs) ((q_sld b L xs) 319 lo st S) := q_ev_step rfl lo st S
set_option maxRecDepth 20000 in
theorem sL_law_320 {b L : Nat} {xs : Nat → Int32} (lo : q_Lo) (st : List Value) (S : q_S) : q_ev (kL_law b L xs) (320, lo, st, S) = q_fin (kL_law b L xs) ((q_aloadX 0) 320 lo st S) := q_ev_step rfl lo st S
set_option maxRecDepth 20000 in
theorem sL_law_321 {b L : Nat} {xs : Nat → Int32} (lo : q_Lo) (st : List Value) (S : q_S) : q_ev (kL_law b L xs) (321, lo, st, S) = q_fin (kL_law b L xs) ((q_iload 3) 321 lo st S) := q_ev_step rfl lo st S
set_option maxRecDepth 20000 in
theorem sL_law_322 {b L : Nat} {xs : Nat → Int32} (lo : q_Lo) (st : List Value) (S : q_S) : q_ev (kL_law b L xs) (322, lo, st, S) = q_fin (kL_law b L xs) ((q_push (.int 3)) 322 lo st S) := q_ev_step rfl lo st S
set_option maxRecDepth 20000 in
theorem sL_law_323 {b L : Nat} {xs : Nat → Int32} (lo : q_Lo) (st : List Value) (S : q_S) : q_ev (kL_law b L xs) (323, lo, st, S) = q_fin (kL_law b L xs) ((q_bin (fun x y => x + y)) 323 lo st S) := q_ev_step rfl lo st S
set_option maxRecDepth 20000 in
theorem sL_law_324 {b L : Nat} {xs : Nat → Int32} (lo : q_Lo) (st : List Value) (S : q_S) : q_ev (kL_law b L xs) (324, lo, st, S) = q_fin (kL_law b L xs) ((q_sld b L xs) 324 lo st S) := q_ev_step rfl lo st S
set_option maxRecDepth 20000 in
theorem sL_law_325 {b L : Nat} {xs : Nat → Int32} (lo : q_Lo) (st : List Value) (S : q_S) : q_ev (kL_law b L xs) (325, lo, st, S) = q_fin (kL_law b L xs) ((q_invV [(10, q_call kX11_steady 9)] 3) 325 lo st S) := q_ev_step rfl lo st S
set_option maxRecDepth 20000 in
theorem sL_law_326 {b L : Nat} {xs : Nat → Int32} (lo : q_Lo) (st : List Value) (S : q_S) : q_ev (kL_law b L xs) (326, lo, st, S) = q_fin (kL_law b L xs) ((q_cmpeq 650) 326 lo st S) := q_ev_step rfl lo st S
set_option maxRecDepth 20000 in
theorem sL_law_327 {b L : Nat} {xs : Nat → Int32} (lo : q_Lo) (st : List Value) (S : q_S) : q_ev (kL_law b L xs) (327, lo, st, S) = q_fin (kL_law b L xs) ((q_push (.int 0)) 327 lo st S) := q_ev_step rfl lo st S
set_option maxRecDepth 20000 in
theorem sL_law_328 {b L : Nat} {xs : Nat → Int32} (lo : q_Lo) (st : List Value) (S : q_S) : q_ev (kL_law b L xs) (328, lo, st, S) = q_fin (kL_law b L xs) ((q_zret) 328 lo st S) := q_ev_step rfl lo st S
set_option maxRecDepth 20000 in
theorem sL_law_329 {b L : Nat} {xs : Nat → Int32} (lo : q_Lo) (st : List Value) (S : q_S) : q_ev (kL_law b L xs) (329, lo, st, S) = q_fin (kL_law b L xs) ((q_aload 1) 329 lo st S) := q_ev_step rfl lo st S
set_option maxRecDepth 20000 in
theorem sL_law_330 {b L : Nat} {xs : Nat → Int32} (lo : q_Lo) (st : List Value) (S : q_S) : q_ev (kL_law b L xs) (330, lo, st, S) = q_fin (kL_law b L xs) ((q_aloadX 0) 330 lo st S) := q_ev_step rfl lo st S
set_option maxRecDepth 20000 in
theorem sL_law_331 {b L : Nat} {xs : Nat → Int32} (lo : q_Lo) (st : List Value) (S : q_S) : q_ev (kL_law b L xs) (331, lo, st, S) = q_fin (kL_law b L xs) ((q_iload 3) 331 lo st S) := q_ev_step rfl lo st S
set_option maxRecDepth 20000 in
theorem sL_law_332 {b L : Nat} {xs : Nat → Int32} (lo : q_Lo) (st : List Value) (S : q_S) : q_ev (kL_law b L xs) (332, lo, st, S) = q_fin (kL_law b L xs) ((q_push (.int 1)) 332 lo st S) := q_ev_step rfl lo st S
set_option maxRecDepth 20000 in
theorem sL_law_333 {b L : Nat} {xs : Nat → Int32} (lo : q_Lo) (st : List Value) (S : q_S) : q_ev (kL_law b L xs) (333, lo, st, S) = q_fin (kL_law b L xs) ((q_bin (fun x y => x + y)) 333 lo st S) := q_ev_step rfl lo st S
set_option maxRecDepth 20000 in
theorem sL_law_334 {b L : Nat} {xs : Nat → Int32} (lo : q_Lo) (st : List Value) (S : q_S) : q_ev (kL_law b L xs) (334, lo, st, S) = q_fin (kL_law b L xs) ((q_sld b L xs) 334 lo st S) := q_ev_step rfl lo st S
set_option maxRecDepth 20000 in
theorem sL_law_335 {b L : Nat} {xs : Nat → Int32} (lo : q_Lo) (st : List Value) (S : q_S) : q_ev (kL_law b L xs) (335, lo, st, S) = q_fin (kL_law b L xs) ((q_aloadX 0) 335 lo st S) := q_ev_step rfl lo st S
set_option maxRecDepth 20000 in
theorem sL_law_336 {b L : Nat} {xs : Nat → Int32} (lo : q_Lo) (st : List Value) (S : q_S) : q_ev (kL_law b L xs) (336, lo, st, S) = q_fin (kL_law b L xs) ((q_iload 3) 336 lo st S) := q_ev_step rfl lo st S
set_option maxRecDepth 20000 in
theorem sL_law_337 {b L : Nat} {xs : Nat → Int32} (lo : q_Lo) (st : List Value) (S : q_S) : q_ev (kL_law b L xs) (337, lo, st, S) = q_fin (kL_law b L xs) ((q_push (.int 2)) 337 lo st S) := q_ev_step rfl lo st S
set_option maxRecDepth 20000 in
theorem sL_law_338 {b L : Nat} {xs : Nat → Int32} (lo : q_Lo) (st : List Value) (S : q_S) : q_ev (kL_law b L xs) (338, lo, st, S) = q_fin (kL_law b L xs) ((q_bin (fun x y => x + y)) 338 lo st S) := q_ev_step rfl lo st S
set_option maxRecDepth 20000 in
theorem sL_law_339 {b L : Nat} {xs : Nat → Int32} (lo : q_Lo) (st : List Value) (S : q_S) : q_ev (kL_law b L xs) (339, lo, st, S) = q_fin (kL_law b L xs) ((q_sld b L xs) 339 lo st S) := q_ev_step rfl lo st S
set_option maxRecDepth 20000 in
theorem sL_law_340 {b L : Nat} {xs : Nat → Int32} (lo : q_Lo) (st : List Value) (S : q_S) : q_ev (kL_law b L xs) (340, lo, st, S) = q_fin (kL_law b L xs) ((q_aloadX 0) 340 lo st S) := q_ev_step rfl lo st S
set_option maxRecDepth 20000 in
theorem sL_law_341 {b L : Nat} {xs : Nat → Int32} (lo : q_Lo) (st : List Value) (S : q_S) : q_ev (kL_law b L xs) (341, lo, st, S) = q_fin (kL_law b L xs) ((q_iload 3) 341 lo st S) := q_ev_step rfl lo st S
set_option maxRecDepth 20000 in
theorem sL_law_342 {b L : Nat} {xs : Nat → Int32} (lo : q_Lo) (st : List Value) (S : q_S) : q_ev (kL_law b L xs) (342, lo, st, S) = q_fin (kL_law b L xs) ((q_push (.int 3)) 342 lo st S) := q_ev_step rfl lo st S
set_option maxRecDepth 20000 in
theorem sL_law_343 {b L : Nat} {xs : Nat → Int32} (lo : q_Lo) (st : List Value) (S : q_S) : q_ev (kL_law b L xs) (343, lo, st, S) = q_fin (kL_law b L xs) ((q_bin (fun x y => x + y)) 343 lo st S) := q_ev_step rfl lo st S
set_option maxRecDepth 20000 in
theorem sL_law_344 {b L : Nat} {xs : Nat → Int32} (lo : q_Lo) (st : List Value) (S : q_S) : q_ev (kL_law b L xs) (344, lo, st, S) = q_fin (kL_law b L xs) ((q_sld b L xs) 344 lo st S) := q_ev_step rfl lo st S
set_option maxRecDepth 20000 in
theorem sL_law_345 {b L : Nat} {xs : Nat → Int32} (lo : q_Lo) (st : List Value) (S : q_S) : q_ev (kL_law b L xs) (345, lo, st, S) = q_fin (kL_law b L xs) ((q_invV [(9, q_call kX10_miss 4)] 3) 345 lo st S) := q_ev_step rfl lo st S
set_option maxRecDepth 20000 in
theorem sL_law_346 {b L : Nat} {xs : Nat → Int32} (lo : q_Lo) (st : List Value) (S : q_S) : q_ev (kL_law b L xs) (346, lo, st, S) = q_fin (kL_law b L xs) ((q_aload 2) 346 lo st S) := q_ev_step rfl lo st S
set_option maxRecDepth 20000 in
theorem sL_law_347 {b L : Nat} {xs : Nat → Int32} (lo : q_Lo) (st : List Value) (S : q_S) : q_ev (kL_law b L xs) (347, lo, st, S) = q_fin (kL_law b L xs) ((q_aloadX 0) 347 lo st S) := q_ev_step rfl lo st S
set_option maxRecDepth 20000 in
theorem sL_law_348 {b L : Nat} {xs : Nat → Int32} (lo : q_Lo) (st : List Value) (S : q_S) : q_ev (kL_law b L xs) (348, lo, st, S) = q_fin (kL_law b L xs) ((q_iload 3) 348 lo st S) := q_ev_step rfl lo st S
set_option maxRecDepth 20000 in
theorem sL_law_349 {b L : Nat} {xs : Nat → Int32} (lo : q_Lo) (st : List Value) (S : q_S) : q_ev (kL_law b L xs) (349, lo, st, S) = q_fin (kL_law b L xs) ((q_push (.int 1)) 349 lo st S) := q_ev_step rfl lo st S
set_option maxRecDepth 20000 in
theorem sL_law_350 {b L : Nat} {xs : Nat → Int32} (lo : q_Lo) (st : List Value) (S : q_S) : q_ev (kL_law b L xs) (350, lo, st, S) = q_fin (kL_law b L xs) ((q_bin (fun x y => x + y)) 350 lo st S) := q_ev_step rfl lo st S
set_option maxRecDepth 20000 in
theorem sL_law_351 {b L : Nat} {xs : Nat → Int32} (lo : q_Lo) (st : List Value) (S : q_S) : q_ev (kL_law b L xs) (351, lo, st, S) = q_fin (kL_law b L xs) ((q_sld b L xs) 351 lo st S) := q_ev_step rfl lo st S
set_option maxRecDepth 20000 in
theorem sL_law_352 {b L : Nat} {xs : Nat → Int32} (lo : q_Lo) (st : List Value) (S : q_S) : q_ev (kL_law b L xs) (352, lo, st, S) = q_fin (kL_law b L xs) ((q_aloadX 0) 352 lo st S) := q_ev_step rfl lo st S
set_option maxRecDepth 20000 in
theorem sL_law_353 {b L : Nat} {xs : Nat → Int32} (lo : q_Lo) (st : List Value) (S : q_S) : q_ev (kL_law b L xs) (353, lo, st, S) = q_fin (kL_law b L xs) ((q_iload 3) 353 lo st S) := q_ev_step rfl lo st S
set_option maxRecDepth 20000 in
theorem sL_law_354 {b L : Nat} {xs : Nat → Int32} (lo : q_Lo) (st : List Value) (S : q_S) : q_ev (kL_law b L xs) (354, lo, st, S) = q_fin (kL_law b L xs) ((q_push (.int 2)) 354 lo st S) := q_ev_step rfl lo st S
set_option maxRecDepth 20000 in
theorem sL_law_355 {b L : Nat} {xs : Nat → Int32} (lo : q_Lo) (st : List Value) (S : q_S) : q_ev (kL_law b L xs) (355, lo, st, S) = q_fin (kL_law b L xs) ((q_bin (fun x y => x + y)) 355 lo st S) := q_ev_step rfl lo st S
set_option maxRecDepth 20000 in
theorem sL_law_356 {b L : Nat} {xs : Nat → Int32} (lo : q_Lo) (st : List Value) (S : q_S) : q_ev (kL_law b L xs) (356, lo, st, S) = q_fin (kL_law b L xs) ((q_sld b L xs) 356 lo st S) := q_ev_step rfl lo st S
set_option maxRecDepth 20000 in
theorem sL_law_357 {b L : Nat} {xs : Nat → Int32} (lo : q_Lo) (st : List Value) (S : q_S) : q_ev (kL_law b L xs) (357, lo, st, S) = q_fin (kL_law b L xs) ((q_aloadX 0) 357 lo st S) := q_ev_step rfl lo st S
set_option maxRecDepth 20000 in
theorem sL_law_358 {b L : Nat} {xs : Nat → Int32} (lo : q_Lo) (st : List Value) (S : q_S) : q_ev (kL_law b L xs) (358, lo, st, S) = q_fin (kL_law b L xs) ((q_iload 3) 358 lo st S) := q_ev_step rfl lo st S
set_option maxRecDepth 20000 in
theorem sL_law_359 {b L : Nat} {xs : Nat → Int32} (lo : q_Lo) (st : List Value) (S : q_S) : q_ev (kL_law b L xs) (359, lo, st, S) = q_fin (kL_law b L xs) ((q_push (.int 3)) 359 lo st S) := q_ev_step rfl lo st S
set_option maxRecDepth 20000 in
theorem sL_law_360 {b L : Nat} {xs : Nat → Int32} (lo : q_Lo) (st : List Value) (S : q_S) : q_ev (kL_law b L xs) (360, lo, st, S) = q_fin (kL_law b L xs) ((q_bin (fun x y => x + y)) 360 lo st S) := q_ev_step rfl lo st S
set_option maxRecDepth 20000 in
theorem sL_law_361 {b L : Nat} {xs : Nat → Int32} (lo : q_Lo) (st : List Value) (S : q_S) : q_ev (kL_law b L xs) (361, lo, st, S) = q_fin (kL_law b L xs) ((q_sld b L xs) 361 lo st S) := q_ev_step rfl lo st S
set_option maxRecDepth 20000 in
theorem sL_law_362 {b L : Nat} {xs : Nat → Int32} (lo : q_Lo) (st : List Value) (S : q_S) : q_ev (kL_law b L xs) (362, lo, st, S) = q_fin (kL_law b L xs) ((q_invV [(10, q_call kX11_miss 10)] 3) 362 lo st S) := q_ev_step rfl lo st S
set_option maxRecDepth 20000 in
theorem sL_law_363 {b L : Nat} {xs : Nat → Int32} (lo : q_Lo) (st : List Value) (S : q_S) : q_ev (kL_law b L xs) (363, lo, st, S) = q_fin (kL_law b L xs) ((q_lcmp) 363 lo st S) := q_ev_step rfl lo st S
set_option maxRecDepth 20000 in
theorem sL_law_364 {b L : Nat} {xs : Nat → Int32} (lo : q_Lo) (st : List Value) (S : q_S) : q_ev (kL_law b L xs) (364, lo, st, S) = q_fin (kL_law b L xs) ((q_ifeq 650) 364 lo st S) := q_ev_step rfl lo st S
set_option maxRecDepth 20000 in
theorem sL_law_365 {b L : Nat} {xs : Nat → Int32} (lo : q_Lo) (st : List Value) (S : q_S) : q_ev (kL_law b L xs) (365, lo, st, S) = q_fin (kL_law b L xs) ((q_push (.int 0)) 365 lo st S) := q_ev_step rfl lo st S
set_option maxRecDepth 20000 in
theorem sL_law_366 {b L : Nat} {xs : Nat → Int32} (lo : q_Lo) (st : List Value) (S : q_S) : q_ev (kL_law b L xs) (366, lo, st, S) = q_fin (kL_law b L xs) ((q_zret) 366 lo st S) := q_ev_step rfl lo st S
set_option maxRecDepth 20000 in
theorem sL_law_367 {b L : Nat} {xs : Nat → Int32} (lo : q_Lo) (st : List Value) (S : q_S) : q_ev (kL_law b L xs) (367, lo, st, S) = q_fin (kL_law b L xs) ((q_aload 1) 367 lo st S) := q_ev_step rfl lo st S
set_option maxRecDepth 20000 in
theorem sL_law_368 {b L : Nat} {xs : Nat → Int32} (lo : q_Lo) (st : List Value) (S : q_S) : q_ev (kL_law b L xs) (368, lo, st, S) = q_fin (kL_law b L xs) ((q_aloadX 0) 368 lo st S) := q_ev_step rfl lo st S
set_option maxRecDepth 20000 in
theorem sL_law_369 {b L : Nat} {xs : Nat → Int32} (lo : q_Lo) (st : List Value) (S : q_S) : q_ev (kL_law b L xs) (369, lo, st, S) = q_fin (kL_law b L xs) ((q_iload 3) 369 lo st S) := q_ev_step rfl lo st S
set_option maxRecDepth 20000 in
theorem sL_law_370 {b L : Nat} {xs : Nat → Int32} (lo : q_Lo) (st : List Value) (S : q_S) : q_ev (kL_law b L xs) (370, lo, st, S) = q_fin (kL_law b L xs) ((q_push (.int 1)) 370 lo st S) := q_ev_step rfl lo st S
set_option maxRecDepth 20000 in
theorem sL_law_371 {b L : Nat} {xs : Nat → Int32} (lo : q_Lo) (st : List Value) (S : q_S) : q_ev (kL_law b L xs) (371, lo, st, S) = q_fin (kL_law b L xs) ((q_bin (fun x y => x + y)) 371 lo st S) := q_ev_step rfl lo st S
set_option maxRecDepth 20000 in
theorem sL_law_372 {b L : Nat} {xs : Nat → Int32} (lo : q_Lo) (st : List Value) (S : q_S) : q_ev (kL_law b L xs) (372, lo, st, S) = q_fin (kL_law b L xs) ((q_sld b L xs) 372 lo st S) := q_ev_step rfl lo st S
set_option maxRecDepth 20000 in
theorem sL_law_373 {b L : Nat} {xs : Nat → Int32} (lo : q_Lo) (st : List Value) (S : q_S) : q_ev (kL_law b L xs) (373, lo, st, S) = q_fin (kL_law b L xs) ((q_aloadX 0) 373 lo st S) := q_ev_step rfl lo st S
set_option maxRecDepth 20000 in
theorem sL_law_374 {b L : Nat} {xs : Nat → Int32} (lo : q_Lo) (st : List Value) (S : q_S) : q_ev (kL_law b L xs) (374, lo, st, S) = q_fin (kL_law b L xs) ((q_iload 3) 374 lo st S) := q_ev_step rfl lo st S
set_option maxRecDepth 20000 in
theorem sL_law_375 {b L : Nat} {xs : Nat → Int32} (lo : q_Lo) (st : List Value) (S : q_S) : q_ev (kL_law b L xs) (375, lo, st, S) = q_fin (kL_law b L xs) ((q_push (.int 2)) 375 lo st S) := q_ev_step rfl lo st S
set_option maxRecDepth 20000 in
theorem sL_law_376 {b L : Nat} {xs : Nat → Int32} (lo : q_Lo) (st : List Value) (S : q_S) : q_ev (kL_law b L xs) (376, lo, st, S) = q_fin (kL_law b L xs) ((q_bin (fun x y => x + y)) 376 lo st S) := q_ev_step rfl lo st S
set_option maxRecDepth 20000 in
theorem sL_law_377 {b L : Nat} {xs : Nat → Int32} (lo : q_Lo) (st : List Value) (S : q_S) : q_ev (kL_law b L xs) (377, lo, st, S) = q_fin (kL_law b L xs) ((q_sld b L xs) 377 lo st S) := q_ev_step rfl lo st S
set_option maxRecDepth 20000 in
theorem sL_law_378 {b L : Nat} {xs : Nat → Int32} (lo : q_Lo) (st : List Value) (S : q_S) : q_ev (kL_law b L xs) (378, lo, st, S) = q_fin (kL_law b L xs) ((q_aloadX 0) 378 lo st S) := q_ev_step rfl lo st S
set_option maxRecDepth 20000 in
theorem sL_law_379 {b L : Nat} {xs : Nat → Int32} (lo : q_Lo) (st : List Value) (S : q_S) : q_ev (kL_law b L xs) (379, lo, st, S) = q_fin (kL_law b L xs) ((q_iload 3) 379 lo st S) := q_ev_step rfl lo st S
set_option maxRecDepth 20000 in
theorem sL_law_380 {b L : Nat} {xs : Nat → Int32} (lo : q_Lo) (st : List Value) (S : q_S) : q_ev (kL_law b L xs) (380, lo, st, S) = q_fin (kL_law b L xs) ((q_push (.int 3)) 380 lo st S) := q_ev_step rfl lo st S
set_option maxRecDepth 20000 in
theorem sL_law_381 {b L : Nat} {xs : Nat → Int32} (lo : q_Lo) (st : List Value) (S : q_S) : q_ev (kL_law b L xs) (381, lo, st, S) = q_fin (kL_law b L xs) ((q_bin (fun x y => x + y)) 381 lo st S) := q_ev_step rfl lo st S
set_option maxRecDepth 20000 in
theorem sL_law_382 {b L : Nat} {xs : Nat → Int32} (lo : q_Lo) (st : List Value) (S : q_S) : q_ev (kL_law b L xs) (382, lo, st, S) = q_fin (kL_law b L xs) ((q_sld b L xs) 382 lo st S) := q_ev_step rfl lo st S
set_option maxRecDepth 20000 in
theorem sL_law_383 {b L : Nat} {xs : Nat → Int32} (lo : q_Lo) (st : List Value) (S : q_S) : q_ev (kL_law b L xs) (383, lo, st, S) = q_fin (kL_law b L xs) ((q_aloadX 0) 383 lo st S) := q_ev_step rfl lo st S
set_option maxRecDepth 20000 in
theorem sL_law_384 {b L : Nat} {xs : Nat → Int32} (lo : q_Lo) (st : List Value) (S : q_S) : q_ev (kL_law b L xs) (384, lo, st, S) = q_fin (kL_law b L xs) ((q_iload 3) 384 lo st S) := q_ev_step rfl lo st S
set_option maxRecDepth 20000 in
theorem sL_law_385 {b L : Nat} {xs : Nat → Int32} (lo : q_Lo) (st : List Value) (S : q_S) : q_ev (kL_law b L xs) (385, lo, st, S) = q_fin (kL_law b L xs) ((q_push (.int 4)) 385 lo st S) := q_ev_step rfl lo st S
set_option maxRecDepth 20000 in
theorem sL_law_386 {b L : Nat} {xs : Nat → Int32} (lo : q_Lo) (st : List Value) (S : q_S) : q_ev (kL_law b L xs) (386, lo, st, S) = q_fin (kL_law b L xs) ((q_bin (fun x y => x + y)) 386 lo st S) := q_ev_step rfl lo st S
set_option maxRecDepth 20000 in
theorem sL_law_387 {b L : Nat} {xs : Nat → Int32} (lo : q_Lo) (st : List Value) (S : q_S) : q_ev (kL_law b L xs) (387, lo, st, S) = q_fin (kL_law b L xs) ((q_sld b L xs) 387 lo st S) := q_ev_step rfl lo st S
set_option maxRecDepth 20000 in
theorem sL_law_388 {b L : Nat} {xs : Nat → Int32} (lo : q_Lo) (st : List Value) (S : q_S) : q_ev (kL_law b L xs) (388, lo, st, S) = q_fin (kL_law b L xs) ((q_aloadX 0) 388 lo st S) := q_ev_step rfl lo st S
set_option maxRecDepth 20000 in
theorem sL_law_389 {b L : Nat} {xs : Nat → Int32} (lo : q_Lo) (st : List Value) (S : q_S) : q_ev (kL_law b L xs) (389, lo, st, S) = q_fin (kL_law b L xs) ((q_iload 3) 389 lo st S) := q_ev_step rfl lo st S
set_option maxRecDepth 20000 in
theorem sL_law_390 {b L : Nat} {xs : Nat → Int32} (lo : q_Lo) (st : List Value) (S : q_S) : q_ev (kL_law b L xs) (390, lo, st, S) = q_fin (kL_law b L xs) ((q_push (.int 5)) 390 lo st S) := q_ev_step rfl lo st S
set_option maxRecDepth 20000 in
theorem sL_law_391 {b L : Nat} {xs : Nat → Int32} (lo : q_Lo) (st : List Value) (S : q_S) : q_ev (kL_law b L xs) (391, lo, st, S) = q_fin (kL_law b L xs) ((q_bin (fun x y => x + y)) 391 lo st S) := q_ev_step rfl lo st S
set_option maxRecDepth 20000 in
theorem sL_law_392 {b L : Nat} {xs : Nat → Int32} (lo : q_Lo) (st : List Value) (S : q_S) : q_ev (kL_law b L xs) (392, lo, st, S) = q_fin (kL_law b L xs) ((q_sld b L xs) 392 lo st S) := q_ev_step rfl lo st S
set_option maxRecDepth 20000 in
theorem sL_law_393 {b L : Nat} {xs : Nat → Int32} (lo : q_Lo) (st : List Value) (S : q_S) : q_ev (kL_law b L xs) (393, lo, st, S) = q_fin (kL_law b L xs) ((q_invV [(9, q_call kX10_beside 6)] 5) 393 lo st S) := q_ev_step rfl lo st S
set_option maxRecDepth 20000 in
theorem sL_law_394 {b L : Nat} {xs : Nat → Int32} (lo : q_Lo) (st : List Value) (S : q_S) : q_ev (kL_law b L xs) (394, lo, st, S) = q_fin (kL_law b L xs) ((q_aload 2) 394 lo st S) := q_ev_step rfl lo st S
set_option maxRecDepth 20000 in
theorem sL_law_395 {b L : Nat} {xs : Nat → Int32} (lo : q_Lo) (st : List Value) (S : q_S) : q_ev (kL_law b L xs) (395, lo, st, S) = q_fin (kL_law b L xs) ((q_aloadX 0) 395 lo st S) := q_ev_step rfl lo st S
set_option maxRecDepth 20000 in
theorem sL_law_396 {b L : Nat} {xs : Nat → Int32} (lo : q_Lo) (st : List Value) (S : q_S) : q_ev (kL_law b L xs) (396, lo, st, S) = q_fin (kL_law b L xs) ((q_iload 3) 396 lo st S) := q_ev_step rfl lo st S
set_option maxRecDepth 20000 in
theorem sL_law_397 {b L : Nat} {xs : Nat → Int32} (lo : q_Lo) (st : List Value) (S : q_S) : q_ev (kL_law b L xs) (397, lo, st, S) = q_fin (kL_law b L xs) ((q_push (.int 1)) 397 lo st S) := q_ev_step rfl lo st S
set_option maxRecDepth 20000 in
theorem sL_law_398 {b L : Nat} {xs : Nat → Int32} (lo : q_Lo) (st : List Value) (S : q_S) : q_ev (kL_law b L xs) (398, lo, st, S) = q_fin (kL_law b L xs) ((q_bin (fun x y => x + y)) 398 lo st S) := q_ev_step rfl lo st S
set_option maxRecDepth 20000 in
theorem sL_law_399 {b L : Nat} {xs : Nat → Int32} (lo : q_Lo) (st : List Value) (S : q_S) : q_ev (kL_law b L xs) (399, lo, st, S) = q_fin (kL_law b L xs) ((q_sld b L xs) 399 lo st S) := q_ev_step rfl lo st S
set_option maxRecDepth 20000 in
theorem sL_law_400 {b L : Nat} {xs : Nat → Int32} (lo : q_Lo) (st : List Value) (S : q_S) : q_ev (kL_law b L xs) (400, lo, st, S) = q_fin (kL_law b L xs) ((q_aloadX 0) 400 lo st S) := q_ev_step rfl lo st S
set_option maxRecDepth 20000 in
theorem sL_law_401 {b L : Nat} {xs : Nat → Int32} (lo : q_Lo) (st : List Value) (S : q_S) : q_ev (kL_law b L xs) (401, lo, st, S) = q_fin (kL_law b L xs) ((q_iload 3) 401 lo st S) := q_ev_step rfl lo st S
set_option maxRecDepth 20000 in
theorem sL_law_402 {b L : Nat} {xs : Nat → Int32} (lo : q_Lo) (st : List Value) (S : q_S) : q_ev (kL_law b L xs) (402, lo, st, S) = q_fin (kL_law b L xs) ((q_push (.int 2)) 402 lo st S) := q_ev_step rfl lo st S
set_option maxRecDepth 20000 in
theorem sL_law_403 {b L : Nat} {xs : Nat → Int32} (lo : q_Lo) (st : List Value) (S : q_S) : q_ev (kL_law b L xs) (403, lo, st, S) = q_fin (kL_law b L xs) ((q_bin (fun x y => x + y)) 403 lo st S) := q_ev_step rfl lo st S
set_option maxRecDepth 20000 in
theorem sL_law_404 {b L : Nat} {xs : Nat → Int32} (lo : q_Lo) (st : List Value) (S : q_S) : q_ev (kL_law b L xs) (404, lo, st, S) = q_fin (kL_law b L xs) ((q_sld b L xs) 404 lo st S) := q_ev_step rfl lo st S
set_option maxRecDepth 20000 in
theorem sL_law_405 {b L : Nat} {xs : Nat → Int32} (lo : q_Lo) (st : List Value) (S : q_S) : q_ev (kL_law b L xs) (405, lo, st, S) = q_fin (kL_law b L xs) ((q_aloadX 0) 405 lo st S) := q_ev_step rfl lo st S
set_option maxRecDepth 20000 in
theorem sL_law_406 {b L : Nat} {xs : Nat → Int32} (lo : q_Lo) (st : List Value) (S : q_S) : q_ev (kL_law b L xs) (406, lo, st, S) = q_fin (kL_law b L xs) ((q_iload 3) 406 lo st S) := q_ev_step rfl lo st S
set_option maxRecDepth 20000 in
theorem sL_law_407 {b L : Nat} {xs : Nat → Int32} (lo : q_Lo) (st : List Value) (S : q_S) : q_ev (kL_law b L xs) (407, lo, st, S) = q_fin (kL_law b L xs) ((q_push (.int 3)) 407 lo st S) := q_ev_step rfl lo st S
set_option maxRecDepth 20000 in
theorem sL_law_408 {b L : Nat} {xs : Nat → Int32} (lo : q_Lo) (st : List Value) (S : q_S) : q_ev (kL_law b L xs) (408, lo, st, S) = q_fin (kL_law b L xs) ((q_bin (fun x y => x + y)) 408 lo st S) := q_ev_step rfl lo st S
set_option maxRecDepth 20000 in
theorem sL_law_409 {b L : Nat} {xs : Nat → Int32} (lo : q_Lo) (st : List Value) (S : q_S) : q_ev (kL_law b L xs) (409, lo, st, S) = q_fin (kL_law b L xs) ((q_sld b L xs) 409 lo st S) := q_ev_step rfl lo st S
set_option maxRecDepth 20000 in
theorem sL_law_410 {b L : Nat} {xs : Nat → Int32} (lo : q_Lo) (st : List Value) (S : q_S) : q_ev (kL_law b L xs) (410, lo, st, S) = q_fin (kL_law b L xs) ((q_aloadX 0) 410 lo st S) := q_ev_step rfl lo st S
set_option maxRecDepth 20000 in
theorem sL_law_411 {b L : Nat} {xs : Nat → Int32} (lo : q_Lo) (st : List Value) (S : q_S) : q_ev (kL_law b L xs) (411, lo, st, S) = q_fin (kL_law b L xs) ((q_iload 3) 411 lo st S) := q_ev_step rfl lo st S
set_option maxRecDepth 20000 in
theorem sL_law_412 {b L : Nat} {xs : Nat → Int32} (lo : q_Lo) (st : List Value) (S : q_S) : q_ev (kL_law b L xs) (412, lo, st, S) = q_fin (kL_law b L xs) ((q_push (.int 4)) 412 lo st S) := q_ev_step rfl lo st S
set_option maxRecDepth 20000 in
theorem sL_law_413 {b L : Nat} {xs : Nat → Int32} (lo : q_Lo) (st : List Value) (S : q_S) : q_ev (kL_law b L xs) (413, lo, st, S) = q_fin (kL_law b L xs) ((q_bin (fun x y => x + y)) 413 lo st S) := q_ev_step rfl lo st S
set_option maxRecDepth 20000 in
theorem sL_law_414 {b L : Nat} {xs : Nat → Int32} (lo : q_Lo) (st : List Value) (S : q_S) : q_ev (kL_law b L xs) (414, lo, st, S) = q_fin (kL_law b L xs) ((q_sld b L xs) 414 lo st S) := q_ev_step rfl lo st S
set_option maxRecDepth 20000 in
theorem sL_law_415 {b L : Nat} {xs : Nat → Int32} (lo : q_Lo) (st : List Value) (S : q_S) : q_ev (kL_law b L xs) (415, lo, st, S) = q_fin (kL_law b L xs) ((q_aloadX 0) 415 lo st S) := q_ev_step rfl lo st S
set_option maxRecDepth 20000 in
theorem sL_law_416 {b L : Nat} {xs : Nat → Int32} (lo : q_Lo) (st : List Value) (S : q_S) : q_ev (kL_law b L xs) (416, lo, st, S) = q_fin (kL_law b L xs) ((q_iload 3) 416 lo st S) := q_ev_step rfl lo st S
set_option maxRecDepth 20000 in
theorem sL_law_417 {b L : Nat} {xs : Nat → Int32} (lo : q_Lo) (st : List Value) (S : q_S) : q_ev (kL_law b L xs) (417, lo, st, S) = q_fin (kL_law b L xs) ((q_push (.int 5)) 417 lo st S) := q_ev_step rfl lo st S
set_option maxRecDepth 20000 in
theorem sL_law_418 {b L : Nat} {xs : Nat → Int32} (lo : q_Lo) (st : List Value) (S : q_S) : q_ev (kL_law b L xs) (418, lo, st, S) = q_fin (kL_law b L xs) ((q_bin (fun x y => x + y)) 418 lo st S) := q_ev_step rfl lo st S
set_option maxRecDepth 20000 in
theorem sL_law_419 {b L : Nat} {xs : Nat → Int32} (lo : q_Lo) (st : List Value) (S : q_S) : q_ev (kL_law b L xs) (419, lo, st, S) = q_fin (kL_law b L xs) ((q_sld b L xs) 419 lo st S) := q_ev_step rfl lo st S
set_option maxRecDepth 20000 in
theorem sL_law_420 {b L : Nat} {xs : Nat → Int32} (lo : q_Lo) (st : List Value) (S : q_S) : q_ev (kL_law b L xs) (420, lo, st, S) = q_fin (kL_law b L xs) ((q_invV [(10, q_call kX11_beside 11)] 5) 420 lo st S) := q_ev_step rfl lo st S
set_option maxRecDepth 20000 in
theorem sL_law_421 {b L : Nat} {xs : Nat → Int32} (lo : q_Lo) (st : List Value) (S : q_S) : q_ev (kL_law b L xs) (421, lo, st, S) = q_fin (kL_law b L xs) ((q_cmpeq 650) 421 lo st S) := q_ev_step rfl lo st S
set_option maxRecDepth 20000 in
theorem sL_law_422 {b L : Nat} {xs : Nat → Int32} (lo : q_Lo) (st : List Value) (S : q_S) : q_ev (kL_law b L xs) (422, lo, st, S) = q_fin (kL_law b L xs) ((q_push (.int 0)) 422 lo st S) := q_ev_step rfl lo st S
set_option maxRecDepth 20000 in
theorem sL_law_423 {b L : Nat} {xs : Nat → Int32} (lo : q_Lo) (st : List Value) (S : q_S) : q_ev (kL_law b L xs) (423, lo, st, S) = q_fin (kL_law b L xs) ((q_zret) 423 lo st S) := q_ev_step rfl lo st S
set_option maxRecDepth 20000 in
theorem sL_law_424 {b L : Nat} {xs : Nat → Int32} (lo : q_Lo) (st : List Value) (S : q_S) : q_ev (kL_law b L xs) (424, lo, st, S) = q_fin (kL_law b L xs) ((q_aload 1) 424 lo st S) := q_ev_step rfl lo st S
set_option maxRecDepth 20000 in
theorem sL_law_425 {b L : Nat} {xs : Nat → Int32} (lo : q_Lo) (st : List Value) (S : q_S) : q_ev (kL_law b L xs) (425, lo, st, S) = q_fin (kL_law b L xs) ((q_aloadX 0) 425 lo st S) := q_ev_step rfl lo st S
set_option maxRecDepth 20000 in
theorem sL_law_426 {b L : Nat} {xs : Nat → Int32} (lo : q_Lo) (st : List Value) (S : q_S) : q_ev (kL_law b L xs) (426, lo, st, S) = q_fin (kL_law b L xs) ((q_iload 3) 426 lo st S) := q_ev_step rfl lo st S
set_option maxRecDepth 20000 in
theorem sL_law_427 {b L : Nat} {xs : Nat → Int32} (lo : q_Lo) (st : List Value) (S : q_S) : q_ev (kL_law b L xs) (427, lo, st, S) = q_fin (kL_law b L xs) ((q_push (.int 1)) 427 lo st S) := q_ev_step rfl lo st S
set_option maxRecDepth 20000 in
theorem sL_law_428 {b L : Nat} {xs : Nat → Int32} (lo : q_Lo) (st : List Value) (S : q_S) : q_ev (kL_law b L xs) (428, lo, st, S) = q_fin (kL_law b L xs) ((q_bin (fun x y => x + y)) 428 lo st S) := q_ev_step rfl lo st S
set_option maxRecDepth 20000 in
theorem sL_law_429 {b L : Nat} {xs : Nat → Int32} (lo : q_Lo) (st : List Value) (S : q_S) : q_ev (kL_law b L xs) (429, lo, st, S) = q_fin (kL_law b L xs) ((q_sld b L xs) 429 lo st S) := q_ev_step rfl lo st S
set_option maxRecDepth 20000 in
theorem sL_law_430 {b L : Nat} {xs : Nat → Int32} (lo : q_Lo) (st : List Value) (S : q_S) : q_ev (kL_law b L xs) (430, lo, st, S) = q_fin (kL_law b L xs) ((q_aloadX 0) 430 lo st S) := q_ev_step rfl lo st S
set_option maxRecDepth 20000 in
theorem sL_law_431 {b L : Nat} {xs : Nat → Int32} (lo : q_Lo) (st : List Value) (S : q_S) : q_ev (kL_law b L xs) (431, lo, st, S) = q_fin (kL_law b L xs) ((q_iload 3) 431 lo st S) := q_ev_step rfl lo st S
set_option maxRecDepth 20000 in
theorem sL_law_432 {b L : Nat} {xs : Nat → Int32} (lo : q_Lo) (st : List Value) (S : q_S) : q_ev (kL_law b L xs) (432, lo, st, S) = q_fin (kL_law b L xs) ((q_push (.int 2)) 432 lo st S) := q_ev_step rfl lo st S
set_option maxRecDepth 20000 in
theorem sL_law_433 {b L : Nat} {xs : Nat → Int32} (lo : q_Lo) (st : List Value) (S : q_S) : q_ev (kL_law b L xs) (433, lo, st, S) = q_fin (kL_law b L xs) ((q_bin (fun x y => x + y)) 433 lo st S) := q_ev_step rfl lo st S
set_option maxRecDepth 20000 in
theorem sL_law_434 {b L : Nat} {xs : Nat → Int32} (lo : q_Lo) (st : List Value) (S : q_S) : q_ev (kL_law b L xs) (434, lo, st, S) = q_fin (kL_law b L xs) ((q_sld b L xs) 434 lo st S) := q_ev_step rfl lo st S
set_option maxRecDepth 20000 in
theorem sL_law_435 {b L : Nat} {xs : Nat → Int32} (lo : q_Lo) (st : List Value) (S : q_S) : q_ev (kL_law b L xs) (435, lo, st, S) = q_fin (kL_law b L xs) ((q_invV [(9, q_call kX10_swing 10)] 2) 435 lo st S) := q_ev_step rfl lo st S
set_option maxRecDepth 20000 in
theorem sL_law_436 {b L : Nat} {xs : Nat → Int32} (lo : q_Lo) (st : List Value) (S : q_S) : q_ev (kL_law b L xs) (436, lo, st, S) = q_fin (kL_law b L xs) ((q_aload 2) 436 lo st S) := q_ev_step rfl lo st S
set_option maxRecDepth 20000 in
theorem sL_law_437 {b L : Nat} {xs : Nat → Int32} (lo : q_Lo) (st : List Value) (S : q_S) : q_ev (kL_law b L xs) (437, lo, st, S) = q_fin (kL_law b L xs) ((q_aloadX 0) 437 lo st S) := q_ev_step rfl lo st S
set_option maxRecDepth 20000 in
theorem sL_law_438 {b L : Nat} {xs : Nat → Int32} (lo : q_Lo) (st : List Value) (S : q_S) : q_ev (kL_law b L xs) (438, lo, st, S) = q_fin (kL_law b L xs) ((q_iload 3) 438 lo st S) := q_ev_step rfl lo st S
set_option maxRecDepth 20000 in
theorem sL_law_439 {b L : Nat} {xs : Nat → Int32} (lo : q_Lo) (st : List Value) (S : q_S) : q_ev (kL_law b L xs) (439, lo, st, S) = q_fin (kL_law b L xs) ((q_push (.int 1)) 439 lo st S) := q_ev_step rfl lo st S
set_option maxRecDepth 20000 in
theorem sL_law_440 {b L : Nat} {xs : Nat → Int32} (lo : q_Lo) (st : List Value) (S : q_S) : q_ev (kL_law b L xs) (440, lo, st, S) = q_fin (kL_law b L xs) ((q_bin (fun x y => x + y)) 440 lo st S) := q_ev_step rfl lo st S
set_option maxRecDepth 20000 in
theorem sL_law_441 {b L : Nat} {xs : Nat → Int32} (lo : q_Lo) (st : List Value) (S : q_S) : q_ev (kL_law b L xs) (441, lo, st, S) = q_fin (kL_law b L xs) ((q_sld b L xs) 441 lo st S) := q_ev_step rfl lo st S
set_option maxRecDepth 20000 in
theorem sL_law_442 {b L : Nat} {xs : Nat → Int32} (lo : q_Lo) (st : List Value) (S : q_S) : q_ev (kL_law b L xs) (442, lo, st, S) = q_fin (kL_law b L xs) ((q_aloadX 0) 442 lo st S) := q_ev_step rfl lo st S
set_option maxRecDepth 20000 in
theorem sL_law_443 {b L : Nat} {xs : Nat → Int32} (lo : q_Lo) (st : List Value) (S : q_S) : q_ev (kL_law b L xs) (443, lo, st, S) = q_fin (kL_law b L xs) ((q_iload 3) 443 lo st S) := q_ev_step rfl lo st S
set_option maxRecDepth 20000 in
theorem sL_law_444 {b L : Nat} {xs : Nat → Int32} (lo : q_Lo) (st : List Value) (S : q_S) : q_ev (kL_law b L xs) (444, lo, st, S) = q_fin (kL_law b L xs) ((q_push (.int 2)) 444 lo st S) := q_ev_step rfl lo st S
set_option maxRecDepth 20000 in
theorem sL_law_445 {b L : Nat} {xs : Nat → Int32} (lo : q_Lo) (st : List Value) (S : q_S) : q_ev (kL_law b L xs) (445, lo, st, S) = q_fin (kL_law b L xs) ((q_bin (fun x y => x + y)) 445 lo st S) := q_ev_step rfl lo st S
set_option maxRecDepth 20000 in
theorem sL_law_446 {b L : Nat} {xs : Nat → Int32} (lo : q_Lo) (st : List Value) (S : q_S) : q_ev (kL_law b L xs) (446, lo, st, S) = q_fin (kL_law b L xs) ((q_sld b L xs) 446 lo st S) := q_ev_step rfl lo st S
set_option maxRecDepth 20000 in
theorem sL_law_447 {b L : Nat} {xs : Nat → Int32} (lo : q_Lo) (st : List Value) (S : q_S) : q_ev (kL_law b L xs) (447, lo, st, S) = q_fin (kL_law b L xs) ((q_invV [(10, q_call kX11_swing 13)] 2) 447 lo st S) := q_ev_step rfl lo st S
set_option maxRecDepth 20000 in
theorem sL_law_448 {b L : Nat} {xs : Nat → Int32} (lo : q_Lo) (st : List Value) (S : q_S) : q_ev (kL_law b L xs) (448, lo, st, S) = q_fin (kL_law b L xs) ((q_lcmp) 448 lo st S) := q_ev_step rfl lo st S
set_option maxRecDepth 20000 in
theorem sL_law_449 {b L : Nat} {xs : Nat → Int32} (lo : q_Lo) (st : List Value) (S : q_S) : q_ev (kL_law b L xs) (449, lo, st, S) = q_fin (kL_law b L xs) ((q_ifeq 650) 449 lo st S) := q_ev_step rfl lo st S
set_option maxRecDepth 20000 in
theorem sL_law_450 {b L : Nat} {xs : Nat → Int32} (lo : q_Lo) (st : List Value) (S : q_S) : q_ev (kL_law b L xs) (450, lo, st, S) = q_fin (kL_law b L xs) ((q_push (.int 0)) 450 lo st S) := q_ev_step rfl lo st S
set_option maxRecDepth 20000 in
theorem sL_law_451 {b L : Nat} {xs : Nat → Int32} (lo : q_Lo) (st : List Value) (S : q_S) : q_ev (kL_law b L xs) (451, lo, st, S) = q_fin (kL_law b L xs) ((q_zret) 451 lo st S) := q_ev_step rfl lo st S
set_option maxRecDepth 20000 in
theorem sL_law_452 {b L : Nat} {xs : Nat → Int32} (lo : q_Lo) (st : List Value) (S : q_S) : q_ev (kL_law b L xs) (452, lo, st, S) = q_fin (kL_law b L xs) ((q_aload 1) 452 lo st S) := q_ev_step rfl lo st S
set_option maxRecDepth 20000 in
theorem sL_law_453 {b L : Nat} {xs : Nat → Int32} (lo : q_Lo) (st : List Value) (S : q_S) : q_ev (kL_law b L xs) (453, lo, st, S) = q_fin (kL_law b L xs) ((q_aloadX 0) 453 lo st S) := q_ev_step rfl lo st S
set_option maxRecDepth 20000 in
theorem sL_law_454 {b L : Nat} {xs : Nat → Int32} (lo : q_Lo) (st : List Value) (S : q_S) : q_ev (kL_law b L xs) (454, lo, st, S) = q_fin (kL_law b L xs) ((q_iload 3) 454 lo st S) := q_ev_step rfl lo st S
set_option maxRecDepth 20000 in
theorem sL_law_455 {b L : Nat} {xs : Nat → Int32} (lo : q_Lo) (st : List Value) (S : q_S) : q_ev (kL_law b L xs) (455, lo, st, S) = q_fin (kL_law b L xs) ((q_push (.int 1)) 455 lo st S) := q_ev_step rfl lo st S
set_option maxRecDepth 20000 in
theorem sL_law_456 {b L : Nat} {xs : Nat → Int32} (lo : q_Lo) (st : List Value) (S : q_S) : q_ev (kL_law b L xs) (456, lo, st, S) = q_fin (kL_law b L xs) ((q_bin (fun x y => x + y)) 456 lo st S) := q_ev_step rfl lo st S
set_option maxRecDepth 20000 in
theorem sL_law_457 {b L : Nat} {xs : Nat → Int32} (lo : q_Lo) (st : List Value) (S : q_S) : q_ev (kL_law b L xs) (457, lo, st, S) = q_fin (kL_law b L xs) ((q_sld b L xs) 457 lo st S) := q_ev_step rfl lo st S
set_option maxRecDepth 20000 in
theorem sL_law_458 {b L : Nat} {xs : Nat → Int32} (lo : q_Lo) (st : List Value) (S : q_S) : q_ev (kL_law b L xs) (458, lo, st, S) = q_fin (kL_law b L xs) ((q_aloadX 0) 458 lo st S) := q_ev_step rfl lo st S
set_option maxRecDepth 20000 in
theorem sL_law_459 {b L : Nat} {xs : Nat → Int32} (lo : q_Lo) (st : List Value) (S : q_S) : q_ev (kL_law b L xs) (459, lo, st, S) = q_fin (kL_law b L xs) ((q_iload 3) 459 lo st S) := q_ev_step rfl lo st S
set_option maxRecDepth 20000 in
theorem sL_law_460 {b L : Nat} {xs : Nat → Int32} (lo : q_Lo) (st : List Value) (S : q_S) : q_ev (kL_law b L xs) (460, lo, st, S) = q_fin (kL_law b L xs) ((q_push (.int 2)) 460 lo st S) := q_ev_step rfl lo st S
set_option maxRecDepth 20000 in
theorem sL_law_461 {b L : Nat} {xs : Nat → Int32} (lo : q_Lo) (st : List Value) (S : q_S) : q_ev (kL_law b L xs) (461, lo, st, S) = q_fin (kL_law b L xs) ((q_bin (fun x y => x + y)) 461 lo st S) := q_ev_step rfl lo st S
set_option maxRecDepth 20000 in
theorem sL_law_462 {b L : Nat} {xs : Nat → Int32} (lo : q_Lo) (st : List Value) (S : q_S) : q_ev (kL_law b L xs) (462, lo, st, S) = q_fin (kL_law b L xs) ((q_sld b L xs) 462 lo st S) := q_ev_step rfl lo st S
set_option maxRecDepth 20000 in
theorem sL_law_463 {b L : Nat} {xs : Nat → Int32} (lo : q_Lo) (st : List Value) (S : q_S) : q_ev (kL_law b L xs) (463, lo, st, S) = q_fin (kL_law b L xs) ((q_invV [(9, q_call kX10_area 3)] 2) 463 lo st S) := q_ev_step rfl lo st S
set_option maxRecDepth 20000 in
theorem sL_law_464 {b L : Nat} {xs : Nat → Int32} (lo : q_Lo) (st : List Value) (S : q_S) : q_ev (kL_law b L xs) (464, lo, st, S) = q_fin (kL_law b L xs) ((q_aload 2) 464 lo st S) := q_ev_step rfl lo st S
set_option maxRecDepth 20000 in
theorem sL_law_465 {b L : Nat} {xs : Nat → Int32} (lo : q_Lo) (st : List Value) (S : q_S) : q_ev (kL_law b L xs) (465, lo, st, S) = q_fin (kL_law b L xs) ((q_aloadX 0) 465 lo st S) := q_ev_step rfl lo st S
set_option maxRecDepth 20000 in
theorem sL_law_466 {b L : Nat} {xs : Nat → Int32} (lo : q_Lo) (st : List Value) (S : q_S) : q_ev (kL_law b L xs) (466, lo, st, S) = q_fin (kL_law b L xs) ((q_iload 3) 466 lo st S) := q_ev_step rfl lo st S
set_option maxRecDepth 20000 in
theorem sL_law_467 {b L : Nat} {xs : Nat → Int32} (lo : q_Lo) (st : List Value) (S : q_S) : q_ev (kL_law b L xs) (467, lo, st, S) = q_fin (kL_law b L xs) ((q_push (.int 1)) 467 lo st S) := q_ev_step rfl lo st S
set_option maxRecDepth 20000 in
theorem sL_law_468 {b L : Nat} {xs : Nat → Int32} (lo : q_Lo) (st : List Value) (S : q_S) : q_ev (kL_law b L xs) (468, lo, st, S) = q_fin (kL_law b L xs) ((q_bin (fun x y => x + y)) 468 lo st S) := q_ev_step rfl lo st S
set_option maxRecDepth 20000 in
theorem sL_law_469 {b L : Nat} {xs : Nat → Int32} (lo : q_Lo) (st : List Value) (S : q_S) : q_ev (kL_law b L xs) (469, lo, st, S) = q_fin (kL_law b L xs) ((q_sld b L xs) 469 lo st S) := q_ev_step rfl lo st S
set_option maxRecDepth 20000 in
theorem sL_law_470 {b L : Nat} {xs : Nat → Int32} (lo : q_Lo) (st : List Value) (S : q_S) : q_ev (kL_law b L xs) (470, lo, st, S) = q_fin (kL_law b L xs) ((q_aloadX 0) 470 lo st S) := q_ev_step rfl lo st S
set_option maxRecDepth 20000 in
theorem sL_law_471 {b L : Nat} {xs : Nat → Int32} (lo : q_Lo) (st : List Value) (S : q_S) : q_ev (kL_law b L xs) (471, lo, st, S) = q_fin (kL_law b L xs) ((q_iload 3) 471 lo st S) := q_ev_step rfl lo st S
set_option maxRecDepth 20000 in
theorem sL_law_472 {b L : Nat} {xs : Nat → Int32} (lo : q_Lo) (st : List Value) (S : q_S) : q_ev (kL_law b L xs) (472, lo, st, S) = q_fin (kL_law b L xs) ((q_push (.int 2)) 472 lo st S) := q_ev_step rfl lo st S
set_option maxRecDepth 20000 in
theorem sL_law_473 {b L : Nat} {xs : Nat → Int32} (lo : q_Lo) (st : List Value) (S : q_S) : q_ev (kL_law b L xs) (473, lo, st, S) = q_fin (kL_law b L xs) ((q_bin (fun x y => x + y)) 473 lo st S) := q_ev_step rfl lo st S
set_option maxRecDepth 20000 in
theorem sL_law_474 {b L : Nat} {xs : Nat → Int32} (lo : q_Lo) (st : List Value) (S : q_S) : q_ev (kL_law b L xs) (474, lo, st, S) = q_fin (kL_law b L xs) ((q_sld b L xs) 474 lo st S) := q_ev_step rfl lo st S
set_option maxRecDepth 20000 in
theorem sL_law_475 {b L : Nat} {xs : Nat → Int32} (lo : q_Lo) (st : List Value) (S : q_S) : q_ev (kL_law b L xs) (475, lo, st, S) = q_fin (kL_law b L xs) ((q_invV [(10, q_call kX11_area 6)] 2) 475 lo st S) := q_ev_step rfl lo st S
set_option maxRecDepth 20000 in
theorem sL_law_476 {b L : Nat} {xs : Nat → Int32} (lo : q_Lo) (st : List Value) (S : q_S) : q_ev (kL_law b L xs) (476, lo, st, S) = q_fin (kL_law b L xs) ((q_lcmp) 476 lo st S) := q_ev_step rfl lo st S
set_option maxRecDepth 20000 in
theorem sL_law_477 {b L : Nat} {xs : Nat → Int32} (lo : q_Lo) (st : List Value) (S : q_S) : q_ev (kL_law b L xs) (477, lo, st, S) = q_fin (kL_law b L xs) ((q_ifeq 650) 477 lo st S) := q_ev_step rfl lo st S
set_option maxRecDepth 20000 in
theorem sL_law_478 {b L : Nat} {xs : Nat → Int32} (lo : q_Lo) (st : List Value) (S : q_S) : q_ev (kL_law b L xs) (478, lo, st, S) = q_fin (kL_law b L xs) ((q_push (.int 0)) 478 lo st S) := q_ev_step rfl lo st S
set_option maxRecDepth 20000 in
theorem sL_law_479 {b L : Nat} {xs : Nat → Int32} (lo : q_Lo) (st : List Value) (S : q_S) : q_ev (kL_law b L xs) (479, lo, st, S) = q_fin (kL_law b L xs) ((q_zret) 479 lo st S) := q_ev_step rfl lo st S
set_option maxRecDepth 20000 in
theorem sL_law_480 {b L : Nat} {xs : Nat → Int32} (lo : q_Lo) (st : List Value) (S : q_S) : q_ev (kL_law b L xs) (480, lo, st, S) = q_fin (kL_law b L xs) ((q_aload 1) 480 lo st S) := q_ev_step rfl lo st S
set_option maxRecDepth 20000 in
theorem sL_law_481 {b L : Nat} {xs : Nat → Int32} (lo : q_Lo) (st : List Value) (S : q_S) : q_ev (kL_law b L xs) (481, lo, st, S) = q_fin (kL_law b L xs) ((q_aloadX 0) 481 lo st S) := q_ev_step rfl lo st S
set_option maxRecDepth 20000 in
theorem sL_law_482 {b L : Nat} {xs : Nat → Int32} (lo : q_Lo) (st : List Value) (S : q_S) : q_ev (kL_law b L xs) (482, lo, st, S) = q_fin (kL_law b L xs) ((q_iload 3) 482 lo st S) := q_ev_step rfl lo st S
set_option maxRecDepth 20000 in
theorem sL_law_483 {b L : Nat} {xs : Nat → Int32} (lo : q_Lo) (st : List Value) (S : q_S) : q_ev (kL_law b L xs) (483, lo, st, S) = q_fin (kL_law b L xs) ((q_push (.int 1)) 483 lo st S) := q_ev_step rfl lo st S
set_option maxRecDepth 20000 in
theorem sL_law_484 {b L : Nat} {xs : Nat → Int32} (lo : q_Lo) (st : List Value) (S : q_S) : q_ev (kL_law b L xs) (484, lo, st, S) = q_fin (kL_law b L xs) ((q_bin (fun x y => x + y)) 484 lo st S) := q_ev_step rfl lo st S
set_option maxRecDepth 20000 in
theorem sL_law_485 {b L : Nat} {xs : Nat → Int32} (lo : q_Lo) (st : List Value) (S : q_S) : q_ev (kL_law b L xs) (485, lo, st, S) = q_fin (kL_law b L xs) ((q_sld b L xs) 485 lo st S) := q_ev_step rfl lo st S
set_option maxRecDepth 20000 in
theorem sL_law_486 {b L : Nat} {xs : Nat → Int32} (lo : q_Lo) (st : List Value) (S : q_S) : q_ev (kL_law b L xs) (486, lo, st, S) = q_fin (kL_law b L xs) ((q_invV [(9, q_call kX10_keep 2)] 1) 486 lo st S) := q_ev_step rfl lo st S
set_option maxRecDepth 20000 in
theorem sL_law_487 {b L : Nat} {xs : Nat → Int32} (lo : q_Lo) (st : List Value) (S : q_S) : q_ev (kL_law b L xs) (487, lo, st, S) = q_fin (kL_law b L xs) ((q_aload 2) 487 lo st S) := q_ev_step rfl lo st S
set_option maxRecDepth 20000 in
theorem sL_law_488 {b L : Nat} {xs : Nat → Int32} (lo : q_Lo) (st : List Value) (S : q_S) : q_ev (kL_law b L xs) (488, lo, st, S) = q_fin (kL_law b L xs) ((q_aloadX 0) 488 lo st S) := q_ev_step rfl lo st S
set_option maxRecDepth 20000 in
theorem sL_law_489 {b L : Nat} {xs : Nat → Int32} (lo : q_Lo) (st : List Value) (S : q_S) : q_ev (kL_law b L xs) (489, lo, st, S) = q_fin (kL_law b L xs) ((q_iload 3) 489 lo st S) := q_ev_step rfl lo st S
set_option maxRecDepth 20000 in
theorem sL_law_490 {b L : Nat} {xs : Nat → Int32} (lo : q_Lo) (st : List Value) (S : q_S) : q_ev (kL_law b L xs) (490, lo, st, S) = q_fin (kL_law b L xs) ((q_push (.int 1)) 490 lo st S) := q_ev_step rfl lo st S
set_option maxRecDepth 20000 in
theorem sL_law_491 {b L : Nat} {xs : Nat → Int32} (lo : q_Lo) (st : List Value) (S : q_S) : q_ev (kL_law b L xs) (491, lo, st, S) = q_fin (kL_law b L xs) ((q_bin (fun x y => x + y)) 491 lo st S) := q_ev_step rfl lo st S
set_option maxRecDepth 20000 in
theorem sL_law_492 {b L : Nat} {xs : Nat → Int32} (lo : q_Lo) (st : List Value) (S : q_S) : q_ev (kL_law b L xs) (492, lo, st, S) = q_fin (kL_law b L xs) ((q_sld b L xs) 492 lo st S) := q_ev_step rfl lo st S
set_option maxRecDepth 20000 in
theorem sL_law_493 {b L : Nat} {xs : Nat → Int32} (lo : q_Lo) (st : List Value) (S : q_S) : q_ev (kL_law b L xs) (493, lo, st, S) = q_fin (kL_law b L xs) ((q_invV [(10, q_call kX11_keep 3)] 1) 493 lo st S) := q_ev_step rfl lo st S
set_option maxRecDepth 20000 in
theorem sL_law_494 {b L : Nat} {xs : Nat → Int32} (lo : q_Lo) (st : List Value) (S : q_S) : q_ev (kL_law b L xs) (494, lo, st, S) = q_fin (kL_law b L xs) ((q_cmpeq 650) 494 lo st S) := q_ev_step rfl lo st S
set_option maxRecDepth 20000 in
theorem sL_law_495 {b L : Nat} {xs : Nat → Int32} (lo : q_Lo) (st : List Value) (S : q_S) : q_ev (kL_law b L xs) (495, lo, st, S) = q_fin (kL_law b L xs) ((q_push (.int 0)) 495 lo st S) := q_ev_step rfl lo st S
set_option maxRecDepth 20000 in
theorem sL_law_496 {b L : Nat} {xs : Nat → Int32} (lo : q_Lo) (st : List Value) (S : q_S) : q_ev (kL_law b L xs) (496, lo, st, S) = q_fin (kL_law b L xs) ((q_zret) 496 lo st S) := q_ev_step rfl lo st S
set_option maxRecDepth 20000 in
theorem sL_law_497 {b L : Nat} {xs : Nat → Int32} (lo : q_Lo) (st : List Value) (S : q_S) : q_ev (kL_law b L xs) (497, lo, st, S) = q_fin (kL_law b L xs) ((q_aload 1) 497 lo st S) := q_ev_step rfl lo st S
set_option maxRecDepth 20000 in
theorem sL_law_498 {b L : Nat} {xs : Nat → Int32} (lo : q_Lo) (st : List Value) (S : q_S) : q_ev (kL_law b L xs) (498, lo, st, S) = q_fin (kL_law b L xs) ((q_aloadX 0) 498 lo st S) := q_ev_step rfl lo st S
set_option maxRecDepth 20000 in
theorem sL_law_499 {b L : Nat} {xs : Nat → Int32} (lo : q_Lo) (st : List Value) (S : q_S) : q_ev (kL_law b L xs) (499, lo, st, S) = q_fin (kL_law b L xs) ((q_iload 3) 499 lo st S) := q_ev_step rfl lo st S
set_option maxRecDepth 20000 in
theorem sL_law_500 {b L : Nat} {xs : Nat → Int32} (lo : q_Lo) (st : List Value) (S : q_S) : q_ev (kL_law b L xs) (500, lo, st, S) = q_fin (kL_law b L xs) ((q_push (.int 1)) 500 lo st S) := q_ev_step rfl lo st S
set_option maxRecDepth 20000 in
theorem sL_law_501 {b L : Nat} {xs : Nat → Int32} (lo : q_Lo) (st : List Value) (S : q_S) : q_ev (kL_law b L xs) (501, lo, st, S) = q_fin (kL_law b L xs) ((q_bin (fun x y => x + y)) 501 lo st S) := q_ev_step rfl lo st S
set_option maxRecDepth 20000 in
theorem sL_law_502 {b L : Nat} {xs : Nat → Int32} (lo : q_Lo) (st : List Value) (S : q_S) : q_ev (kL_law b L xs) (502, lo, st, S) = q_fin (kL_law b L xs) ((q_sld b L xs) 502 lo st S) := q_ev_step rfl lo st S
set_option maxRecDepth 20000 in
theorem sL_law_503 {b L : Nat} {xs : Nat → Int32} (lo : q_Lo) (st : List Value) (S : q_S) : q_ev (kL_law b L xs) (503, lo, st, S) = q_fin (kL_law b L xs) ((q_aloadX 0) 503 lo st S) := q_ev_step rfl lo st S
set_option maxRecDepth 20000 in
theorem sL_law_504 {b L : Nat} {xs : Nat → Int32} (lo : q_Lo) (st : List Value) (S : q_S) : q_ev (kL_law b L xs) (504, lo, st, S) = q_fin (kL_law b L xs) ((q_iload 3) 504 lo st S) := q_ev_step rfl lo st S
set_option maxRecDepth 20000 in
theorem sL_law_505 {b L : Nat} {xs : Nat → Int32} (lo : q_Lo) (st : List Value) (S : q_S) : q_ev (kL_law b L xs) (505, lo, st, S) = q_fin (kL_law b L xs) ((q_push (.int 2)) 505 lo st S) := q_ev_step rfl lo st S
set_option maxRecDepth 20000 in
theorem sL_law_506 {b L : Nat} {xs : Nat → Int32} (lo : q_Lo) (st : List Value) (S : q_S) : q_ev (kL_law b L xs) (506, lo, st, S) = q_fin (kL_law b L xs) ((q_bin (fun x y => x + y)) 506 lo st S) := q_ev_step rfl lo st S
set_option maxRecDepth 20000 in
theorem sL_law_507 {b L : Nat} {xs : Nat → Int32} (lo : q_Lo) (st : List Value) (S : q_S) : q_ev (kL_law b L xs) (507, lo, st, S) = q_fin (kL_law b L xs) ((q_sld b L xs) 507 lo st S) := q_ev_step rfl lo st S
set_option maxRecDepth 20000 in
theorem sL_law_508 {b L : Nat} {xs : Nat → Int32} (lo : q_Lo) (st : List Value) (S : q_S) : q_ev (kL_law b L xs) (508, lo, st, S) = q_fin (kL_law b L xs) ((q_invV [(9, q_call kX10_curve 4)] 2) 508 lo st S) := q_ev_step rfl lo st S
set_option maxRecDepth 20000 in
theorem sL_law_509 {b L : Nat} {xs : Nat → Int32} (lo : q_Lo) (st : List Value) (S : q_S) : q_ev (kL_law b L xs) (509, lo, st, S) = q_fin (kL_law b L xs) ((q_aload 2) 509 lo st S) := q_ev_step rfl lo st S
set_option maxRecDepth 20000 in
theorem sL_law_510 {b L : Nat} {xs : Nat → Int32} (lo : q_Lo) (st : List Value) (S : q_S) : q_ev (kL_law b L xs) (510, lo, st, S) = q_fin (kL_law b L xs) ((q_aloadX 0) 510 lo st S) := q_ev_step rfl lo st S
set_option maxRecDepth 20000 in
theorem sL_law_511 {b L : Nat} {xs : Nat → Int32} (lo : q_Lo) (st : List Value) (S : q_S) : q_ev (kL_law b L xs) (511, lo, st, S) = q_fin (kL_law b L xs) ((q_iload 3) 511 lo st S) := q_ev_step rfl lo st S
set_option maxRecDepth 20000 in
theorem sL_law_512 {b L : Nat} {xs : Nat → Int32} (lo : q_Lo) (st : List Value) (S : q_S) : q_ev (kL_law b L xs) (512, lo, st, S) = q_fin (kL_law b L xs) ((q_push (.int 1)) 512 lo st S) := q_ev_step rfl lo st S
set_option maxRecDepth 20000 in
theorem sL_law_513 {b L : Nat} {xs : Nat → Int32} (lo : q_Lo) (st : List Value) (S : q_S) : q_ev (kL_law b L xs) (513, lo, st, S) = q_fin (kL_law b L xs) ((q_bin (fun x y => x + y)) 513 lo st S) := q_ev_step rfl lo st S
set_option maxRecDepth 20000 in
theorem sL_law_514 {b L : Nat} {xs : Nat → Int32} (lo : q_Lo) (st : List Value) (S : q_S) : q_ev (kL_law b L xs) (514, lo, st, S) = q_fin (kL_law b L xs) ((q_sld b L xs) 514 lo st S) := q_ev_step rfl lo st S
set_option maxRecDepth 20000 in
theorem sL_law_515 {b L : Nat} {xs : Nat → Int32} (lo : q_Lo) (st : List Value) (S : q_S) : q_ev (kL_law b L xs) (515, lo, st, S) = q_fin (kL_law b L xs) ((q_aloadX 0) 515 lo st S) := q_ev_step rfl lo st S
set_option maxRecDepth 20000 in
theorem sL_law_516 {b L : Nat} {xs : Nat → Int32} (lo : q_Lo) (st : List Value) (S : q_S) : q_ev (kL_law b L xs) (516, lo, st, S) = q_fin (kL_law b L xs) ((q_iload 3) 516 lo st S) := q_ev_step rfl lo st S
set_option maxRecDepth 20000 in
theorem sL_law_517 {b L : Nat} {xs : Nat → Int32} (lo : q_Lo) (st : List Value) (S : q_S) : q_ev (kL_law b L xs) (517, lo, st, S) = q_fin (kL_law b L xs) ((q_push (.int 2)) 517 lo st S) := q_ev_step rfl lo st S
set_option maxRecDepth 20000 in
theorem sL_law_518 {b L : Nat} {xs : Nat → Int32} (lo : q_Lo) (st : List Value) (S : q_S) : q_ev (kL_law b L xs) (518, lo, st, S) = q_fin (kL_law b L xs) ((q_bin (fun x y => x + y)) 518 lo st S) := q_ev_step rfl lo st S
set_option maxRecDepth 20000 in
theorem sL_law_519 {b L : Nat} {xs : Nat → Int32} (lo : q_Lo) (st : List Value) (S : q_S) : q_ev (kL_law b L xs) (519, lo, st, S) = q_fin (kL_law b L xs) ((q_sld b L xs) 519 lo st S) := q_ev_step rfl lo st S
set_option maxRecDepth 20000 in
theorem sL_law_520 {b L : Nat} {xs : Nat → Int32} (lo : q_Lo) (st : List Value) (S : q_S) : q_ev (kL_law b L xs) (520, lo, st, S) = q_fin (kL_law b L xs) ((q_invV [(10, q_call kX11_curve 3)] 2) 520 lo st S) := q_ev_step rfl lo st S
set_option maxRecDepth 20000 in
theorem sL_law_521 {b L : Nat} {xs : Nat → Int32} (lo : q_Lo) (st : List Value) (S : q_S) : q_ev (kL_law b L xs) (521, lo, st, S) = q_fin (kL_law b L xs) ((q_cmpeq 650) 521 lo st S) := q_ev_step rfl lo st S
set_option maxRecDepth 20000 in
theorem sL_law_522 {b L : Nat} {xs : Nat → Int32} (lo : q_Lo) (st : List Value) (S : q_S) : q_ev (kL_law b L xs) (522, lo, st, S) = q_fin (kL_law b L xs) ((q_push (.int 0)) 522 lo st S) := q_ev_step rfl lo st S
set_option maxRecDepth 20000 in
theorem sL_law_523 {b L : Nat} {xs : Nat → Int32} (lo : q_Lo) (st : List Value) (S : q_S) : q_ev (kL_law b L xs) (523, lo, st, S) = q_fin (kL_law b L xs) ((q_zret) 523 lo st S) := q_ev_step rfl lo st S
set_option maxRecDepth 20000 in
theorem sL_law_524 {b L : Nat} {xs : Nat → Int32} (lo : q_Lo) (st : List Value) (S : q_S) : q_ev (kL_law b L xs) (524, lo, st, S) = q_fin (kL_law b L xs) ((q_aload 1) 524 lo st S) := q_ev_step rfl lo st S
set_option maxRecDepth 20000 in
theorem sL_law_525 {b L : Nat} {xs : Nat → Int32} (lo : q_Lo) (st : List Value) (S : q_S) : q_ev (kL_law b L xs) (525, lo, st, S) = q_fin (kL_law b L xs) ((q_aloadX 0) 525 lo st S) := q_ev_step rfl lo st S
set_option maxRecDepth 20000 in
theorem sL_law_526 {b L : Nat} {xs : Nat → Int32} (lo : q_Lo) (st : List Value) (S : q_S) : q_ev (kL_law b L xs) (526, lo, st, S) = q_fin (kL_law b L xs) ((q_iload 3) 526 lo st S) := q_ev_step rfl lo st S
set_option maxRecDepth 20000 in
theorem sL_law_527 {b L : Nat} {xs : Nat → Int32} (lo : q_Lo) (st : List Value) (S : q_S) : q_ev (kL_law b L xs) (527, lo, st, S) = q_fin (kL_law b L xs) ((q_push (.int 1)) 527 lo st S) := q_ev_step rfl lo st S
set_option maxRecDepth 20000 in
theorem sL_law_528 {b L : Nat} {xs : Nat → Int32} (lo : q_Lo) (st : List Value) (S : q_S) : q_ev (kL_law b L xs) (528, lo, st, S) = q_fin (kL_law b L xs) ((q_bin (fun x y => x + y)) 528 lo st S) := q_ev_step rfl lo st S
set_option maxRecDepth 20000 in
theorem sL_law_529 {b L : Nat} {xs : Nat → Int32} (lo : q_Lo) (st : List Value) (S : q_S) : q_ev (kL_law b L xs) (529, lo, st, S) = q_fin (kL_law b L xs) ((q_sld b L xs) 529 lo st S) := q_ev_step rfl lo st S
set_option maxRecDepth 20000 in
theorem sL_law_530 {b L : Nat} {xs : Nat → Int32} (lo : q_Lo) (st : List Value) (S : q_S) : q_ev (kL_law b L xs) (530, lo, st, S) = q_fin (kL_law b L xs) ((q_aloadX 0) 530 lo st S) := q_ev_step rfl lo st S
set_option maxRecDepth 20000 in
theorem sL_law_531 {b L : Nat} {xs : Nat → Int32} (lo : q_Lo) (st : List Value) (S : q_S) : q_ev (kL_law b L xs) (531, lo, st, S) = q_fin (kL_law b L xs) ((q_iload 3) 531 lo st S) := q_ev_step rfl lo st S
set_option maxRecDepth 20000 in
theorem sL_law_532 {b L : Nat} {xs : Nat → Int32} (lo : q_Lo) (st : List Value) (S : q_S) : q_ev (kL_law b L xs) (532, lo, st, S) = q_fin (kL_law b L xs) ((q_push (.int 2)) 532 lo st S) := q_ev_step rfl lo st S
set_option maxRecDepth 20000 in
theorem sL_law_533 {b L : Nat} {xs : Nat → Int32} (lo : q_Lo) (st : List Value) (S : q_S) : q_ev (kL_law b L xs) (533, lo, st, S) = q_fin (kL_law b L xs) ((q_bin (fun x y => x + y)) 533 lo st S) := q_ev_step rfl lo st S
set_option maxRecDepth 20000 in
theorem sL_law_534 {b L : Nat} {xs : Nat → Int32} (lo : q_Lo) (st : List Value) (S : q_S) : q_ev (kL_law b L xs) (534, lo, st, S) = q_fin (kL_law b L xs) ((q_sld b L xs) 534 lo st S) := q_ev_step rfl lo st S
set_option maxRecDepth 20000 in
theorem sL_law_535 {b L : Nat} {xs : Nat → Int32} (lo : q_Lo) (st : List Value) (S : q_S) : q_ev (kL_law b L xs) (535, lo, st, S) = q_fin (kL_law b L xs) ((q_aloadX 0) 535 lo st S) := q_ev_step rfl lo st S
set_option maxRecDepth 20000 in
theorem sL_law_536 {b L : Nat} {xs : Nat → Int32} (lo : q_Lo) (st : List Value) (S : q_S) : q_ev (kL_law b L xs) (536, lo, st, S) = q_fin (kL_law b L xs) ((q_iload 3) 536 lo st S) := q_ev_step rfl lo st S
set_option maxRecDepth 20000 in
theorem sL_law_537 {b L : Nat} {xs : Nat → Int32} (lo : q_Lo) (st : List Value) (S : q_S) : q_ev (kL_law b L xs) (537, lo, st, S) = q_fin (kL_law b L xs) ((q_push (.int 3)) 537 lo st S) := q_ev_step rfl lo st S
set_option maxRecDepth 20000 in
theorem sL_law_538 {b L : Nat} {xs : Nat → Int32} (lo : q_Lo) (st : List Value) (S : q_S) : q_ev (kL_law b L xs) (538, lo, st, S) = q_fin (kL_law b L xs) ((q_bin (fun x y => x + y)) 538 lo st S) := q_ev_step rfl lo st S
set_option maxRecDepth 20000 in
theorem sL_law_539 {b L : Nat} {xs : Nat → Int32} (lo : q_Lo) (st : List Value) (S : q_S) : q_ev (kL_law b L xs) (539, lo, st, S) = q_fin (kL_law b L xs) ((q_sld b L xs) 539 lo st S) := q_ev_step rfl lo st S
set_option maxRecDepth 20000 in
theorem sL_law_540 {b L : Nat} {xs : Nat → Int32} (lo : q_Lo) (st : List Value) (S : q_S) : q_ev (kL_law b L xs) (540, lo, st, S) = q_fin (kL_law b L xs) ((q_aloadX 0) 540 lo st S) := q_ev_step rfl lo st S
set_option maxRecDepth 20000 in
theorem sL_law_541 {b L : Nat} {xs : Nat → Int32} (lo : q_Lo) (st : List Value) (S : q_S) : q_ev (kL_law b L xs) (541, lo, st, S) = q_fin (kL_law b L xs) ((q_iload 3) 541 lo st S) := q_ev_step rfl lo st S
set_option maxRecDepth 20000 in
theorem sL_law_542 {b L : Nat} {xs : Nat → Int32} (lo : q_Lo) (st : List Value) (S : q_S) : q_ev (kL_law b L xs) (542, lo, st, S) = q_fin (kL_law b L xs) ((q_push (.int 4)) 542 lo st S) := q_ev_step rfl lo st S
set_option maxRecDepth 20000 in
theorem sL_law_543 {b L : Nat} {xs : Nat → Int32} (lo : q_Lo) (st : List Value) (S : q_S) : q_ev (kL_law b L xs) (543, lo, st, S) = q_fin (kL_law b L xs) ((q_bin (fun x y => x + y)) 543 lo st S) := q_ev_step rfl lo st S
set_option maxRecDepth 20000 in
theorem sL_law_544 {b L : Nat} {xs : Nat → Int32} (lo : q_Lo) (st : List Value) (S : q_S) : q_ev (kL_law b L xs) (544, lo, st, S) = q_fin (kL_law b L xs) ((q_sld b L xs) 544 lo st S) := q_ev_step rfl lo st S
set_option maxRecDepth 20000 in
theorem sL_law_545 {b L : Nat} {xs : Nat → Int32} (lo : q_Lo) (st : List Value) (S : q_S) : q_ev (kL_law b L xs) (545, lo, st, S) = q_fin (kL_law b L xs) ((q_invV [(9, q_call kX10_spread 5)] 4) 545 lo st S) := q_ev_step rfl lo st S
set_option maxRecDepth 20000 in
theorem sL_law_546 {b L : Nat} {xs : Nat → Int32} (lo : q_Lo) (st : List Value) (S : q_S) : q_ev (kL_law b L xs) (546, lo, st, S) = q_fin (kL_law b L xs) ((q_aload 2) 546 lo st S) := q_ev_step rfl lo st S
set_option maxRecDepth 20000 in
theorem sL_law_547 {b L : Nat} {xs : Nat → Int32} (lo : q_Lo) (st : List Value) (S : q_S) : q_ev (kL_law b L xs) (547, lo, st, S) = q_fin (kL_law b L xs) ((q_aloadX 0) 547 lo st S) := q_ev_step rfl lo st S
set_option maxRecDepth 20000 in
theorem sL_law_548 {b L : Nat} {xs : Nat → Int32} (lo : q_Lo) (st : List Value) (S : q_S) : q_ev (kL_law b L xs) (548, lo, st, S) = q_fin (kL_law b L xs) ((q_iload 3) 548 lo st S) := q_ev_step rfl lo st S
set_option maxRecDepth 20000 in
theorem sL_law_549 {b L : Nat} {xs : Nat → Int32} (lo : q_Lo) (st : List Value) (S : q_S) : q_ev (kL_law b L xs) (549, lo, st, S) = q_fin (kL_law b L xs) ((q_push (.int 1)) 549 lo st S) := q_ev_step rfl lo st S
set_option maxRecDepth 20000 in
theorem sL_law_550 {b L : Nat} {xs : Nat → Int32} (lo : q_Lo) (st : List Value) (S : q_S) : q_ev (kL_law b L xs) (550, lo, st, S) = q_fin (kL_law b L xs) ((q_bin (fun x y => x + y)) 550 lo st S) := q_ev_step rfl lo st S
set_option maxRecDepth 20000 in
theorem sL_law_551 {b L : Nat} {xs : Nat → Int32} (lo : q_Lo) (st : List Value) (S : q_S) : q_ev (kL_law b L xs) (551, lo, st, S) = q_fin (kL_law b L xs) ((q_sld b L xs) 551 lo st S) := q_ev_step rfl lo st S
set_option maxRecDepth 20000 in
theorem sL_law_552 {b L : Nat} {xs : Nat → Int32} (lo : q_Lo) (st : List Value) (S : q_S) : q_ev (kL_law b L xs) (552, lo, st, S) = q_fin (kL_law b L xs) ((q_aloadX 0) 552 lo st S) := q_ev_step rfl lo st S
set_option maxRecDepth 20000 in
theorem sL_law_553 {b L : Nat} {xs : Nat → Int32} (lo : q_Lo) (st : List Value) (S : q_S) : q_ev (kL_law b L xs) (553, lo, st, S) = q_fin (kL_law b L xs) ((q_iload 3) 553 lo st S) := q_ev_step rfl lo st S
set_option maxRecDepth 20000 in
theorem sL_law_554 {b L : Nat} {xs : Nat → Int32} (lo : q_Lo) (st : List Value) (S : q_S) : q_ev (kL_law b L xs) (554, lo, st, S) = q_fin (kL_law b L xs) ((q_push (.int 2)) 554 lo st S) := q_ev_step rfl lo st S
set_option maxRecDepth 20000 in
theorem sL_law_555 {b L : Nat} {xs : Nat → Int32} (lo : q_Lo) (st : List Value) (S : q_S) : q_ev (kL_law b L xs) (555, lo, st, S) = q_fin (kL_law b L xs) ((q_bin (fun x y => x + y)) 555 lo st S) := q_ev_step rfl lo st S
set_option maxRecDepth 20000 in
theorem sL_law_556 {b L : Nat} {xs : Nat → Int32} (lo : q_Lo) (st : List Value) (S : q_S) : q_ev (kL_law b L xs) (556, lo, st, S) = q_fin (kL_law b L xs) ((q_sld b L xs) 556 lo st S) := q_ev_step rfl lo st S
set_option maxRecDepth 20000 in
theorem sL_law_557 {b L : Nat} {xs : Nat → Int32} (lo : q_Lo) (st : List Value) (S : q_S) : q_ev (kL_law b L xs) (557, lo, st, S) = q_fin (kL_law b L xs) ((q_aloadX 0) 557 lo st S) := q_ev_step rfl lo st S
set_option maxRecDepth 20000 in
theorem sL_law_558 {b L : Nat} {xs : Nat → Int32} (lo : q_Lo) (st : List Value) (S : q_S) : q_ev (kL_law b L xs) (558, lo, st, S) = q_fin (kL_law b L xs) ((q_iload 3) 558 lo st S) := q_ev_step rfl lo st S
set_option maxRecDepth 20000 in
theorem sL_law_559 {b L : Nat} {xs : Nat → Int32} (lo : q_Lo) (st : List Value) (S : q_S) : q_ev (kL_law b L xs) (559, lo, st, S) = q_fin (kL_law b L xs) ((q_push (.int 3)) 559 lo st S) := q_ev_step rfl lo st S
set_option maxRecDepth 20000 in
theorem sL_law_560 {b L : Nat} {xs : Nat → Int32} (lo : q_Lo) (st : List Value) (S : q_S) : q_ev (kL_law b L xs) (560, lo, st, S) = q_fin (kL_law b L xs) ((q_bin (fun x y => x + y)) 560 lo st S) := q_ev_step rfl lo st S
set_option maxRecDepth 20000 in
theorem sL_law_561 {b L : Nat} {xs : Nat → Int32} (lo : q_Lo) (st : List Value) (S : q_S) : q_ev (kL_law b L xs) (561, lo, st, S) = q_fin (kL_law b L xs) ((q_sld b L xs) 561 lo st S) := q_ev_step rfl lo st S
set_option maxRecDepth 20000 in
theorem sL_law_562 {b L : Nat} {xs : Nat → Int32} (lo : q_Lo) (st : List Value) (S : q_S) : q_ev (kL_law b L xs) (562, lo, st, S) = q_fin (kL_law b L xs) ((q_aloadX 0) 562 lo st S) := q_ev_step rfl lo st S
set_option maxRecDepth 20000 in
theorem sL_law_563 {b L : Nat} {xs : Nat → Int32} (lo : q_Lo) (st : List Value) (S : q_S) : q_ev (kL_law b L xs) (563, lo, st, S) = q_fin (kL_law b L xs) ((q_iload 3) 563 lo st S) := q_ev_step rfl lo st S
set_option maxRecDepth 20000 in
theorem sL_law_564 {b L : Nat} {xs : Nat → Int32} (lo : q_Lo) (st : List Value) (S : q_S) : q_ev (kL_law b L xs) (564, lo, st, S) = q_fin (kL_law b L xs) ((q_push (.int 4)) 564 lo st S) := q_ev_step rfl lo st S
set_option maxRecDepth 20000 in
theorem sL_law_565 {b L : Nat} {xs : Nat → Int32} (lo : q_Lo) (st : List Value) (S : q_S) : q_ev (kL_law b L xs) (565, lo, st, S) = q_fin (kL_law b L xs) ((q_bin (fun x y => x + y)) 565 lo st S) := q_ev_step rfl lo st S
set_option maxRecDepth 20000 in
theorem sL_law_566 {b L : Nat} {xs : Nat → Int32} (lo : q_Lo) (st : List Value) (S : q_S) : q_ev (kL_law b L xs) (566, lo, st, S) = q_fin (kL_law b L xs) ((q_sld b L xs) 566 lo st S) := q_ev_step rfl lo st S
set_option maxRecDepth 20000 in
theorem sL_law_567 {b L : Nat} {xs : Nat → Int32} (lo : q_Lo) (st : List Value) (S : q_S) : q_ev (kL_law b L xs) (567, lo, st, S) = q_fin (kL_law b L xs) ((q_invV [(10, q_call kX11_spread 6)] 4) 567 lo st S) := q_ev_step rfl lo st S
set_option maxRecDepth 20000 in
theorem sL_law_568 {b L : Nat} {xs : Nat → Int32} (lo : q_Lo) (st : List Value) (S : q_S) : q_ev (kL_law b L xs) (568, lo, st, S) = q_fin (kL_law b L xs) ((q_cmpeq 650) 568 lo st S) := q_ev_step rfl lo st S
set_option maxRecDepth 20000 in
theorem sL_law_569 {b L : Nat} {xs : Nat → Int32} (lo : q_Lo) (st : List Value) (S : q_S) : q_ev (kL_law b L xs) (569, lo, st, S) = q_fin (kL_law b L xs) ((q_push (.int 0)) 569 lo st S) := q_ev_step rfl lo st S
set_option maxRecDepth 20000 in
theorem sL_law_570 {b L : Nat} {xs : Nat → Int32} (lo : q_Lo) (st : List Value) (S : q_S) : q_ev (kL_law b L xs) (570, lo, st, S) = q_fin (kL_law b L xs) ((q_zret) 570 lo st S) := q_ev_step rfl lo st S
set_option maxRecDepth 20000 in
theorem sL_law_571 {b L : Nat} {xs : Nat → Int32} (lo : q_Lo) (st : List Value) (S : q_S) : q_ev (kL_law b L xs) (571, lo, st, S) = q_fin (kL_law b L xs) ((q_aload 1) 571 lo st S) := q_ev_step rfl lo st S
set_option maxRecDepth 20000 in
theorem sL_law_572 {b L : Nat} {xs : Nat → Int32} (lo : q_Lo) (st : List Value) (S : q_S) : q_ev (kL_law b L xs) (572, lo, st, S) = q_fin (kL_law b L xs) ((q_aloadX 0) 572 lo st S) := q_ev_step rfl lo st S
set_option maxRecDepth 20000 in
theorem sL_law_573 {b L : Nat} {xs : Nat → Int32} (lo : q_Lo) (st : List Value) (S : q_S) : q_ev (kL_law b L xs) (573, lo, st, S) = q_fin (kL_law b L xs) ((q_iload 3) 573 lo st S) := q_ev_step rfl lo st S
set_option maxRecDepth 20000 in
theorem sL_law_574 {b L : Nat} {xs : Nat → Int32} (lo : q_Lo) (st : List Value) (S : q_S) : q_ev (kL_law b L xs) (574, lo, st, S) = q_fin (kL_law b L xs) ((q_push (.int 1)) 574 lo st S) := q_ev_step rfl lo st S
set_option maxRecDepth 20000 in
theorem sL_law_575 {b L : Nat} {xs : Nat → Int32} (lo : q_Lo) (st : List Value) (S : q_S) : q_ev (kL_law b L xs) (575, lo, st, S) = q_fin (kL_law b L xs) ((q_bin (fun x y => x + y)) 575 lo st S) := q_ev_step rfl lo st S
set_option maxRecDepth 20000 in
theorem sL_law_576 {b L : Nat} {xs : Nat → Int32} (lo : q_Lo) (st : List Value) (S : q_S) : q_ev (kL_law b L xs) (576, lo, st, S) = q_fin (kL_law b L xs) ((q_sld b L xs) 576 lo st S) := q_ev_step rfl lo st S
set_option maxRecDepth 20000 in
theorem sL_law_577 {b L : Nat} {xs : Nat → Int32} (lo : q_Lo) (st : List Value) (S : q_S) : q_ev (kL_law b L xs) (577, lo, st, S) = q_fin (kL_law b L xs) ((q_aloadX 0) 577 lo st S) := q_ev_step rfl lo st S
set_option maxRecDepth 20000 in
theorem sL_law_578 {b L : Nat} {xs : Nat → Int32} (lo : q_Lo) (st : List Value) (S : q_S) : q_ev (kL_law b L xs) (578, lo, st, S) = q_fin (kL_law b L xs) ((q_iload 3) 578 lo st S) := q_ev_step rfl lo st S
set_option maxRecDepth 20000 in
theorem sL_law_579 {b L : Nat} {xs : Nat → Int32} (lo : q_Lo) (st : List Value) (S : q_S) : q_ev (kL_law b L xs) (579, lo, st, S) = q_fin (kL_law b L xs) ((q_push (.int 2)) 579 lo st S) := q_ev_step rfl lo st S
set_option maxRecDepth 20000 in
theorem sL_law_580 {b L : Nat} {xs : Nat → Int32} (lo : q_Lo) (st : List Value) (S : q_S) : q_ev (kL_law b L xs) (580, lo, st, S) = q_fin (kL_law b L xs) ((q_bin (fun x y => x + y)) 580 lo st S) := q_ev_step rfl lo st S
set_option maxRecDepth 20000 in
theorem sL_law_581 {b L : Nat} {xs : Nat → Int32} (lo : q_Lo) (st : List Value) (S : q_S) : q_ev (kL_law b L xs) (581, lo, st, S) = q_fin (kL_law b L xs) ((q_sld b L xs) 581 lo st S) := q_ev_step rfl lo st S
set_option maxRecDepth 20000 in
theorem sL_law_582 {b L : Nat} {xs : Nat → Int32} (lo : q_Lo) (st : List Value) (S : q_S) : q_ev (kL_law b L xs) (582, lo, st, S) = q_fin (kL_law b L xs) ((q_aloadX 0) 582 lo st S) := q_ev_step rfl lo st S
set_option maxRecDepth 20000 in
theorem sL_law_583 {b L : Nat} {xs : Nat → Int32} (lo : q_Lo) (st : List Value) (S : q_S) : q_ev (kL_law b L xs) (583, lo, st, S) = q_fin (kL_law b L xs) ((q_iload 3) 583 lo st S) := q_ev_step rfl lo st S
set_option maxRecDepth 20000 in
theorem sL_law_584 {b L : Nat} {xs : Nat → Int32} (lo : q_Lo) (st : List Value) (S : q_S) : q_ev (kL_law b L xs) (584, lo, st, S) = q_fin (kL_law b L xs) ((q_push (.int 3)) 584 lo st S) := q_ev_step rfl lo st S
set_option maxRecDepth 20000 in
theorem sL_law_585 {b L : Nat} {xs : Nat → Int32} (lo : q_Lo) (st : List Value) (S : q_S) : q_ev (kL_law b L xs) (585, lo, st, S) = q_fin (kL_law b L xs) ((q_bin (fun x y => x + y)) 585 lo st S) := q_ev_step rfl lo st S
set_option maxRecDepth 20000 in
theorem sL_law_586 {b L : Nat} {xs : Nat → Int32} (lo : q_Lo) (st : List Value) (S : q_S) : q_ev (kL_law b L xs) (586, lo, st, S) = q_fin (kL_law b L xs) ((q_sld b L xs) 586 lo st S) := q_ev_step rfl lo st S
set_option maxRecDepth 20000 in
theorem sL_law_587 {b L : Nat} {xs : Nat → Int32} (lo : q_Lo) (st : List Value) (S : q_S) : q_ev (kL_law b L xs) (587, lo, st, S) = q_fin (kL_law b L xs) ((q_invV [(9, q_call kX10_shift 4)] 3) 587 lo st S) := q_ev_step rfl lo st S
set_option maxRecDepth 20000 in
theorem sL_law_588 {b L : Nat} {xs : Nat → Int32} (lo : q_Lo) (st : List Value) (S : q_S) : q_ev (kL_law b L xs) (588, lo, st, S) = q_fin (kL_law b L xs) ((q_aload 2) 588 lo st S) := q_ev_step rfl lo st S
set_option maxRecDepth 20000 in
theorem sL_law_589 {b L : Nat} {xs : Nat → Int32} (lo : q_Lo) (st : List Value) (S : q_S) : q_ev (kL_law b L xs) (589, lo, st, S) = q_fin (kL_law b L xs) ((q_aloadX 0) 589 lo st S) := q_ev_step rfl lo st S
set_option maxRecDepth 20000 in
theorem sL_law_590 {b L : Nat} {xs : Nat → Int32} (lo : q_Lo) (st : List Value) (S : q_S) : q_ev (kL_law b L xs) (590, lo, st, S) = q_fin (kL_law b L xs) ((q_iload 3) 590 lo st S) := q_ev_step rfl lo st S
set_option maxRecDepth 20000 in
theorem sL_law_591 {b L : Nat} {xs : Nat → Int32} (lo : q_Lo) (st : List Value) (S : q_S) : q_ev (kL_law b L xs) (591, lo, st, S) = q_fin (kL_law b L xs) ((q_push (.int 1)) 591 lo st S) := q_ev_step rfl lo st S
set_option maxRecDepth 20000 in
theorem sL_law_592 {b L : Nat} {xs : Nat → Int32} (lo : q_Lo) (st : List Value) (S : q_S) : q_ev (kL_law b L xs) (592, lo, st, S) = q_fin (kL_law b L xs) ((q_bin (fun x y => x + y)) 592 lo st S) := q_ev_step rfl lo st S
set_option maxRecDepth 20000 in
theorem sL_law_593 {b L : Nat} {xs : Nat → Int32} (lo : q_Lo) (st : List Value) (S : q_S) : q_ev (kL_law b L xs) (593, lo, st, S) = q_fin (kL_law b L xs) ((q_sld b L xs) 593 lo st S) := q_ev_step rfl lo st S
set_option maxRecDepth 20000 in
theorem sL_law_594 {b L : Nat} {xs : Nat → Int32} (lo : q_Lo) (st : List Value) (S : q_S) : q_ev (kL_law b L xs) (594, lo, st, S) = q_fin (kL_law b L xs) ((q_aloadX 0) 594 lo st S) := q_ev_step rfl lo st S
set_option maxRecDepth 20000 in
theorem sL_law_595 {b L : Nat} {xs : Nat → Int32} (lo : q_Lo) (st : List Value) (S : q_S) : q_ev (kL_law b L xs) (595, lo, st, S) = q_fin (kL_law b L xs) ((q_iload 3) 595 lo st S) := q_ev_step rfl lo st S
set_option maxRecDepth 20000 in
theorem sL_law_596 {b L : Nat} {xs : Nat → Int32} (lo : q_Lo) (st : List Value) (S : q_S) : q_ev (kL_law b L xs) (596, lo, st, S) = q_fin (kL_law b L xs) ((q_push (.int 2)) 596 lo st S) := q_ev_step rfl lo st S
set_option maxRecDepth 20000 in
theorem sL_law_597 {b L : Nat} {xs : Nat → Int32} (lo : q_Lo) (st : List Value) (S : q_S) : q_ev (kL_law b L xs) (597, lo, st, S) = q_fin (kL_law b L xs) ((q_bin (fun x y => x + y)) 597 lo st S) := q_ev_step rfl lo st S
set_option maxRecDepth 20000 in
theorem sL_law_598 {b L : Nat} {xs : Nat → Int32} (lo : q_Lo) (st : List Value) (S : q_S) : q_ev (kL_law b L xs) (598, lo, st, S) = q_fin (kL_law b L xs) ((q_sld b L xs) 598 lo st S) := q_ev_step rfl lo st S
set_option maxRecDepth 20000 in
theorem sL_law_599 {b L : Nat} {xs : Nat → Int32} (lo : q_Lo) (st : List Value) (S : q_S) : q_ev (kL_law b L xs) (599, lo, st, S) = q_fin (kL_law b L xs) ((q_aloadX 0) 599 lo st S) := q_ev_step rfl lo st S
set_option maxRecDepth 20000 in
theorem sL_law_600 {b L : Nat} {xs : Nat → Int32} (lo : q_Lo) (st : List Value) (S : q_S) : q_ev (kL_law b L xs) (600, lo, st, S) = q_fin (kL_law b L xs) ((q_iload 3) 600 lo st S) := q_ev_step rfl lo st S
set_option maxRecDepth 20000 in
theorem sL_law_601 {b L : Nat} {xs : Nat → Int32} (lo : q_Lo) (st : List Value) (S : q_S) : q_ev (kL_law b L xs) (601, lo, st, S) = q_fin (kL_law b L xs) ((q_push (.int 3)) 601 lo st S) := q_ev_step rfl lo st S
set_option maxRecDepth 20000 in
theorem sL_law_602 {b L : Nat} {xs : Nat → Int32} (lo : q_Lo) (st : List Value) (S : q_S) : q_ev (kL_law b L xs) (602, lo, st, S) = q_fin (kL_law b L xs) ((q_bin (fun x y => x + y)) 602 lo st S) := q_ev_step rfl lo st S
set_option maxRecDepth 20000 in
theorem sL_law_603 {b L : Nat} {xs : Nat → Int32} (lo : q_Lo) (st : List Value) (S : q_S) : q_ev (kL_law b L xs) (603, lo, st, S) = q_fin (kL_law b L xs) ((q_sld b L xs) 603 lo st S) := q_ev_step rfl lo st S
set_option maxRecDepth 20000 in
theorem sL_law_604 {b L : Nat} {xs : Nat → Int32} (lo : q_Lo) (st : List Value) (S : q_S) : q_ev (kL_law b L xs) (604, lo, st, S) = q_fin (kL_law b L xs) ((q_invV [(10, q_call kX11_shift 11)] 3) 604 lo st S) := q_ev_step rfl lo st S
set_option maxRecDepth 20000 in
theorem sL_law_605 {b L : Nat} {xs : Nat → Int32} (lo : q_Lo) (st : List Value) (S : q_S) : q_ev (kL_law b L xs) (605, lo, st, S) = q_fin (kL_law b L xs) ((q_cmpeq 650) 605 lo st S) := q_ev_step rfl lo st S
set_option maxRecDepth 20000 in
theorem sL_law_606 {b L : Nat} {xs : Nat → Int32} (lo : q_Lo) (st : List Value) (S : q_S) : q_ev (kL_law b L xs) (606, lo, st, S) = q_fin (kL_law b L xs) ((q_push (.int 0)) 606 lo st S) := q_ev_step rfl lo st S
set_option maxRecDepth 20000 in
theorem sL_law_607 {b L : Nat} {xs : Nat → Int32} (lo : q_Lo) (st : List Value) (S : q_S) : q_ev (kL_law b L xs) (607, lo, st, S) = q_fin (kL_law b L xs) ((q_zret) 607 lo st S) := q_ev_step rfl lo st S
set_option maxRecDepth 20000 in
theorem sL_law_608 {b L : Nat} {xs : Nat → Int32} (lo : q_Lo) (st : List Value) (S : q_S) : q_ev (kL_law b L xs) (608, lo, st, S) = q_fin (kL_law b L xs) ((q_aload 1) 608 lo st S) := q_ev_step rfl lo st S
set_option maxRecDepth 20000 in
theorem sL_law_609 {b L : Nat} {xs : Nat → Int32} (lo : q_Lo) (st : List Value) (S : q_S) : q_ev (kL_law b L xs) (609, lo, st, S) = q_fin (kL_law b L xs) ((q_aloadX 0) 609 lo st S) := q_ev_step rfl lo st S
set_option maxRecDepth 20000 in
theorem sL_law_610 {b L : Nat} {xs : Nat → Int32} (lo : q_Lo) (st : List Value) (S : q_S) : q_ev (kL_law b L xs) (610, lo, st, S) = q_fin (kL_law b L xs) ((q_iload 3) 610 lo st S) := q_ev_step rfl lo st S
set_option maxRecDepth 20000 in
theorem sL_law_611 {b L : Nat} {xs : Nat → Int32} (lo : q_Lo) (st : List Value) (S : q_S) : q_ev (kL_law b L xs) (611, lo, st, S) = q_fin (kL_law b L xs) ((q_push (.int 1)) 611 lo st S) := q_ev_step rfl lo st S
set_option maxRecDepth 20000 in
theorem sL_law_612 {b L : Nat} {xs : Nat → Int32} (lo : q_Lo) (st : List Value) (S : q_S) : q_ev (kL_law b L xs) (612, lo, st, S) = q_fin (kL_law b L xs) ((q_bin (fun x y => x + y)) 612 lo st S) := q_ev_step rfl lo st S
set_option maxRecDepth 20000 in
theorem sL_law_613 {b L : Nat} {xs : Nat → Int32} (lo : q_Lo) (st : List Value) (S : q_S) : q_ev (kL_law b L xs) (613, lo, st, S) = q_fin (kL_law b L xs) ((q_sld b L xs) 613 lo st S) := q_ev_step rfl lo st S
set_option maxRecDepth 20000 in
theorem sL_law_614 {b L : Nat} {xs : Nat → Int32} (lo : q_Lo) (st : List Value) (S : q_S) : q_ev (kL_law b L xs) (614, lo, st, S) = q_fin (kL_law b L xs) ((q_invV [(9, q_call kX10_check 5)] 1) 614 lo st S) := q_ev_step rfl lo st S
set_option maxRecDepth 20000 in
theorem sL_law_615 {b L : Nat} {xs : Nat → Int32} (lo : q_Lo) (st : List Value) (S : q_S) : q_ev (kL_law b L xs) (615, lo, st, S) = q_fin (kL_law b L xs) ((q_aload 2) 615 lo st S) := q_ev_step rfl lo st S
set_option maxRecDepth 20000 in
theorem sL_law_616 {b L : Nat} {xs : Nat → Int32} (lo : q_Lo) (st : List Value) (S : q_S) : q_ev (kL_law b L xs) (616, lo, st, S) = q_fin (kL_law b L xs) ((q_aloadX 0) 616 lo st S) := q_ev_step rfl lo st S
set_option maxRecDepth 20000 in
theorem sL_law_617 {b L : Nat} {xs : Nat → Int32} (lo : q_Lo) (st : List Value) (S : q_S) : q_ev (kL_law b L xs) (617, lo, st, S) = q_fin (kL_law b L xs) ((q_iload 3) 617 lo st S) := q_ev_step rfl lo st S
set_option maxRecDepth 20000 in
theorem sL_law_618 {b L : Nat} {xs : Nat → Int32} (lo : q_Lo) (st : List Value) (S : q_S) : q_ev (kL_law b L xs) (618, lo, st, S) = q_fin (kL_law b L xs) ((q_push (.int 1)) 618 lo st S) := q_ev_step rfl lo st S
set_option maxRecDepth 20000 in
theorem sL_law_619 {b L : Nat} {xs : Nat → Int32} (lo : q_Lo) (st : List Value) (S : q_S) : q_ev (kL_law b L xs) (619, lo, st, S) = q_fin (kL_law b L xs) ((q_bin (fun x y => x + y)) 619 lo st S) := q_ev_step rfl lo st S
set_option maxRecDepth 20000 in
theorem sL_law_620 {b L : Nat} {xs : Nat → Int32} (lo : q_Lo) (st : List Value) (S : q_S) : q_ev (kL_law b L xs) (620, lo, st, S) = q_fin (kL_law b L xs) ((q_sld b L xs) 620 lo st S) := q_ev_step rfl lo st S
set_option maxRecDepth 20000 in
theorem sL_law_621 {b L : Nat} {xs : Nat → Int32} (lo : q_Lo) (st : List Value) (S : q_S) : q_ev (kL_law b L xs) (621, lo, st, S) = q_fin (kL_law b L xs) ((q_invV [(10, q_call kX11_check 5)] 1) 621 lo st S) := q_ev_step rfl lo st S
set_option maxRecDepth 20000 in
theorem sL_law_622 {b L : Nat} {xs : Nat → Int32} (lo : q_Lo) (st : List Value) (S : q_S) : q_ev (kL_law b L xs) (622, lo, st, S) = q_fin (kL_law b L xs) ((q_cmpeq 650) 622 lo st S) := q_ev_step rfl lo st S
set_option maxRecDepth 20000 in
theorem sL_law_623 {b L : Nat} {xs : Nat → Int32} (lo : q_Lo) (st : List Value) (S : q_S) : q_ev (kL_law b L xs) (623, lo, st, S) = q_fin (kL_law b L xs) ((q_push (.int 0)) 623 lo st S) := q_ev_step rfl lo st S
set_option maxRecDepth 20000 in
theorem sL_law_624 {b L : Nat} {xs : Nat → Int32} (lo : q_Lo) (st : List Value) (S : q_S) : q_ev (kL_law b L xs) (624, lo, st, S) = q_fin (kL_law b L xs) ((q_zret) 624 lo st S) := q_ev_step rfl lo st S
set_option maxRecDepth 20000 in
theorem sL_law_625 {b L : Nat} {xs : Nat → Int32} (lo : q_Lo) (st : List Value) (S : q_S) : q_ev (kL_law b L xs) (625, lo, st, S) = q_fin (kL_law b L xs) ((q_aload 1) 625 lo st S) := q_ev_step rfl lo st S
set_option maxRecDepth 20000 in
theorem sL_law_626 {b L : Nat} {xs : Nat → Int32} (lo : q_Lo) (st : List Value) (S : q_S) : q_ev (kL_law b L xs) (626, lo, st, S) = q_fin (kL_law b L xs) ((q_aloadX 0) 626 lo st S) := q_ev_step rfl lo st S
set_option maxRecDepth 20000 in
theorem sL_law_627 {b L : Nat} {xs : Nat → Int32} (lo : q_Lo) (st : List Value) (S : q_S) : q_ev (kL_law b L xs) (627, lo, st, S) = q_fin (kL_law b L xs) ((q_iload 3) 627 lo st S) := q_ev_step rfl lo st S
set_option maxRecDepth 20000 in
theorem sL_law_628 {b L : Nat} {xs : Nat → Int32} (lo : q_Lo) (st : List Value) (S : q_S) : q_ev (kL_law b L xs) (628, lo, st, S) = q_fin (kL_law b L xs) ((q_push (.int 1)) 628 lo st S) := q_ev_step rfl lo st S
set_option maxRecDepth 20000 in
theorem sL_law_629 {b L : Nat} {xs : Nat → Int32} (lo : q_Lo) (st : List Value) (S : q_S) : q_ev (kL_law b L xs) (629, lo, st, S) = q_fin (kL_law b L xs) ((q_bin (fun x y => x + y)) 629 lo st S) := q_ev_step rfl lo st S
set_option maxRecDepth 20000 in
theorem sL_law_630 {b L : Nat} {xs : Nat → Int32} (lo : q_Lo) (st : List Value) (S : q_S) : q_ev (kL_law b L xs) (630, lo, st, S) = q_fin (kL_law b L xs) ((q_sld b L xs) 630 lo st S) := q_ev_step rfl lo st S
set_option maxRecDepth 20000 in
theorem sL_law_631 {b L : Nat} {xs : Nat → Int32} (lo : q_Lo) (st : List Value) (S : q_S) : q_ev (kL_law b L xs) (631, lo, st, S) = q_fin (kL_law b L xs) ((q_invV [(9, q_call kX10_count 2)] 1) 631 lo st S) := q_ev_step rfl lo st S
set_option maxRecDepth 20000 in
theorem sL_law_632 {b L : Nat} {xs : Nat → Int32} (lo : q_Lo) (st : List Value) (S : q_S) : q_ev (kL_law b L xs) (632, lo, st, S) = q_fin (kL_law b L xs) ((q_aload 2) 632 lo st S) := q_ev_step rfl lo st S
set_option maxRecDepth 20000 in
theorem sL_law_633 {b L : Nat} {xs : Nat → Int32} (lo : q_Lo) (st : List Value) (S : q_S) : q_ev (kL_law b L xs) (633, lo, st, S) = q_fin (kL_law b L xs) ((q_aloadX 0) 633 lo st S) := q_ev_step rfl lo st S
set_option maxRecDepth 20000 in
theorem sL_law_634 {b L : Nat} {xs : Nat → Int32} (lo : q_Lo) (st : List Value) (S : q_S) : q_ev (kL_law b L xs) (634, lo, st, S) = q_fin (kL_law b L xs) ((q_iload 3) 634 lo st S) := q_ev_step rfl lo st S
set_option maxRecDepth 20000 in
theorem sL_law_635 {b L : Nat} {xs : Nat → Int32} (lo : q_Lo) (st : List Value) (S : q_S) : q_ev (kL_law b L xs) (635, lo, st, S) = q_fin (kL_law b L xs) ((q_push (.int 1)) 635 lo st S) := q_ev_step rfl lo st S
set_option maxRecDepth 20000 in
theorem sL_law_636 {b L : Nat} {xs : Nat → Int32} (lo : q_Lo) (st : List Value) (S : q_S) : q_ev (kL_law b L xs) (636, lo, st, S) = q_fin (kL_law b L xs) ((q_bin (fun x y => x + y)) 636 lo st S) := q_ev_step rfl lo st S
set_option maxRecDepth 20000 in
theorem sL_law_637 {b L : Nat} {xs : Nat → Int32} (lo : q_Lo) (st : List Value) (S : q_S) : q_ev (kL_law b L xs) (637, lo, st, S) = q_fin (kL_law b L xs) ((q_sld b L xs) 637 lo st S) := q_ev_step rfl lo st S
set_option maxRecDepth 20000 in
theorem sL_law_638 {b L : Nat} {xs : Nat → Int32} (lo : q_Lo) (st : List Value) (S : q_S) : q_ev (kL_law b L xs) (638, lo, st, S) = q_fin (kL_law b L xs) ((q_invV [(10, q_call kX11_count 4)] 1) 638 lo st S) := q_ev_step rfl lo st S
set_option maxRecDepth 20000 in
theorem sL_law_639 {b L : Nat} {xs : Nat → Int32} (lo : q_Lo) (st : List Value) (S : q_S) : q_ev (kL_law b L xs) (639, lo, st, S) = q_fin (kL_law b L xs) ((q_cmpeq 650) 639 lo st S) := q_ev_step rfl lo st S
set_option maxRecDepth 20000 in
theorem sL_law_640 {b L : Nat} {xs : Nat → Int32} (lo : q_Lo) (st : List Value) (S : q_S) : q_ev (kL_law b L xs) (640, lo, st, S) = q_fin (kL_law b L xs) ((q_push (.int 0)) 640 lo st S) := q_ev_step rfl lo st S
set_option maxRecDepth 20000 in
theorem sL_law_641 {b L : Nat} {xs : Nat → Int32} (lo : q_Lo) (st : List Value) (S : q_S) : q_ev (kL_law b L xs) (641, lo, st, S) = q_fin (kL_law b L xs) ((q_zret) 641 lo st S) := q_ev_step rfl lo st S
set_option maxRecDepth 20000 in
theorem sL_law_642 {b L : Nat} {xs : Nat → Int32} (lo : q_Lo) (st : List Value) (S : q_S) : q_ev (kL_law b L xs) (642, lo, st, S) = q_fin (kL_law b L xs) ((q_aload 1) 642 lo st S) := q_ev_step rfl lo st S
set_option maxRecDepth 20000 in
theorem sL_law_643 {b L : Nat} {xs : Nat → Int32} (lo : q_Lo) (st : List Value) (S : q_S) : q_ev (kL_law b L xs) (643, lo, st, S) = q_fin (kL_law b L xs) ((q_invV [(9, q_call kX10_trace 1)] 0) 643 lo st S) := q_ev_step rfl lo st S
set_option maxRecDepth 20000 in
theorem sL_law_644 {b L : Nat} {xs : Nat → Int32} (lo : q_Lo) (st : List Value) (S : q_S) : q_ev (kL_law b L xs) (644, lo, st, S) = q_fin (kL_law b L xs) ((q_aload 2) 644 lo st S) := q_ev_step rfl lo st S
set_option maxRecDepth 20000 in
theorem sL_law_645 {b L : Nat} {xs : Nat → Int32} (lo : q_Lo) (st : List Value) (S : q_S) : q_ev (kL_law b L xs) (645, lo, st, S) = q_fin (kL_law b L xs) ((q_invV [(10, q_call kX11_trace 1)] 0) 645 lo st S) := q_ev_step rfl lo st S
set_option maxRecDepth 20000 in
theorem sL_law_646 {b L : Nat} {xs : Nat → Int32} (lo : q_Lo) (st : List Value) (S : q_S) : q_ev (kL_law b L xs) (646, lo, st, S) = q_fin (kL_law b L xs) ((q_lcmp) 646 lo st S) := q_ev_step rfl lo st S
set_option maxRecDepth 20000 in
theorem sL_law_647 {b L : Nat} {xs : Nat → Int32} (lo : q_Lo) (st : List Value) (S : q_S) : q_ev (kL_law b L xs) (647, lo, st, S) = q_fin (kL_law b L xs) ((q_ifeq 650) 647 lo st S) := q_ev_step rfl lo st S
set_option maxRecDepth 20000 in
theorem sL_law_648 {b L : Nat} {xs : Nat → Int32} (lo : q_Lo) (st : List Value) (S : q_S) : q_ev (kL_law b L xs) (648, lo, st, S) = q_fin (kL_law b L xs) ((q_push (.int 0)) 648 lo st S) := q_ev_step rfl lo st S
set_option maxRecDepth 20000 in
theorem sL_law_649 {b L : Nat} {xs : Nat → Int32} (lo : q_Lo) (st : List Value) (S : q_S) : q_ev (kL_law b L xs) (649, lo, st, S) = q_fin (kL_law b L xs) ((q_zret) 649 lo st S) := q_ev_step rfl lo st S
set_option maxRecDepth 20000 in
theorem sL_law_650 {b L : Nat} {xs : Nat → Int32} (lo : q_Lo) (st : List Value) (S : q_S) : q_ev (kL_law b L xs) (650, lo, st, S) = q_fin (kL_law b L xs) ((q_iinc 3 6) 650 lo st S) := q_ev_step rfl lo st S
set_option maxRecDepth 20000 in
theorem sL_law_651 {b L : Nat} {xs : Nat → Int32} (lo : q_Lo) (st : List Value) (S : q_S) : q_ev (kL_law b L xs) (651, lo, st, S) = q_fin (kL_law b L xs) ((q_goto 10) 651 lo st S) := q_ev_step rfl lo st S
set_option maxRecDepth 20000 in
theorem sL_law_652 {b L : Nat} {xs : Nat → Int32} (lo : q_Lo) (st : List Value) (S : q_S) : q_ev (kL_law b L xs) (652, lo, st, S) = q_fin (kL_law b L xs) ((q_push (.int 1)) 652 lo st S) := q_ev_step rfl lo st S
set_option maxRecDepth 20000 in
theorem sL_law_653 {b L : Nat} {xs : Nat → Int32} (lo : q_Lo) (st : List Value) (S : q_S) : q_ev (kL_law b L xs) (653, lo, st, S) = q_fin (kL_law b L xs) ((q_zret) 653 lo st S) := q_ev_step rfl lo st S
