abbrev m_Q_init : MT := (⟨"GroupLogModel", "<init>", "(I)V"⟩, prog_6_method_1_code, 2, (none : Option FieldType), { frames := 1, cells := 60, slots := 60000, locals := 20 })
theorem pf_Q_init : plainFor m_Q_init.1 = true := by decide +kernel
theorem d_Q_init_0 : decode prog_6_method_1_code 0 = .ok (.aload_n 0, 1) := by decide +kernel
theorem d_Q_init_1 : decode prog_6_method_1_code 1 = .ok (.invokespecial 1, 3) := by decide +kernel
theorem d_Q_init_4 : decode prog_6_method_1_code 4 = .ok (.aload_n 0, 1) := by decide +kernel
theorem d_Q_init_5 : decode prog_6_method_1_code 5 = .ok (.bipush 95, 2) := by decide +kernel
theorem d_Q_init_7 : decode prog_6_method_1_code 7 = .ok (.newarray .int, 2) := by decide +kernel
theorem d_Q_init_9 : decode prog_6_method_1_code 9 = .ok (.putfield 7, 3) := by decide +kernel
theorem d_Q_init_12 : decode prog_6_method_1_code 12 = .ok (.aload_n 0, 1) := by decide +kernel
theorem d_Q_init_13 : decode prog_6_method_1_code 13 = .ok (.sipush 2280, 3) := by decide +kernel
theorem d_Q_init_16 : decode prog_6_method_1_code 16 = .ok (.newarray .int, 2) := by decide +kernel
theorem d_Q_init_18 : decode prog_6_method_1_code 18 = .ok (.putfield 13, 3) := by decide +kernel
theorem d_Q_init_21 : decode prog_6_method_1_code 21 = .ok (.aload_n 0, 1) := by decide +kernel
theorem d_Q_init_22 : decode prog_6_method_1_code 22 = .ok (.sipush 2280, 3) := by decide +kernel
theorem d_Q_init_25 : decode prog_6_method_1_code 25 = .ok (.newarray .int, 2) := by decide +kernel
theorem d_Q_init_27 : decode prog_6_method_1_code 27 = .ok (.putfield 16, 3) := by decide +kernel
theorem d_Q_init_30 : decode prog_6_method_1_code 30 = .ok (.aload_n 0, 1) := by decide +kernel
theorem d_Q_init_31 : decode prog_6_method_1_code 31 = .ok (.sipush 2280, 3) := by decide +kernel
theorem d_Q_init_34 : decode prog_6_method_1_code 34 = .ok (.newarray .int, 2) := by decide +kernel
theorem d_Q_init_36 : decode prog_6_method_1_code 36 = .ok (.putfield 19, 3) := by decide +kernel
theorem d_Q_init_39 : decode prog_6_method_1_code 39 = .ok (.aload_n 0, 1) := by decide +kernel
theorem d_Q_init_40 : decode prog_6_method_1_code 40 = .ok (.iconst 5, 1) := by decide +kernel
theorem d_Q_init_41 : decode prog_6_method_1_code 41 = .ok (.newarray .int, 2) := by decide +kernel
theorem d_Q_init_43 : decode prog_6_method_1_code 43 = .ok (.putfield 22, 3) := by decide +kernel
theorem d_Q_init_46 : decode prog_6_method_1_code 46 = .ok (.aload_n 0, 1) := by decide +kernel
theorem d_Q_init_47 : decode prog_6_method_1_code 47 = .ok (.iconst 5, 1) := by decide +kernel
theorem d_Q_init_48 : decode prog_6_method_1_code 48 = .ok (.newarray .int, 2) := by decide +kernel
theorem d_Q_init_50 : decode prog_6_method_1_code 50 = .ok (.putfield 25, 3) := by decide +kernel
theorem d_Q_init_53 : decode prog_6_method_1_code 53 = .ok (.aload_n 0, 1) := by decide +kernel
theorem d_Q_init_54 : decode prog_6_method_1_code 54 = .ok (.iconst 5, 1) := by decide +kernel
theorem d_Q_init_55 : decode prog_6_method_1_code 55 = .ok (.newarray .int, 2) := by decide +kernel
theorem d_Q_init_57 : decode prog_6_method_1_code 57 = .ok (.putfield 28, 3) := by decide +kernel
theorem d_Q_init_60 : decode prog_6_method_1_code 60 = .ok (.aload_n 0, 1) := by decide +kernel
theorem d_Q_init_61 : decode prog_6_method_1_code 61 = .ok (.iconst 5, 1) := by decide +kernel
theorem d_Q_init_62 : decode prog_6_method_1_code 62 = .ok (.newarray .int, 2) := by decide +kernel
theorem d_Q_init_64 : decode prog_6_method_1_code 64 = .ok (.putfield 31, 3) := by decide +kernel
theorem d_Q_init_67 : decode prog_6_method_1_code 67 = .ok (.aload_n 0, 1) := by decide +kernel
theorem d_Q_init_68 : decode prog_6_method_1_code 68 = .ok (.bipush 25, 2) := by decide +kernel
theorem d_Q_init_70 : decode prog_6_method_1_code 70 = .ok (.newarray .int, 2) := by decide +kernel
theorem d_Q_init_72 : decode prog_6_method_1_code 72 = .ok (.putfield 34, 3) := by decide +kernel
theorem d_Q_init_75 : decode prog_6_method_1_code 75 = .ok (.aload_n 0, 1) := by decide +kernel
theorem d_Q_init_76 : decode prog_6_method_1_code 76 = .ok (.bipush 25, 2) := by decide +kernel
theorem d_Q_init_78 : decode prog_6_method_1_code 78 = .ok (.newarray .int, 2) := by decide +kernel
theorem d_Q_init_80 : decode prog_6_method_1_code 80 = .ok (.putfield 37, 3) := by decide +kernel
theorem d_Q_init_83 : decode prog_6_method_1_code 83 = .ok (.aload_n 0, 1) := by decide +kernel
theorem d_Q_init_84 : decode prog_6_method_1_code 84 = .ok (.iconst 5, 1) := by decide +kernel
theorem d_Q_init_85 : decode prog_6_method_1_code 85 = .ok (.newarray .boolean, 2) := by decide +kernel
theorem d_Q_init_87 : decode prog_6_method_1_code 87 = .ok (.putfield 40, 3) := by decide +kernel
theorem d_Q_init_90 : decode prog_6_method_1_code 90 = .ok (.aload_n 0, 1) := by decide +kernel
theorem d_Q_init_91 : decode prog_6_method_1_code 91 = .ok (.iconst 5, 1) := by decide +kernel
theorem d_Q_init_92 : decode prog_6_method_1_code 92 = .ok (.newarray .int, 2) := by decide +kernel
theorem d_Q_init_94 : decode prog_6_method_1_code 94 = .ok (.putfield 44, 3) := by decide +kernel
theorem d_Q_init_97 : decode prog_6_method_1_code 97 = .ok (.aload_n 0, 1) := by decide +kernel
theorem d_Q_init_98 : decode prog_6_method_1_code 98 = .ok (.bipush 25, 2) := by decide +kernel
theorem d_Q_init_100 : decode prog_6_method_1_code 100 = .ok (.newarray .boolean, 2) := by decide +kernel
theorem d_Q_init_102 : decode prog_6_method_1_code 102 = .ok (.putfield 47, 3) := by decide +kernel
theorem d_Q_init_105 : decode prog_6_method_1_code 105 = .ok (.aload_n 0, 1) := by decide +kernel
theorem d_Q_init_106 : decode prog_6_method_1_code 106 = .ok (.bipush 25, 2) := by decide +kernel
theorem d_Q_init_108 : decode prog_6_method_1_code 108 = .ok (.newarray .int, 2) := by decide +kernel
theorem d_Q_init_110 : decode prog_6_method_1_code 110 = .ok (.putfield 50, 3) := by decide +kernel
theorem d_Q_init_113 : decode prog_6_method_1_code 113 = .ok (.aload_n 0, 1) := by decide +kernel
theorem d_Q_init_114 : decode prog_6_method_1_code 114 = .ok (.bipush 25, 2) := by decide +kernel
theorem d_Q_init_116 : decode prog_6_method_1_code 116 = .ok (.newarray .boolean, 2) := by decide +kernel
theorem d_Q_init_118 : decode prog_6_method_1_code 118 = .ok (.putfield 53, 3) := by decide +kernel
theorem d_Q_init_121 : decode prog_6_method_1_code 121 = .ok (.aload_n 0, 1) := by decide +kernel
theorem d_Q_init_122 : decode prog_6_method_1_code 122 = .ok (.bipush 25, 2) := by decide +kernel
theorem d_Q_init_124 : decode prog_6_method_1_code 124 = .ok (.newarray .int, 2) := by decide +kernel
theorem d_Q_init_126 : decode prog_6_method_1_code 126 = .ok (.putfield 56, 3) := by decide +kernel
theorem d_Q_init_129 : decode prog_6_method_1_code 129 = .ok (.aload_n 0, 1) := by decide +kernel
theorem d_Q_init_130 : decode prog_6_method_1_code 130 = .ok (.bipush 25, 2) := by decide +kernel
theorem d_Q_init_132 : decode prog_6_method_1_code 132 = .ok (.newarray .int, 2) := by decide +kernel
theorem d_Q_init_134 : decode prog_6_method_1_code 134 = .ok (.putfield 59, 3) := by decide +kernel
theorem d_Q_init_137 : decode prog_6_method_1_code 137 = .ok (.aload_n 0, 1) := by decide +kernel
theorem d_Q_init_138 : decode prog_6_method_1_code 138 = .ok (.bipush 25, 2) := by decide +kernel
theorem d_Q_init_140 : decode prog_6_method_1_code 140 = .ok (.newarray .int, 2) := by decide +kernel
theorem d_Q_init_142 : decode prog_6_method_1_code 142 = .ok (.putfield 62, 3) := by decide +kernel
theorem d_Q_init_145 : decode prog_6_method_1_code 145 = .ok (.aload_n 0, 1) := by decide +kernel
theorem d_Q_init_146 : decode prog_6_method_1_code 146 = .ok (.bipush 25, 2) := by decide +kernel
theorem d_Q_init_148 : decode prog_6_method_1_code 148 = .ok (.newarray .int, 2) := by decide +kernel
theorem d_Q_init_150 : decode prog_6_method_1_code 150 = .ok (.putfield 65, 3) := by decide +kernel
theorem d_Q_init_153 : decode prog_6_method_1_code 153 = .ok (.aload_n 0, 1) := by decide +kernel
theorem d_Q_init_154 : decode prog_6_method_1_code 154 = .ok (.bipush 65, 2) := by decide +kernel
theorem d_Q_init_156 : decode prog_6_method_1_code 156 = .ok (.newarray .int, 2) := by decide +kernel
theorem d_Q_init_158 : decode prog_6_method_1_code 158 = .ok (.putfield 68, 3) := by decide +kernel
theorem d_Q_init_161 : decode prog_6_method_1_code 161 = .ok (.aload_n 0, 1) := by decide +kernel
theorem d_Q_init_162 : decode prog_6_method_1_code 162 = .ok (.bipush 65, 2) := by decide +kernel
theorem d_Q_init_164 : decode prog_6_method_1_code 164 = .ok (.newarray .int, 2) := by decide +kernel
theorem d_Q_init_166 : decode prog_6_method_1_code 166 = .ok (.putfield 71, 3) := by decide +kernel
theorem d_Q_init_169 : decode prog_6_method_1_code 169 = .ok (.aload_n 0, 1) := by decide +kernel
theorem d_Q_init_170 : decode prog_6_method_1_code 170 = .ok (.bipush 65, 2) := by decide +kernel
theorem d_Q_init_172 : decode prog_6_method_1_code 172 = .ok (.newarray .int, 2) := by decide +kernel
theorem d_Q_init_174 : decode prog_6_method_1_code 174 = .ok (.putfield 74, 3) := by decide +kernel
theorem d_Q_init_177 : decode prog_6_method_1_code 177 = .ok (.aload_n 0, 1) := by decide +kernel
theorem d_Q_init_178 : decode prog_6_method_1_code 178 = .ok (.bipush 65, 2) := by decide +kernel
theorem d_Q_init_180 : decode prog_6_method_1_code 180 = .ok (.newarray .int, 2) := by decide +kernel
theorem d_Q_init_182 : decode prog_6_method_1_code 182 = .ok (.putfield 77, 3) := by decide +kernel
theorem d_Q_init_185 : decode prog_6_method_1_code 185 = .ok (.aload_n 0, 1) := by decide +kernel
theorem d_Q_init_186 : decode prog_6_method_1_code 186 = .ok (.bipush 65, 2) := by decide +kernel
theorem d_Q_init_188 : decode prog_6_method_1_code 188 = .ok (.newarray .int, 2) := by decide +kernel
theorem d_Q_init_190 : decode prog_6_method_1_code 190 = .ok (.putfield 80, 3) := by decide +kernel
theorem d_Q_init_193 : decode prog_6_method_1_code 193 = .ok (.aload_n 0, 1) := by decide +kernel
theorem d_Q_init_194 : decode prog_6_method_1_code 194 = .ok (.bipush 65, 2) := by decide +kernel
theorem d_Q_init_196 : decode prog_6_method_1_code 196 = .ok (.newarray .int, 2) := by decide +kernel
theorem d_Q_init_198 : decode prog_6_method_1_code 198 = .ok (.putfield 83, 3) := by decide +kernel
theorem d_Q_init_201 : decode prog_6_method_1_code 201 = .ok (.aload_n 0, 1) := by decide +kernel
theorem d_Q_init_202 : decode prog_6_method_1_code 202 = .ok (.sipush 325, 3) := by decide +kernel
theorem d_Q_init_205 : decode prog_6_method_1_code 205 = .ok (.newarray .int, 2) := by decide +kernel
theorem d_Q_init_207 : decode prog_6_method_1_code 207 = .ok (.putfield 86, 3) := by decide +kernel
theorem d_Q_init_210 : decode prog_6_method_1_code 210 = .ok (.aload_n 0, 1) := by decide +kernel
theorem d_Q_init_211 : decode prog_6_method_1_code 211 = .ok (.iconst (-1), 1) := by decide +kernel
theorem d_Q_init_212 : decode prog_6_method_1_code 212 = .ok (.putfield 89, 3) := by decide +kernel
theorem d_Q_init_215 : decode prog_6_method_1_code 215 = .ok (.aload_n 0, 1) := by decide +kernel
theorem d_Q_init_216 : decode prog_6_method_1_code 216 = .ok (.iconst 4, 1) := by decide +kernel
theorem d_Q_init_217 : decode prog_6_method_1_code 217 = .ok (.newarray .int, 2) := by decide +kernel
theorem d_Q_init_219 : decode prog_6_method_1_code 219 = .ok (.putfield 93, 3) := by decide +kernel
theorem d_Q_init_222 : decode prog_6_method_1_code 222 = .ok (.aload_n 0, 1) := by decide +kernel
theorem d_Q_init_223 : decode prog_6_method_1_code 223 = .ok (.iconst 4, 1) := by decide +kernel
theorem d_Q_init_224 : decode prog_6_method_1_code 224 = .ok (.newarray .int, 2) := by decide +kernel
theorem d_Q_init_226 : decode prog_6_method_1_code 226 = .ok (.putfield 96, 3) := by decide +kernel
theorem d_Q_init_229 : decode prog_6_method_1_code 229 = .ok (.aload_n 0, 1) := by decide +kernel
theorem d_Q_init_230 : decode prog_6_method_1_code 230 = .ok (.iload_n 1, 1) := by decide +kernel
theorem d_Q_init_231 : decode prog_6_method_1_code 231 = .ok (.iconst 1, 1) := by decide +kernel
theorem d_Q_init_232 : decode prog_6_method_1_code 232 = .ok (.iand, 1) := by decide +kernel
theorem d_Q_init_233 : decode prog_6_method_1_code 233 = .ok (.ifCond .ne 7, 3) := by decide +kernel
theorem d_Q_init_236 : decode prog_6_method_1_code 236 = .ok (.iconst 3, 1) := by decide +kernel
theorem d_Q_init_237 : decode prog_6_method_1_code 237 = .ok (.goto 4, 3) := by decide +kernel
theorem d_Q_init_240 : decode prog_6_method_1_code 240 = .ok (.iconst 5, 1) := by decide +kernel
theorem d_Q_init_241 : decode prog_6_method_1_code 241 = .ok (.putfield 99, 3) := by decide +kernel
theorem d_Q_init_244 : decode prog_6_method_1_code 244 = .ok (.aload_n 0, 1) := by decide +kernel
theorem d_Q_init_245 : decode prog_6_method_1_code 245 = .ok (.aload_n 0, 1) := by decide +kernel
theorem d_Q_init_246 : decode prog_6_method_1_code 246 = .ok (.getfield 99, 3) := by decide +kernel
theorem d_Q_init_249 : decode prog_6_method_1_code 249 = .ok (.iconst 2, 1) := by decide +kernel
theorem d_Q_init_250 : decode prog_6_method_1_code 250 = .ok (.idiv, 1) := by decide +kernel
theorem d_Q_init_251 : decode prog_6_method_1_code 251 = .ok (.putfield 102, 3) := by decide +kernel
theorem d_Q_init_254 : decode prog_6_method_1_code 254 = .ok (.return_, 1) := by decide +kernel
theorem b_Q_init_0 {l : Launch} {D : va_G} {cid : Nat → ClassId} {X : CT} {Post : PT} (hX : OK l D cid m_Q_init X Post) : SS l D cid m_Q_init X 0 [o_aload 0, o_obj, o_aload 0, o_push (.int 95), o_newI 0, o_put okR 4 2, o_aload 0, o_push (.int 2280), o_newI 0, o_put okR 4 3, o_aload 0, o_push (.int 2280), o_newI 0, o_put okR 4 4, o_aload 0, o_push (.int 2280), o_newI 0, o_put okR 4 5, o_aload 0, o_push (.int 5), o_newI 0, o_put okR 4 6, o_aload 0, o_push (.int 5), o_newI 0, o_put okR 4 7, o_aload 0, o_push (.int 5), o_newI 0, o_put okR 4 8, o_aload 0, o_push (.int 5), o_newI 0, o_put okR 4 9, o_aload 0, o_push (.int 25), o_newI 0, o_put okR 4 10, o_aload 0, o_push (.int 25), o_newI 0, o_put okR 4 11, o_aload 0, o_push (.int 5), o_newI 1, o_put okR 4 12, o_aload 0, o_push (.int 5), o_newI 0, o_put okR 4 13, o_aload 0, o_push (.int 25), o_newI 1, o_put okR 4 14, o_aload 0, o_push (.int 25), o_newI 0, o_put okR 4 15, o_aload 0, o_push (.int 25), o_newI 1, o_put okR 4 16, o_aload 0, o_push (.int 25), o_newI 0, o_put okR 4 17, o_aload 0, o_push (.int 25), o_newI 0, o_put okR 4 18, o_aload 0, o_push (.int 25), o_newI 0, o_put okR 4 19, o_aload 0, o_push (.int 25), o_newI 0, o_put okR 4 20, o_aload 0, o_push (.int 65), o_newI 0, o_put okR 4 21, o_aload 0, o_push (.int 65), o_newI 0, o_put okR 4 22, o_aload 0, o_push (.int 65), o_newI 0, o_put okR 4 23, o_aload 0, o_push (.int 65), o_newI 0, o_put okR 4 24, o_aload 0, o_push (.int 65), o_newI 0, o_put okR 4 25, o_aload 0, o_push (.int 65), o_newI 0, o_put okR 4 26, o_aload 0, o_push (.int 325), o_newI 0, o_put okR 4 27, o_aload 0, o_push (.int (-1)), o_put okI 4 29, o_aload 0, o_push (.int 4), o_newI 0, o_put okR 4 30, o_aload 0, o_push (.int 4), o_newI 0, o_put okR 4 31, o_aload 0, o_iload 1, o_push (.int 1), o_bin (fun x y => x &&& y)] (t_if (fun x => ¬ x = 0) (FR l D cid m_Q_init X 240) (FR l D cid m_Q_init X 236)) := by
  refine SS.cons (so_aload_n hX d_Q_init_0 rfl) ?_
  refine SS.cons (so_obj hX d_Q_init_1 k_484 k_57 k_58 (by decide) (by decide)) ?_
  refine SS.cons (so_aload_n hX d_Q_init_4 rfl) ?_
  refine SS.cons (so_bipush hX d_Q_init_5 (by decide)) ?_
  refine SS.cons (so_newI hX d_Q_init_7 rfl k_99 rfl (by decide) nw_0) ?_
  refine SS.cons (so_putF (C := R_Q) (T := T_Q) (ok_A _) hX d_Q_init_9 in_Q ty_Q nm_Q rfl (by decide) k_487 rfl rfl rfl rfl) ?_
  refine SS.cons (so_aload_n hX d_Q_init_12 rfl) ?_
  refine SS.cons (so_sipush hX d_Q_init_13 (by decide)) ?_
  refine SS.cons (so_newI hX d_Q_init_16 rfl k_99 rfl (by decide) nw_0) ?_
  refine SS.cons (so_putF (C := R_Q) (T := T_Q) (ok_A _) hX d_Q_init_18 in_Q ty_Q nm_Q rfl (by decide) k_488 rfl rfl rfl rfl) ?_
  refine SS.cons (so_aload_n hX d_Q_init_21 rfl) ?_
  refine SS.cons (so_sipush hX d_Q_init_22 (by decide)) ?_
  refine SS.cons (so_newI hX d_Q_init_25 rfl k_99 rfl (by decide) nw_0) ?_
  refine SS.cons (so_putF (C := R_Q) (T := T_Q) (ok_A _) hX d_Q_init_27 in_Q ty_Q nm_Q rfl (by decide) k_489 rfl rfl rfl rfl) ?_
  refine SS.cons (so_aload_n hX d_Q_init_30 rfl) ?_
  refine SS.cons (so_sipush hX d_Q_init_31 (by decide)) ?_
  refine SS.cons (so_newI hX d_Q_init_34 rfl k_99 rfl (by decide) nw_0) ?_
  refine SS.cons (so_putF (C := R_Q) (T := T_Q) (ok_A _) hX d_Q_init_36 in_Q ty_Q nm_Q rfl (by decide) k_490 rfl rfl rfl rfl) ?_
  refine SS.cons (so_aload_n hX d_Q_init_39 rfl) ?_
  refine SS.cons (so_iconst hX d_Q_init_40 (by decide)) ?_
  refine SS.cons (so_newI hX d_Q_init_41 rfl k_99 rfl (by decide) nw_0) ?_
  refine SS.cons (so_putF (C := R_Q) (T := T_Q) (ok_A _) hX d_Q_init_43 in_Q ty_Q nm_Q rfl (by decide) k_491 rfl rfl rfl rfl) ?_
  refine SS.cons (so_aload_n hX d_Q_init_46 rfl) ?_
  refine SS.cons (so_iconst hX d_Q_init_47 (by decide)) ?_
  refine SS.cons (so_newI hX d_Q_init_48 rfl k_99 rfl (by decide) nw_0) ?_
  refine SS.cons (so_putF (C := R_Q) (T := T_Q) (ok_A _) hX d_Q_init_50 in_Q ty_Q nm_Q rfl (by decide) k_492 rfl rfl rfl rfl) ?_
  refine SS.cons (so_aload_n hX d_Q_init_53 rfl) ?_
  refine SS.cons (so_iconst hX d_Q_init_54 (by decide)) ?_
  refine SS.cons (so_newI hX d_Q_init_55 rfl k_99 rfl (by decide) nw_0) ?_
  refine SS.cons (so_putF (C := R_Q) (T := T_Q) (ok_A _) hX d_Q_init_57 in_Q ty_Q nm_Q rfl (by decide) k_493 rfl rfl rfl rfl) ?_
  refine SS.cons (so_aload_n hX d_Q_init_60 rfl) ?_
  refine SS.cons (so_iconst hX d_Q_init_61 (by decide)) ?_
  refine SS.cons (so_newI hX d_Q_init_62 rfl k_99 rfl (by decide) nw_0) ?_
  refine SS.cons (so_putF (C := R_Q) (T := T_Q) (ok_A _) hX d_Q_init_64 in_Q ty_Q nm_Q rfl (by decide) k_494 rfl rfl rfl rfl) ?_
  refine SS.cons (so_aload_n hX d_Q_init_67 rfl) ?_
  refine SS.cons (so_bipush hX d_Q_init_68 (by decide)) ?_
  refine SS.cons (so_newI hX d_Q_init_70 rfl k_99 rfl (by decide) nw_0) ?_
  refine SS.cons (so_putF (C := R_Q) (T := T_Q) (ok_A _) hX d_Q_init_72 in_Q ty_Q nm_Q rfl (by decide) k_495 rfl rfl rfl rfl) ?_
  refine SS.cons (so_aload_n hX d_Q_init_75 rfl) ?_
  refine SS.cons (so_bipush hX d_Q_init_76 (by decide)) ?_
  refine SS.cons (so_newI hX d_Q_init_78 rfl k_99 rfl (by decide) nw_0) ?_
  refine SS.cons (so_putF (C := R_Q) (T := T_Q) (ok_A _) hX d_Q_init_80 in_Q ty_Q nm_Q rfl (by decide) k_496 rfl rfl rfl rfl) ?_
  refine SS.cons (so_aload_n hX d_Q_init_83 rfl) ?_
  refine SS.cons (so_iconst hX d_Q_init_84 (by decide)) ?_
  refine SS.cons (so_newI hX d_Q_init_85 rfl k_582 rfl (by decide) nw_1) ?_
  refine SS.cons (so_putF (C := R_Q) (T := T_Q) (ok_A _) hX d_Q_init_87 in_Q ty_Q nm_Q rfl (by decide) k_497 rfl rfl rfl rfl) ?_
  refine SS.cons (so_aload_n hX d_Q_init_90 rfl) ?_
  refine SS.cons (so_iconst hX d_Q_init_91 (by decide)) ?_
  refine SS.cons (so_newI hX d_Q_init_92 rfl k_99 rfl (by decide) nw_0) ?_
  refine SS.cons (so_putF (C := R_Q) (T := T_Q) (ok_A _) hX d_Q_init_94 in_Q ty_Q nm_Q rfl (by decide) k_498 rfl rfl rfl rfl) ?_
  refine SS.cons (so_aload_n hX d_Q_init_97 rfl) ?_
  refine SS.cons (so_bipush hX d_Q_init_98 (by decide)) ?_
  refine SS.cons (so_newI hX d_Q_init_100 rfl k_582 rfl (by decide) nw_1) ?_
  refine SS.cons (so_putF (C := R_Q) (T := T_Q) (ok_A _) hX d_Q_init_102 in_Q ty_Q nm_Q rfl (by decide) k_499 rfl rfl rfl rfl) ?_
  refine SS.cons (so_aload_n hX d_Q_init_105 rfl) ?_
  refine SS.cons (so_bipush hX d_Q_init_106 (by decide)) ?_
  refine SS.cons (so_newI hX d_Q_init_108 rfl k_99 rfl (by decide) nw_0) ?_
  refine SS.cons (so_putF (C := R_Q) (T := T_Q) (ok_A _) hX d_Q_init_110 in_Q ty_Q nm_Q rfl (by decide) k_500 rfl rfl rfl rfl) ?_
  refine SS.cons (so_aload_n hX d_Q_init_113 rfl) ?_
  refine SS.cons (so_bipush hX d_Q_init_114 (by decide)) ?_
  refine SS.cons (so_newI hX d_Q_init_116 rfl k_582 rfl (by decide) nw_1) ?_
  refine SS.cons (so_putF (C := R_Q) (T := T_Q) (ok_A _) hX d_Q_init_118 in_Q ty_Q nm_Q rfl (by decide) k_501 rfl rfl rfl rfl) ?_
  refine SS.cons (so_aload_n hX d_Q_init_121 rfl) ?_
  refine SS.cons (so_bipush hX d_Q_init_122 (by decide)) ?_
  refine SS.cons (so_newI hX d_Q_init_124 rfl k_99 rfl (by decide) nw_0) ?_
  refine SS.cons (so_putF (C := R_Q) (T := T_Q) (ok_A _) hX d_Q_init_126 in_Q ty_Q nm_Q rfl (by decide) k_502 rfl rfl rfl rfl) ?_
  refine SS.cons (so_aload_n hX d_Q_init_129 rfl) ?_
  refine SS.cons (so_bipush hX d_Q_init_130 (by decide)) ?_
  refine SS.cons (so_newI hX d_Q_init_132 rfl k_99 rfl (by decide) nw_0) ?_
  refine SS.cons (so_putF (C := R_Q) (T := T_Q) (ok_A _) hX d_Q_init_134 in_Q ty_Q nm_Q rfl (by decide) k_503 rfl rfl rfl rfl) ?_
  refine SS.cons (so_aload_n hX d_Q_init_137 rfl) ?_
  refine SS.cons (so_bipush hX d_Q_init_138 (by decide)) ?_
  refine SS.cons (so_newI hX d_Q_init_140 rfl k_99 rfl (by decide) nw_0) ?_
  refine SS.cons (so_putF (C := R_Q) (T := T_Q) (ok_A _) hX d_Q_init_142 in_Q ty_Q nm_Q rfl (by decide) k_504 rfl rfl rfl rfl) ?_
  refine SS.cons (so_aload_n hX d_Q_init_145 rfl) ?_
  refine SS.cons (so_bipush hX d_Q_init_146 (by decide)) ?_
  refine SS.cons (so_newI hX d_Q_init_148 rfl k_99 rfl (by decide) nw_0) ?_
  refine SS.cons (so_putF (C := R_Q) (T := T_Q) (ok_A _) hX d_Q_init_150 in_Q ty_Q nm_Q rfl (by decide) k_505 rfl rfl rfl rfl) ?_
  refine SS.cons (so_aload_n hX d_Q_init_153 rfl) ?_
  refine SS.cons (so_bipush hX d_Q_init_154 (by decide)) ?_
  refine SS.cons (so_newI hX d_Q_init_156 rfl k_99 rfl (by decide) nw_0) ?_
  refine SS.cons (so_putF (C := R_Q) (T := T_Q) (ok_A _) hX d_Q_init_158 in_Q ty_Q nm_Q rfl (by decide) k_506 rfl rfl rfl rfl) ?_
  refine SS.cons (so_aload_n hX d_Q_init_161 rfl) ?_
  refine SS.cons (so_bipush hX d_Q_init_162 (by decide)) ?_
  refine SS.cons (so_newI hX d_Q_init_164 rfl k_99 rfl (by decide) nw_0) ?_
  refine SS.cons (so_putF (C := R_Q) (T := T_Q) (ok_A _) hX d_Q_init_166 in_Q ty_Q nm_Q rfl (by decide) k_507 rfl rfl rfl rfl) ?_
  refine SS.cons (so_aload_n hX d_Q_init_169 rfl) ?_
  refine SS.cons (so_bipush hX d_Q_init_170 (by decide)) ?_
  refine SS.cons (so_newI hX d_Q_init_172 rfl k_99 rfl (by decide) nw_0) ?_
  refine SS.cons (so_putF (C := R_Q) (T := T_Q) (ok_A _) hX d_Q_init_174 in_Q ty_Q nm_Q rfl (by decide) k_508 rfl rfl rfl rfl) ?_
  refine SS.cons (so_aload_n hX d_Q_init_177 rfl) ?_
  refine SS.cons (so_bipush hX d_Q_init_178 (by decide)) ?_
  refine SS.cons (so_newI hX d_Q_init_180 rfl k_99 rfl (by decide) nw_0) ?_
  refine SS.cons (so_putF (C := R_Q) (T := T_Q) (ok_A _) hX d_Q_init_182 in_Q ty_Q nm_Q rfl (by decide) k_509 rfl rfl rfl rfl) ?_
  refine SS.cons (so_aload_n hX d_Q_init_185 rfl) ?_
  refine SS.cons (so_bipush hX d_Q_init_186 (by decide)) ?_
  refine SS.cons (so_newI hX d_Q_init_188 rfl k_99 rfl (by decide) nw_0) ?_
  refine SS.cons (so_putF (C := R_Q) (T := T_Q) (ok_A _) hX d_Q_init_190 in_Q ty_Q nm_Q rfl (by decide) k_510 rfl rfl rfl rfl) ?_
  refine SS.cons (so_aload_n hX d_Q_init_193 rfl) ?_
  refine SS.cons (so_bipush hX d_Q_init_194 (by decide)) ?_
  refine SS.cons (so_newI hX d_Q_init_196 rfl k_99 rfl (by decide) nw_0) ?_
  refine SS.cons (so_putF (C := R_Q) (T := T_Q) (ok_A _) hX d_Q_init_198 in_Q ty_Q nm_Q rfl (by decide) k_511 rfl rfl rfl rfl) ?_
  refine SS.cons (so_aload_n hX d_Q_init_201 rfl) ?_
  refine SS.cons (so_sipush hX d_Q_init_202 (by decide)) ?_
  refine SS.cons (so_newI hX d_Q_init_205 rfl k_99 rfl (by decide) nw_0) ?_
  refine SS.cons (so_putF (C := R_Q) (T := T_Q) (ok_A _) hX d_Q_init_207 in_Q ty_Q nm_Q rfl (by decide) k_512 rfl rfl rfl rfl) ?_
  refine SS.cons (so_aload_n hX d_Q_init_210 rfl) ?_
  refine SS.cons (so_iconst hX d_Q_init_211 (by decide)) ?_
  refine SS.cons (so_put (C := R_Q) (T := T_Q) ok_I hX d_Q_init_212 in_Q ty_Q nm_Q rfl (by decide) k_514 rfl rfl) ?_
  refine SS.cons (so_aload_n hX d_Q_init_215 rfl) ?_
  refine SS.cons (so_iconst hX d_Q_init_216 (by decide)) ?_
  refine SS.cons (so_newI hX d_Q_init_217 rfl k_99 rfl (by decide) nw_0) ?_
  refine SS.cons (so_putF (C := R_Q) (T := T_Q) (ok_A _) hX d_Q_init_219 in_Q ty_Q nm_Q rfl (by decide) k_515 rfl rfl rfl rfl) ?_
  refine SS.cons (so_aload_n hX d_Q_init_222 rfl) ?_
  refine SS.cons (so_iconst hX d_Q_init_223 (by decide)) ?_
  refine SS.cons (so_newI hX d_Q_init_224 rfl k_99 rfl (by decide) nw_0) ?_
  refine SS.cons (so_putF (C := R_Q) (T := T_Q) (ok_A _) hX d_Q_init_226 in_Q ty_Q nm_Q rfl (by decide) k_516 rfl rfl rfl rfl) ?_
  refine SS.cons (so_aload_n hX d_Q_init_229 rfl) ?_
  refine SS.cons (so_iload_n hX d_Q_init_230 rfl) ?_
  refine SS.cons (so_iconst hX d_Q_init_231 (by decide)) ?_
  refine SS.cons (so_iand hX d_Q_init_232) ?_
  exact st_if_ne hX d_Q_init_233 (by decide)
theorem b_Q_init_236 {l : Launch} {D : va_G} {cid : Nat → ClassId} {X : CT} {Post : PT} (hX : OK l D cid m_Q_init X Post) : SS l D cid m_Q_init X 236 [o_push (.int 3)] (FR l D cid m_Q_init X 241) := by
  refine SS.cons (so_iconst hX d_Q_init_236 (by decide)) ?_
  exact so_goto hX d_Q_init_237 (by decide)
theorem b_Q_init_240 {l : Launch} {D : va_G} {cid : Nat → ClassId} {X : CT} {Post : PT} (hX : OK l D cid m_Q_init X Post) : SS l D cid m_Q_init X 240 [o_push (.int 5)] (FR l D cid m_Q_init X 241) := by
  refine SS.cons (so_iconst hX d_Q_init_240 (by decide)) ?_
  exact SS.fall
theorem b_Q_init_241 {l : Launch} {D : va_G} {cid : Nat → ClassId} {X : CT} {Post : PT} (hX : OK l D cid m_Q_init X Post) : SS l D cid m_Q_init X 241 [o_put okI 4 0, o_aload 0, o_aload 0, o_getf 4 0, o_push (.int 2), o_binz (fun x y => x / y), o_put okI 4 1] (t_ret Post) := by
  refine SS.cons (so_putF (C := R_Q) (T := T_Q) ok_I hX d_Q_init_241 in_Q ty_Q nm_Q rfl (by decide) k_485 rfl rfl rfl rfl) ?_
  refine SS.cons (so_aload_n hX d_Q_init_244 rfl) ?_
  refine SS.cons (so_aload_n hX d_Q_init_245 rfl) ?_
  refine SS.cons (so_getf (C := R_Q) (T := T_Q) hX d_Q_init_246 in_Q rfl (by decide) k_485) ?_
  refine SS.cons (so_iconst hX d_Q_init_249 (by decide)) ?_
  refine SS.cons (so_idiv hX d_Q_init_250) ?_
  refine SS.cons (so_putF (C := R_Q) (T := T_Q) ok_I hX d_Q_init_251 in_Q ty_Q nm_Q rfl (by decide) k_486 rfl rfl rfl rfl) ?_
  exact st_ret hX d_Q_init_254 rfl
abbrev m_Q_copy : MT := (⟨"GroupLogModel", "copy", "(II)V"⟩, prog_6_method_2_code, 4, (none : Option FieldType), { frames := 0, cells := 0, slots := 0, locals := 0 })
theorem pf_Q_copy : plainFor m_Q_copy.1 = true := by decide +kernel
theorem d_Q_copy_0 : decode prog_6_method_2_code 0 = .ok (.aload_n 0, 1) := by decide +kernel
theorem d_Q_copy_1 : decode prog_6_method_2_code 1 = .ok (.getfield 7, 3) := by decide +kernel
theorem d_Q_copy_4 : decode prog_6_method_2_code 4 = .ok (.iload_n 2, 1) := by decide +kernel
theorem d_Q_copy_5 : decode prog_6_method_2_code 5 = .ok (.aload_n 0, 1) := by decide +kernel
theorem d_Q_copy_6 : decode prog_6_method_2_code 6 = .ok (.getfield 7, 3) := by decide +kernel
theorem d_Q_copy_9 : decode prog_6_method_2_code 9 = .ok (.iload_n 1, 1) := by decide +kernel
theorem d_Q_copy_10 : decode prog_6_method_2_code 10 = .ok (.iaload, 1) := by decide +kernel
theorem d_Q_copy_11 : decode prog_6_method_2_code 11 = .ok (.iastore, 1) := by decide +kernel
theorem d_Q_copy_12 : decode prog_6_method_2_code 12 = .ok (.iconst 0, 1) := by decide +kernel
theorem d_Q_copy_13 : decode prog_6_method_2_code 13 = .ok (.istore_n 3, 1) := by decide +kernel
theorem d_Q_copy_14 : decode prog_6_method_2_code 14 = .ok (.iload_n 3, 1) := by decide +kernel
theorem d_Q_copy_15 : decode prog_6_method_2_code 15 = .ok (.aload_n 0, 1) := by decide +kernel
theorem d_Q_copy_16 : decode prog_6_method_2_code 16 = .ok (.getfield 7, 3) := by decide +kernel
theorem d_Q_copy_19 : decode prog_6_method_2_code 19 = .ok (.iload_n 1, 1) := by decide +kernel
theorem d_Q_copy_20 : decode prog_6_method_2_code 20 = .ok (.iaload, 1) := by decide +kernel
theorem d_Q_copy_21 : decode prog_6_method_2_code 21 = .ok (.if_icmp .ge 75, 3) := by decide +kernel
theorem d_Q_copy_24 : decode prog_6_method_2_code 24 = .ok (.aload_n 0, 1) := by decide +kernel
theorem d_Q_copy_25 : decode prog_6_method_2_code 25 = .ok (.getfield 13, 3) := by decide +kernel
theorem d_Q_copy_28 : decode prog_6_method_2_code 28 = .ok (.bipush 24, 2) := by decide +kernel
theorem d_Q_copy_30 : decode prog_6_method_2_code 30 = .ok (.iload_n 2, 1) := by decide +kernel
theorem d_Q_copy_31 : decode prog_6_method_2_code 31 = .ok (.imul, 1) := by decide +kernel
theorem d_Q_copy_32 : decode prog_6_method_2_code 32 = .ok (.iload_n 3, 1) := by decide +kernel
theorem d_Q_copy_33 : decode prog_6_method_2_code 33 = .ok (.iadd, 1) := by decide +kernel
theorem d_Q_copy_34 : decode prog_6_method_2_code 34 = .ok (.aload_n 0, 1) := by decide +kernel
theorem d_Q_copy_35 : decode prog_6_method_2_code 35 = .ok (.getfield 13, 3) := by decide +kernel
theorem d_Q_copy_38 : decode prog_6_method_2_code 38 = .ok (.bipush 24, 2) := by decide +kernel
theorem d_Q_copy_40 : decode prog_6_method_2_code 40 = .ok (.iload_n 1, 1) := by decide +kernel
theorem d_Q_copy_41 : decode prog_6_method_2_code 41 = .ok (.imul, 1) := by decide +kernel
theorem d_Q_copy_42 : decode prog_6_method_2_code 42 = .ok (.iload_n 3, 1) := by decide +kernel
theorem d_Q_copy_43 : decode prog_6_method_2_code 43 = .ok (.iadd, 1) := by decide +kernel
theorem d_Q_copy_44 : decode prog_6_method_2_code 44 = .ok (.iaload, 1) := by decide +kernel
theorem d_Q_copy_45 : decode prog_6_method_2_code 45 = .ok (.iastore, 1) := by decide +kernel
theorem d_Q_copy_46 : decode prog_6_method_2_code 46 = .ok (.aload_n 0, 1) := by decide +kernel
theorem d_Q_copy_47 : decode prog_6_method_2_code 47 = .ok (.getfield 16, 3) := by decide +kernel
theorem d_Q_copy_50 : decode prog_6_method_2_code 50 = .ok (.bipush 24, 2) := by decide +kernel
theorem d_Q_copy_52 : decode prog_6_method_2_code 52 = .ok (.iload_n 2, 1) := by decide +kernel
theorem d_Q_copy_53 : decode prog_6_method_2_code 53 = .ok (.imul, 1) := by decide +kernel
theorem d_Q_copy_54 : decode prog_6_method_2_code 54 = .ok (.iload_n 3, 1) := by decide +kernel
theorem d_Q_copy_55 : decode prog_6_method_2_code 55 = .ok (.iadd, 1) := by decide +kernel
theorem d_Q_copy_56 : decode prog_6_method_2_code 56 = .ok (.aload_n 0, 1) := by decide +kernel
theorem d_Q_copy_57 : decode prog_6_method_2_code 57 = .ok (.getfield 16, 3) := by decide +kernel
theorem d_Q_copy_60 : decode prog_6_method_2_code 60 = .ok (.bipush 24, 2) := by decide +kernel
theorem d_Q_copy_62 : decode prog_6_method_2_code 62 = .ok (.iload_n 1, 1) := by decide +kernel
theorem d_Q_copy_63 : decode prog_6_method_2_code 63 = .ok (.imul, 1) := by decide +kernel
theorem d_Q_copy_64 : decode prog_6_method_2_code 64 = .ok (.iload_n 3, 1) := by decide +kernel
theorem d_Q_copy_65 : decode prog_6_method_2_code 65 = .ok (.iadd, 1) := by decide +kernel
theorem d_Q_copy_66 : decode prog_6_method_2_code 66 = .ok (.iaload, 1) := by decide +kernel
theorem d_Q_copy_67 : decode prog_6_method_2_code 67 = .ok (.iastore, 1) := by decide +kernel
theorem d_Q_copy_68 : decode prog_6_method_2_code 68 = .ok (.aload_n 0, 1) := by decide +kernel
theorem d_Q_copy_69 : decode prog_6_method_2_code 69 = .ok (.getfield 19, 3) := by decide +kernel
theorem d_Q_copy_72 : decode prog_6_method_2_code 72 = .ok (.bipush 24, 2) := by decide +kernel
theorem d_Q_copy_74 : decode prog_6_method_2_code 74 = .ok (.iload_n 2, 1) := by decide +kernel
theorem d_Q_copy_75 : decode prog_6_method_2_code 75 = .ok (.imul, 1) := by decide +kernel
theorem d_Q_copy_76 : decode prog_6_method_2_code 76 = .ok (.iload_n 3, 1) := by decide +kernel
theorem d_Q_copy_77 : decode prog_6_method_2_code 77 = .ok (.iadd, 1) := by decide +kernel
theorem d_Q_copy_78 : decode prog_6_method_2_code 78 = .ok (.aload_n 0, 1) := by decide +kernel
theorem d_Q_copy_79 : decode prog_6_method_2_code 79 = .ok (.getfield 19, 3) := by decide +kernel
theorem d_Q_copy_82 : decode prog_6_method_2_code 82 = .ok (.bipush 24, 2) := by decide +kernel
theorem d_Q_copy_84 : decode prog_6_method_2_code 84 = .ok (.iload_n 1, 1) := by decide +kernel
theorem d_Q_copy_85 : decode prog_6_method_2_code 85 = .ok (.imul, 1) := by decide +kernel
theorem d_Q_copy_86 : decode prog_6_method_2_code 86 = .ok (.iload_n 3, 1) := by decide +kernel
theorem d_Q_copy_87 : decode prog_6_method_2_code 87 = .ok (.iadd, 1) := by decide +kernel
theorem d_Q_copy_88 : decode prog_6_method_2_code 88 = .ok (.iaload, 1) := by decide +kernel
theorem d_Q_copy_89 : decode prog_6_method_2_code 89 = .ok (.iastore, 1) := by decide +kernel
theorem d_Q_copy_90 : decode prog_6_method_2_code 90 = .ok (.iinc 3 1, 3) := by decide +kernel
theorem d_Q_copy_93 : decode prog_6_method_2_code 93 = .ok (.goto (-79), 3) := by decide +kernel
theorem d_Q_copy_96 : decode prog_6_method_2_code 96 = .ok (.return_, 1) := by decide +kernel
theorem b_Q_copy_0 {l : Launch} {D : va_G} {cid : Nat → ClassId} {X : CT} {Post : PT} (hX : OK l D cid m_Q_copy X Post) : SS l D cid m_Q_copy X 0 [o_aload 0, o_getf 4 2, o_iload 2, o_aload 0, o_getf 4 2, o_iload 1, o_ald 0, o_ast, o_push (.int 0), o_istore 3] (FR l D cid m_Q_copy X 14) := by
  refine SS.cons (so_aload_n hX d_Q_copy_0 rfl) ?_
  refine SS.cons (so_getf (C := R_Q) (T := T_Q) hX d_Q_copy_1 in_Q rfl (by decide) k_487) ?_
  refine SS.cons (so_iload_n hX d_Q_copy_4 rfl) ?_
  refine SS.cons (so_aload_n hX d_Q_copy_5 rfl) ?_
  refine SS.cons (so_getf (C := R_Q) (T := T_Q) hX d_Q_copy_6 in_Q rfl (by decide) k_487) ?_
  refine SS.cons (so_iload_n hX d_Q_copy_9 rfl) ?_
  refine SS.cons (so_iald hX d_Q_copy_10) ?_
  refine SS.cons (so_iast hX d_Q_copy_11) ?_
  refine SS.cons (so_iconst hX d_Q_copy_12 (by decide)) ?_
  refine SS.cons (so_istore_n hX d_Q_copy_13 rfl (by decide)) ?_
  exact SS.fall
theorem b_Q_copy_14 {l : Launch} {D : va_G} {cid : Nat → ClassId} {X : CT} {Post : PT} (hX : OK l D cid m_Q_copy X Post) : SS l D cid m_Q_copy X 14 [o_iload 3, o_aload 0, o_getf 4 2, o_iload 1, o_ald 0] (t_cmp (fun x y => y ≤ x) (FR l D cid m_Q_copy X 96) (FR l D cid m_Q_copy X 24)) := by
  refine SS.cons (so_iload_n hX d_Q_copy_14 rfl) ?_
  refine SS.cons (so_aload_n hX d_Q_copy_15 rfl) ?_
  refine SS.cons (so_getf (C := R_Q) (T := T_Q) hX d_Q_copy_16 in_Q rfl (by decide) k_487) ?_
  refine SS.cons (so_iload_n hX d_Q_copy_19 rfl) ?_
  refine SS.cons (so_iald hX d_Q_copy_20) ?_
  exact st_icmp_ge hX d_Q_copy_21 (by decide)
theorem b_Q_copy_24 {l : Launch} {D : va_G} {cid : Nat → ClassId} {X : CT} {Post : PT} (hX : OK l D cid m_Q_copy X Post) : SS l D cid m_Q_copy X 24 [o_aload 0, o_getf 4 3, o_push (.int 24), o_iload 2, o_bin (fun x y => x * y), o_iload 3, o_bin (fun x y => x + y), o_aload 0, o_getf 4 3, o_push (.int 24), o_iload 1, o_bin (fun x y => x * y), o_iload 3, o_bin (fun x y => x + y), o_ald 0, o_ast, o_aload 0, o_getf 4 4, o_push (.int 24), o_iload 2, o_bin (fun x y => x * y), o_iload 3, o_bin (fun x y => x + y), o_aload 0, o_getf 4 4, o_push (.int 24), o_iload 1, o_bin (fun x y => x * y), o_iload 3, o_bin (fun x y => x + y), o_ald 0, o_ast, o_aload 0, o_getf 4 5, o_push (.int 24), o_iload 2, o_bin (fun x y => x * y), o_iload 3, o_bin (fun x y => x + y), o_aload 0, o_getf 4 5, o_push (.int 24), o_iload 1, o_bin (fun x y => x * y), o_iload 3, o_bin (fun x y => x + y), o_ald 0, o_ast, o_iinc 3 1] (FR l D cid m_Q_copy X 14) := by
  refine SS.cons (so_aload_n hX d_Q_copy_24 rfl) ?_
  refine SS.cons (so_getf (C := R_Q) (T := T_Q) hX d_Q_copy_25 in_Q rfl (by decide) k_488) ?_
  refine SS.cons (so_bipush hX d_Q_copy_28 (by decide)) ?_
  refine SS.cons (so_iload_n hX d_Q_copy_30 rfl) ?_
  refine SS.cons (so_imul hX d_Q_copy_31) ?_
  refine SS.cons (so_iload_n hX d_Q_copy_32 rfl) ?_
  refine SS.cons (so_iadd hX d_Q_copy_33) ?_
  refine SS.cons (so_aload_n hX d_Q_copy_34 rfl) ?_
  refine SS.cons (so_getf (C := R_Q) (T := T_Q) hX d_Q_copy_35 in_Q rfl (by decide) k_488) ?_
  refine SS.cons (so_bipush hX d_Q_copy_38 (by decide)) ?_
  refine SS.cons (so_iload_n hX d_Q_copy_40 rfl) ?_
  refine SS.cons (so_imul hX d_Q_copy_41) ?_
  refine SS.cons (so_iload_n hX d_Q_copy_42 rfl) ?_
  refine SS.cons (so_iadd hX d_Q_copy_43) ?_
  refine SS.cons (so_iald hX d_Q_copy_44) ?_
  refine SS.cons (so_iast hX d_Q_copy_45) ?_
  refine SS.cons (so_aload_n hX d_Q_copy_46 rfl) ?_
  refine SS.cons (so_getf (C := R_Q) (T := T_Q) hX d_Q_copy_47 in_Q rfl (by decide) k_489) ?_
  refine SS.cons (so_bipush hX d_Q_copy_50 (by decide)) ?_
  refine SS.cons (so_iload_n hX d_Q_copy_52 rfl) ?_
  refine SS.cons (so_imul hX d_Q_copy_53) ?_
  refine SS.cons (so_iload_n hX d_Q_copy_54 rfl) ?_
  refine SS.cons (so_iadd hX d_Q_copy_55) ?_
  refine SS.cons (so_aload_n hX d_Q_copy_56 rfl) ?_
  refine SS.cons (so_getf (C := R_Q) (T := T_Q) hX d_Q_copy_57 in_Q rfl (by decide) k_489) ?_
  refine SS.cons (so_bipush hX d_Q_copy_60 (by decide)) ?_
  refine SS.cons (so_iload_n hX d_Q_copy_62 rfl) ?_
  refine SS.cons (so_imul hX d_Q_copy_63) ?_
  refine SS.cons (so_iload_n hX d_Q_copy_64 rfl) ?_
  refine SS.cons (so_iadd hX d_Q_copy_65) ?_
  refine SS.cons (so_iald hX d_Q_copy_66) ?_
  refine SS.cons (so_iast hX d_Q_copy_67) ?_
  refine SS.cons (so_aload_n hX d_Q_copy_68 rfl) ?_
  refine SS.cons (so_getf (C := R_Q) (T := T_Q) hX d_Q_copy_69 in_Q rfl (by decide) k_490) ?_
  refine SS.cons (so_bipush hX d_Q_copy_72 (by decide)) ?_
  refine SS.cons (so_iload_n hX d_Q_copy_74 rfl) ?_
  refine SS.cons (so_imul hX d_Q_copy_75) ?_
  refine SS.cons (so_iload_n hX d_Q_copy_76 rfl) ?_
  refine SS.cons (so_iadd hX d_Q_copy_77) ?_
  refine SS.cons (so_aload_n hX d_Q_copy_78 rfl) ?_
  refine SS.cons (so_getf (C := R_Q) (T := T_Q) hX d_Q_copy_79 in_Q rfl (by decide) k_490) ?_
  refine SS.cons (so_bipush hX d_Q_copy_82 (by decide)) ?_
  refine SS.cons (so_iload_n hX d_Q_copy_84 rfl) ?_
  refine SS.cons (so_imul hX d_Q_copy_85) ?_
  refine SS.cons (so_iload_n hX d_Q_copy_86 rfl) ?_
  refine SS.cons (so_iadd hX d_Q_copy_87) ?_
  refine SS.cons (so_iald hX d_Q_copy_88) ?_
  refine SS.cons (so_iast hX d_Q_copy_89) ?_
  refine SS.cons (so_iinc hX d_Q_copy_90 (by decide) (by decide)) ?_
  exact so_goto hX d_Q_copy_93 (by decide)
theorem b_Q_copy_96 {l : Launch} {D : va_G} {cid : Nat → ClassId} {X : CT} {Post : PT} (hX : OK l D cid m_Q_copy X Post) : SS l D cid m_Q_copy X 96 [] (t_ret Post) := by
  exact st_ret hX d_Q_copy_96 rfl
abbrev m_Q_append : MT := (⟨"GroupLogModel", "append", "(IIII)V"⟩, prog_6_method_3_code, 6, (none : Option FieldType), { frames := 0, cells := 0, slots := 0, locals := 0 })
theorem pf_Q_append : plainFor m_Q_append.1 = true := by decide +kernel
theorem d_Q_append_0 : decode prog_6_method_3_code 0 = .ok (.aload_n 0, 1) := by decide +kernel
theorem d_Q_append_1 : decode prog_6_method_3_code 1 = .ok (.getfield 7, 3) := by decide +kernel
theorem d_Q_append_4 : decode prog_6_method_3_code 4 = .ok (.iload_n 1, 1) := by decide +kernel
theorem d_Q_append_5 : decode prog_6_method_3_code 5 = .ok (.iaload, 1) := by decide +kernel
theorem d_Q_append_6 : decode prog_6_method_3_code 6 = .ok (.bipush 24, 2) := by decide +kernel
theorem d_Q_append_8 : decode prog_6_method_3_code 8 = .ok (.if_icmp .ge 51, 3) := by decide +kernel
theorem d_Q_append_11 : decode prog_6_method_3_code 11 = .ok (.bipush 24, 2) := by decide +kernel
theorem d_Q_append_13 : decode prog_6_method_3_code 13 = .ok (.iload_n 1, 1) := by decide +kernel
theorem d_Q_append_14 : decode prog_6_method_3_code 14 = .ok (.imul, 1) := by decide +kernel
theorem d_Q_append_15 : decode prog_6_method_3_code 15 = .ok (.aload_n 0, 1) := by decide +kernel
theorem d_Q_append_16 : decode prog_6_method_3_code 16 = .ok (.getfield 7, 3) := by decide +kernel
theorem d_Q_append_19 : decode prog_6_method_3_code 19 = .ok (.iload_n 1, 1) := by decide +kernel
theorem d_Q_append_20 : decode prog_6_method_3_code 20 = .ok (.iaload, 1) := by decide +kernel
theorem d_Q_append_21 : decode prog_6_method_3_code 21 = .ok (.iadd, 1) := by decide +kernel
theorem d_Q_append_22 : decode prog_6_method_3_code 22 = .ok (.istore 5, 2) := by decide +kernel
theorem d_Q_append_24 : decode prog_6_method_3_code 24 = .ok (.aload_n 0, 1) := by decide +kernel
theorem d_Q_append_25 : decode prog_6_method_3_code 25 = .ok (.getfield 13, 3) := by decide +kernel
theorem d_Q_append_28 : decode prog_6_method_3_code 28 = .ok (.iload 5, 2) := by decide +kernel
theorem d_Q_append_30 : decode prog_6_method_3_code 30 = .ok (.iload_n 2, 1) := by decide +kernel
theorem d_Q_append_31 : decode prog_6_method_3_code 31 = .ok (.iastore, 1) := by decide +kernel
theorem d_Q_append_32 : decode prog_6_method_3_code 32 = .ok (.aload_n 0, 1) := by decide +kernel
theorem d_Q_append_33 : decode prog_6_method_3_code 33 = .ok (.getfield 16, 3) := by decide +kernel
theorem d_Q_append_36 : decode prog_6_method_3_code 36 = .ok (.iload 5, 2) := by decide +kernel
theorem d_Q_append_38 : decode prog_6_method_3_code 38 = .ok (.iload_n 3, 1) := by decide +kernel
theorem d_Q_append_39 : decode prog_6_method_3_code 39 = .ok (.iastore, 1) := by decide +kernel
theorem d_Q_append_40 : decode prog_6_method_3_code 40 = .ok (.aload_n 0, 1) := by decide +kernel
theorem d_Q_append_41 : decode prog_6_method_3_code 41 = .ok (.getfield 19, 3) := by decide +kernel
theorem d_Q_append_44 : decode prog_6_method_3_code 44 = .ok (.iload 5, 2) := by decide +kernel
theorem d_Q_append_46 : decode prog_6_method_3_code 46 = .ok (.iload 4, 2) := by decide +kernel
theorem d_Q_append_48 : decode prog_6_method_3_code 48 = .ok (.iastore, 1) := by decide +kernel
theorem d_Q_append_49 : decode prog_6_method_3_code 49 = .ok (.aload_n 0, 1) := by decide +kernel
theorem d_Q_append_50 : decode prog_6_method_3_code 50 = .ok (.getfield 7, 3) := by decide +kernel
theorem d_Q_append_53 : decode prog_6_method_3_code 53 = .ok (.iload_n 1, 1) := by decide +kernel
theorem d_Q_append_54 : decode prog_6_method_3_code 54 = .ok (.dup2, 1) := by decide +kernel
theorem d_Q_append_55 : decode prog_6_method_3_code 55 = .ok (.iaload, 1) := by decide +kernel
theorem d_Q_append_56 : decode prog_6_method_3_code 56 = .ok (.iconst 1, 1) := by decide +kernel
theorem d_Q_append_57 : decode prog_6_method_3_code 57 = .ok (.iadd, 1) := by decide +kernel
theorem d_Q_append_58 : decode prog_6_method_3_code 58 = .ok (.iastore, 1) := by decide +kernel
theorem d_Q_append_59 : decode prog_6_method_3_code 59 = .ok (.return_, 1) := by decide +kernel
theorem b_Q_append_0 {l : Launch} {D : va_G} {cid : Nat → ClassId} {X : CT} {Post : PT} (hX : OK l D cid m_Q_append X Post) : SS l D cid m_Q_append X 0 [o_aload 0, o_getf 4 2, o_iload 1, o_ald 0, o_push (.int 24)] (t_cmp (fun x y => y ≤ x) (FR l D cid m_Q_append X 59) (FR l D cid m_Q_append X 11)) := by
  refine SS.cons (so_aload_n hX d_Q_append_0 rfl) ?_
  refine SS.cons (so_getf (C := R_Q) (T := T_Q) hX d_Q_append_1 in_Q rfl (by decide) k_487) ?_
  refine SS.cons (so_iload_n hX d_Q_append_4 rfl) ?_
  refine SS.cons (so_iald hX d_Q_append_5) ?_
  refine SS.cons (so_bipush hX d_Q_append_6 (by decide)) ?_
  exact st_icmp_ge hX d_Q_append_8 (by decide)
theorem b_Q_append_11 {l : Launch} {D : va_G} {cid : Nat → ClassId} {X : CT} {Post : PT} (hX : OK l D cid m_Q_append X Post) : SS l D cid m_Q_append X 11 [o_push (.int 24), o_iload 1, o_bin (fun x y => x * y), o_aload 0, o_getf 4 2, o_iload 1, o_ald 0, o_bin (fun x y => x + y), o_istore 5, o_aload 0, o_getf 4 3, o_iload 5, o_iload 2, o_ast, o_aload 0, o_getf 4 4, o_iload 5, o_iload 3, o_ast, o_aload 0, o_getf 4 5, o_iload 5, o_iload 4, o_ast, o_aload 0, o_getf 4 2, o_iload 1, o_dup2, o_ald 0, o_push (.int 1), o_bin (fun x y => x + y), o_ast] (FR l D cid m_Q_append X 59) := by
  refine SS.cons (so_bipush hX d_Q_append_11 (by decide)) ?_
  refine SS.cons (so_iload_n hX d_Q_append_13 rfl) ?_
  refine SS.cons (so_imul hX d_Q_append_14) ?_
  refine SS.cons (so_aload_n hX d_Q_append_15 rfl) ?_
  refine SS.cons (so_getf (C := R_Q) (T := T_Q) hX d_Q_append_16 in_Q rfl (by decide) k_487) ?_
  refine SS.cons (so_iload_n hX d_Q_append_19 rfl) ?_
  refine SS.cons (so_iald hX d_Q_append_20) ?_
  refine SS.cons (so_iadd hX d_Q_append_21) ?_
  refine SS.cons (so_istore hX d_Q_append_22 (by decide)) ?_
  refine SS.cons (so_aload_n hX d_Q_append_24 rfl) ?_
  refine SS.cons (so_getf (C := R_Q) (T := T_Q) hX d_Q_append_25 in_Q rfl (by decide) k_488) ?_
  refine SS.cons (so_iload hX d_Q_append_28) ?_
  refine SS.cons (so_iload_n hX d_Q_append_30 rfl) ?_
  refine SS.cons (so_iast hX d_Q_append_31) ?_
  refine SS.cons (so_aload_n hX d_Q_append_32 rfl) ?_
  refine SS.cons (so_getf (C := R_Q) (T := T_Q) hX d_Q_append_33 in_Q rfl (by decide) k_489) ?_
  refine SS.cons (so_iload hX d_Q_append_36) ?_
  refine SS.cons (so_iload_n hX d_Q_append_38 rfl) ?_
  refine SS.cons (so_iast hX d_Q_append_39) ?_
  refine SS.cons (so_aload_n hX d_Q_append_40 rfl) ?_
  refine SS.cons (so_getf (C := R_Q) (T := T_Q) hX d_Q_append_41 in_Q rfl (by decide) k_490) ?_
  refine SS.cons (so_iload hX d_Q_append_44) ?_
  refine SS.cons (so_iload hX d_Q_append_46) ?_
  refine SS.cons (so_iast hX d_Q_append_48) ?_
  refine SS.cons (so_aload_n hX d_Q_append_49 rfl) ?_
  refine SS.cons (so_getf (C := R_Q) (T := T_Q) hX d_Q_append_50 in_Q rfl (by decide) k_487) ?_
  refine SS.cons (so_iload_n hX d_Q_append_53 rfl) ?_
  refine SS.cons (so_dup2 hX d_Q_append_54) ?_
  refine SS.cons (so_iald hX d_Q_append_55) ?_
  refine SS.cons (so_iconst hX d_Q_append_56 (by decide)) ?_
  refine SS.cons (so_iadd hX d_Q_append_57) ?_
  refine SS.cons (so_iast hX d_Q_append_58) ?_
  exact SS.fall
theorem b_Q_append_59 {l : Launch} {D : va_G} {cid : Nat → ClassId} {X : CT} {Post : PT} (hX : OK l D cid m_Q_append X Post) : SS l D cid m_Q_append X 59 [] (t_ret Post) := by
  exact st_ret hX d_Q_append_59 rfl
abbrev m_Q_sum : MT := (⟨"GroupLogModel", "sum", "(II)I"⟩, prog_6_method_4_code, 5, (some FieldType.int), { frames := 0, cells := 0, slots := 0, locals := 0 })
theorem pf_Q_sum : plainFor m_Q_sum.1 = true := by decide +kernel
theorem d_Q_sum_0 : decode prog_6_method_4_code 0 = .ok (.iconst 0, 1) := by decide +kernel
theorem d_Q_sum_1 : decode prog_6_method_4_code 1 = .ok (.istore_n 3, 1) := by decide +kernel
theorem d_Q_sum_2 : decode prog_6_method_4_code 2 = .ok (.iconst 0, 1) := by decide +kernel
theorem d_Q_sum_3 : decode prog_6_method_4_code 3 = .ok (.istore 4, 2) := by decide +kernel
theorem d_Q_sum_5 : decode prog_6_method_4_code 5 = .ok (.iload 4, 2) := by decide +kernel
theorem d_Q_sum_7 : decode prog_6_method_4_code 7 = .ok (.iload_n 2, 1) := by decide +kernel
theorem d_Q_sum_8 : decode prog_6_method_4_code 8 = .ok (.if_icmp .ge 50, 3) := by decide +kernel
theorem d_Q_sum_11 : decode prog_6_method_4_code 11 = .ok (.iload 4, 2) := by decide +kernel
theorem d_Q_sum_13 : decode prog_6_method_4_code 13 = .ok (.aload_n 0, 1) := by decide +kernel
theorem d_Q_sum_14 : decode prog_6_method_4_code 14 = .ok (.getfield 7, 3) := by decide +kernel
theorem d_Q_sum_17 : decode prog_6_method_4_code 17 = .ok (.iload_n 1, 1) := by decide +kernel
theorem d_Q_sum_18 : decode prog_6_method_4_code 18 = .ok (.iaload, 1) := by decide +kernel
theorem d_Q_sum_19 : decode prog_6_method_4_code 19 = .ok (.if_icmp .ge 39, 3) := by decide +kernel
theorem d_Q_sum_22 : decode prog_6_method_4_code 22 = .ok (.iconst 3, 1) := by decide +kernel
theorem d_Q_sum_23 : decode prog_6_method_4_code 23 = .ok (.iload_n 3, 1) := by decide +kernel
theorem d_Q_sum_24 : decode prog_6_method_4_code 24 = .ok (.imul, 1) := by decide +kernel
theorem d_Q_sum_25 : decode prog_6_method_4_code 25 = .ok (.aload_n 0, 1) := by decide +kernel
theorem d_Q_sum_26 : decode prog_6_method_4_code 26 = .ok (.getfield 19, 3) := by decide +kernel
theorem d_Q_sum_29 : decode prog_6_method_4_code 29 = .ok (.bipush 24, 2) := by decide +kernel
theorem d_Q_sum_31 : decode prog_6_method_4_code 31 = .ok (.iload_n 1, 1) := by decide +kernel
theorem d_Q_sum_32 : decode prog_6_method_4_code 32 = .ok (.imul, 1) := by decide +kernel
theorem d_Q_sum_33 : decode prog_6_method_4_code 33 = .ok (.iload 4, 2) := by decide +kernel
theorem d_Q_sum_35 : decode prog_6_method_4_code 35 = .ok (.iadd, 1) := by decide +kernel
theorem d_Q_sum_36 : decode prog_6_method_4_code 36 = .ok (.iaload, 1) := by decide +kernel
theorem d_Q_sum_37 : decode prog_6_method_4_code 37 = .ok (.iadd, 1) := by decide +kernel
theorem d_Q_sum_38 : decode prog_6_method_4_code 38 = .ok (.aload_n 0, 1) := by decide +kernel
theorem d_Q_sum_39 : decode prog_6_method_4_code 39 = .ok (.getfield 13, 3) := by decide +kernel
theorem d_Q_sum_42 : decode prog_6_method_4_code 42 = .ok (.bipush 24, 2) := by decide +kernel
theorem d_Q_sum_44 : decode prog_6_method_4_code 44 = .ok (.iload_n 1, 1) := by decide +kernel
theorem d_Q_sum_45 : decode prog_6_method_4_code 45 = .ok (.imul, 1) := by decide +kernel
theorem d_Q_sum_46 : decode prog_6_method_4_code 46 = .ok (.iload 4, 2) := by decide +kernel
theorem d_Q_sum_48 : decode prog_6_method_4_code 48 = .ok (.iadd, 1) := by decide +kernel
theorem d_Q_sum_49 : decode prog_6_method_4_code 49 = .ok (.iaload, 1) := by decide +kernel
theorem d_Q_sum_50 : decode prog_6_method_4_code 50 = .ok (.iadd, 1) := by decide +kernel
theorem d_Q_sum_51 : decode prog_6_method_4_code 51 = .ok (.istore_n 3, 1) := by decide +kernel
theorem d_Q_sum_52 : decode prog_6_method_4_code 52 = .ok (.iinc 4 1, 3) := by decide +kernel
theorem d_Q_sum_55 : decode prog_6_method_4_code 55 = .ok (.goto (-50), 3) := by decide +kernel
theorem d_Q_sum_58 : decode prog_6_method_4_code 58 = .ok (.iload_n 3, 1) := by decide +kernel
theorem d_Q_sum_59 : decode prog_6_method_4_code 59 = .ok (.ireturn, 1) := by decide +kernel
theorem b_Q_sum_0 {l : Launch} {D : va_G} {cid : Nat → ClassId} {X : CT} {Post : PT} (hX : OK l D cid m_Q_sum X Post) : SS l D cid m_Q_sum X 0 [o_push (.int 0), o_istore 3, o_push (.int 0), o_istore 4] (FR l D cid m_Q_sum X 5) := by
  refine SS.cons (so_iconst hX d_Q_sum_0 (by decide)) ?_
  refine SS.cons (so_istore_n hX d_Q_sum_1 rfl (by decide)) ?_
  refine SS.cons (so_iconst hX d_Q_sum_2 (by decide)) ?_
  refine SS.cons (so_istore hX d_Q_sum_3 (by decide)) ?_
  exact SS.fall
theorem b_Q_sum_5 {l : Launch} {D : va_G} {cid : Nat → ClassId} {X : CT} {Post : PT} (hX : OK l D cid m_Q_sum X Post) : SS l D cid m_Q_sum X 5 [o_iload 4, o_iload 2] (t_cmp (fun x y => y ≤ x) (FR l D cid m_Q_sum X 58) (FR l D cid m_Q_sum X 11)) := by
  refine SS.cons (so_iload hX d_Q_sum_5) ?_
  refine SS.cons (so_iload_n hX d_Q_sum_7 rfl) ?_
  exact st_icmp_ge hX d_Q_sum_8 (by decide)
theorem b_Q_sum_11 {l : Launch} {D : va_G} {cid : Nat → ClassId} {X : CT} {Post : PT} (hX : OK l D cid m_Q_sum X Post) : SS l D cid m_Q_sum X 11 [o_iload 4, o_aload 0, o_getf 4 2, o_iload 1, o_ald 0] (t_cmp (fun x y => y ≤ x) (FR l D cid m_Q_sum X 58) (FR l D cid m_Q_sum X 22)) := by
  refine SS.cons (so_iload hX d_Q_sum_11) ?_
  refine SS.cons (so_aload_n hX d_Q_sum_13 rfl) ?_
  refine SS.cons (so_getf (C := R_Q) (T := T_Q) hX d_Q_sum_14 in_Q rfl (by decide) k_487) ?_
  refine SS.cons (so_iload_n hX d_Q_sum_17 rfl) ?_
  refine SS.cons (so_iald hX d_Q_sum_18) ?_
  exact st_icmp_ge hX d_Q_sum_19 (by decide)
theorem b_Q_sum_22 {l : Launch} {D : va_G} {cid : Nat → ClassId} {X : CT} {Post : PT} (hX : OK l D cid m_Q_sum X Post) : SS l D cid m_Q_sum X 22 [o_push (.int 3), o_iload 3, o_bin (fun x y => x * y), o_aload 0, o_getf 4 5, o_push (.int 24), o_iload 1, o_bin (fun x y => x * y), o_iload 4, o_bin (fun x y => x + y), o_ald 0, o_bin (fun x y => x + y), o_aload 0, o_getf 4 3, o_push (.int 24), o_iload 1, o_bin (fun x y => x * y), o_iload 4, o_bin (fun x y => x + y), o_ald 0, o_bin (fun x y => x + y), o_istore 3, o_iinc 4 1] (FR l D cid m_Q_sum X 5) := by
  refine SS.cons (so_iconst hX d_Q_sum_22 (by decide)) ?_
  refine SS.cons (so_iload_n hX d_Q_sum_23 rfl) ?_
  refine SS.cons (so_imul hX d_Q_sum_24) ?_
  refine SS.cons (so_aload_n hX d_Q_sum_25 rfl) ?_
  refine SS.cons (so_getf (C := R_Q) (T := T_Q) hX d_Q_sum_26 in_Q rfl (by decide) k_490) ?_
  refine SS.cons (so_bipush hX d_Q_sum_29 (by decide)) ?_
  refine SS.cons (so_iload_n hX d_Q_sum_31 rfl) ?_
  refine SS.cons (so_imul hX d_Q_sum_32) ?_
  refine SS.cons (so_iload hX d_Q_sum_33) ?_
  refine SS.cons (so_iadd hX d_Q_sum_35) ?_
  refine SS.cons (so_iald hX d_Q_sum_36) ?_
  refine SS.cons (so_iadd hX d_Q_sum_37) ?_
  refine SS.cons (so_aload_n hX d_Q_sum_38 rfl) ?_
  refine SS.cons (so_getf (C := R_Q) (T := T_Q) hX d_Q_sum_39 in_Q rfl (by decide) k_488) ?_
  refine SS.cons (so_bipush hX d_Q_sum_42 (by decide)) ?_
  refine SS.cons (so_iload_n hX d_Q_sum_44 rfl) ?_
  refine SS.cons (so_imul hX d_Q_sum_45) ?_
  refine SS.cons (so_iload hX d_Q_sum_46) ?_
  refine SS.cons (so_iadd hX d_Q_sum_48) ?_
  refine SS.cons (so_iald hX d_Q_sum_49) ?_
  refine SS.cons (so_iadd hX d_Q_sum_50) ?_
  refine SS.cons (so_istore_n hX d_Q_sum_51 rfl (by decide)) ?_
  refine SS.cons (so_iinc hX d_Q_sum_52 (by decide) (by decide)) ?_
  exact so_goto hX d_Q_sum_55 (by decide)
theorem b_Q_sum_58 {l : Launch} {D : va_G} {cid : Nat → ClassId} {X : CT} {Post : PT} (hX : OK l D cid m_Q_sum X Post) : SS l D cid m_Q_sum X 58 [o_iload 3] (t_iret Post) := by
  refine SS.cons (so_iload_n hX d_Q_sum_58 rfl) ?_
  exact st_iret hX d_Q_sum_59 rfl
abbrev m_Q_answerTo : MT := (⟨"GroupLogModel", "answerTo", "(II)V"⟩, prog_6_method_5_code, 4, (none : Option FieldType), { frames := 1, cells := 0, slots := 0, locals := 24 })
theorem pf_Q_answerTo : plainFor m_Q_answerTo.1 = true := by decide +kernel
theorem d_Q_answerTo_0 : decode prog_6_method_5_code 0 = .ok (.aload_n 0, 1) := by decide +kernel
theorem d_Q_answerTo_1 : decode prog_6_method_5_code 1 = .ok (.getfield 13, 3) := by decide +kernel
theorem d_Q_answerTo_4 : decode prog_6_method_5_code 4 = .ok (.bipush 24, 2) := by decide +kernel
theorem d_Q_answerTo_6 : decode prog_6_method_5_code 6 = .ok (.iload_n 1, 1) := by decide +kernel
theorem d_Q_answerTo_7 : decode prog_6_method_5_code 7 = .ok (.imul, 1) := by decide +kernel
theorem d_Q_answerTo_8 : decode prog_6_method_5_code 8 = .ok (.iload_n 2, 1) := by decide +kernel
theorem d_Q_answerTo_9 : decode prog_6_method_5_code 9 = .ok (.iadd, 1) := by decide +kernel
theorem d_Q_answerTo_10 : decode prog_6_method_5_code 10 = .ok (.iaload, 1) := by decide +kernel
theorem d_Q_answerTo_11 : decode prog_6_method_5_code 11 = .ok (.istore_n 3, 1) := by decide +kernel
theorem d_Q_answerTo_12 : decode prog_6_method_5_code 12 = .ok (.aload_n 0, 1) := by decide +kernel
theorem d_Q_answerTo_13 : decode prog_6_method_5_code 13 = .ok (.getfield 16, 3) := by decide +kernel
theorem d_Q_answerTo_16 : decode prog_6_method_5_code 16 = .ok (.bipush 24, 2) := by decide +kernel
theorem d_Q_answerTo_18 : decode prog_6_method_5_code 18 = .ok (.iload_n 1, 1) := by decide +kernel
theorem d_Q_answerTo_19 : decode prog_6_method_5_code 19 = .ok (.imul, 1) := by decide +kernel
theorem d_Q_answerTo_20 : decode prog_6_method_5_code 20 = .ok (.iload_n 2, 1) := by decide +kernel
theorem d_Q_answerTo_21 : decode prog_6_method_5_code 21 = .ok (.iadd, 1) := by decide +kernel
theorem d_Q_answerTo_22 : decode prog_6_method_5_code 22 = .ok (.iaload, 1) := by decide +kernel
theorem d_Q_answerTo_23 : decode prog_6_method_5_code 23 = .ok (.aload_n 0, 1) := by decide +kernel
theorem d_Q_answerTo_24 : decode prog_6_method_5_code 24 = .ok (.getfield 93, 3) := by decide +kernel
theorem d_Q_answerTo_27 : decode prog_6_method_5_code 27 = .ok (.iload_n 3, 1) := by decide +kernel
theorem d_Q_answerTo_28 : decode prog_6_method_5_code 28 = .ok (.iaload, 1) := by decide +kernel
theorem d_Q_answerTo_29 : decode prog_6_method_5_code 29 = .ok (.if_icmp .lt 34, 3) := by decide +kernel
theorem d_Q_answerTo_32 : decode prog_6_method_5_code 32 = .ok (.aload_n 0, 1) := by decide +kernel
theorem d_Q_answerTo_33 : decode prog_6_method_5_code 33 = .ok (.getfield 93, 3) := by decide +kernel
theorem d_Q_answerTo_36 : decode prog_6_method_5_code 36 = .ok (.iload_n 3, 1) := by decide +kernel
theorem d_Q_answerTo_37 : decode prog_6_method_5_code 37 = .ok (.aload_n 0, 1) := by decide +kernel
theorem d_Q_answerTo_38 : decode prog_6_method_5_code 38 = .ok (.getfield 16, 3) := by decide +kernel
theorem d_Q_answerTo_41 : decode prog_6_method_5_code 41 = .ok (.bipush 24, 2) := by decide +kernel
theorem d_Q_answerTo_43 : decode prog_6_method_5_code 43 = .ok (.iload_n 1, 1) := by decide +kernel
theorem d_Q_answerTo_44 : decode prog_6_method_5_code 44 = .ok (.imul, 1) := by decide +kernel
theorem d_Q_answerTo_45 : decode prog_6_method_5_code 45 = .ok (.iload_n 2, 1) := by decide +kernel
theorem d_Q_answerTo_46 : decode prog_6_method_5_code 46 = .ok (.iadd, 1) := by decide +kernel
theorem d_Q_answerTo_47 : decode prog_6_method_5_code 47 = .ok (.iaload, 1) := by decide +kernel
theorem d_Q_answerTo_48 : decode prog_6_method_5_code 48 = .ok (.iastore, 1) := by decide +kernel
theorem d_Q_answerTo_49 : decode prog_6_method_5_code 49 = .ok (.aload_n 0, 1) := by decide +kernel
theorem d_Q_answerTo_50 : decode prog_6_method_5_code 50 = .ok (.getfield 96, 3) := by decide +kernel
theorem d_Q_answerTo_53 : decode prog_6_method_5_code 53 = .ok (.iload_n 3, 1) := by decide +kernel
theorem d_Q_answerTo_54 : decode prog_6_method_5_code 54 = .ok (.aload_n 0, 1) := by decide +kernel
theorem d_Q_answerTo_55 : decode prog_6_method_5_code 55 = .ok (.iload_n 1, 1) := by decide +kernel
theorem d_Q_answerTo_56 : decode prog_6_method_5_code 56 = .ok (.iload_n 2, 1) := by decide +kernel
theorem d_Q_answerTo_57 : decode prog_6_method_5_code 57 = .ok (.iconst 1, 1) := by decide +kernel
theorem d_Q_answerTo_58 : decode prog_6_method_5_code 58 = .ok (.iadd, 1) := by decide +kernel
theorem d_Q_answerTo_59 : decode prog_6_method_5_code 59 = .ok (.invokevirtual 105, 3) := by decide +kernel
theorem d_Q_answerTo_62 : decode prog_6_method_5_code 62 = .ok (.iastore, 1) := by decide +kernel
theorem d_Q_answerTo_63 : decode prog_6_method_5_code 63 = .ok (.return_, 1) := by decide +kernel
theorem b_Q_answerTo_0 {l : Launch} {D : va_G} {cid : Nat → ClassId} {X : CT} {Post : PT} (hX : OK l D cid m_Q_answerTo X Post) : SS l D cid m_Q_answerTo X 0 [o_aload 0, o_getf 4 3, o_push (.int 24), o_iload 1, o_bin (fun x y => x * y), o_iload 2, o_bin (fun x y => x + y), o_ald 0, o_istore 3, o_aload 0, o_getf 4 4, o_push (.int 24), o_iload 1, o_bin (fun x y => x * y), o_iload 2, o_bin (fun x y => x + y), o_ald 0, o_aload 0, o_getf 4 30, o_iload 3, o_ald 0] (t_cmp (fun x y => x < y) (FR l D cid m_Q_answerTo X 63) (FR l D cid m_Q_answerTo X 32)) := by
  refine SS.cons (so_aload_n hX d_Q_answerTo_0 rfl) ?_
  refine SS.cons (so_getf (C := R_Q) (T := T_Q) hX d_Q_answerTo_1 in_Q rfl (by decide) k_488) ?_
  refine SS.cons (so_bipush hX d_Q_answerTo_4 (by decide)) ?_
  refine SS.cons (so_iload_n hX d_Q_answerTo_6 rfl) ?_
  refine SS.cons (so_imul hX d_Q_answerTo_7) ?_
  refine SS.cons (so_iload_n hX d_Q_answerTo_8 rfl) ?_
  refine SS.cons (so_iadd hX d_Q_answerTo_9) ?_
  refine SS.cons (so_iald hX d_Q_answerTo_10) ?_
  refine SS.cons (so_istore_n hX d_Q_answerTo_11 rfl (by decide)) ?_
  refine SS.cons (so_aload_n hX d_Q_answerTo_12 rfl) ?_
  refine SS.cons (so_getf (C := R_Q) (T := T_Q) hX d_Q_answerTo_13 in_Q rfl (by decide) k_489) ?_
  refine SS.cons (so_bipush hX d_Q_answerTo_16 (by decide)) ?_
  refine SS.cons (so_iload_n hX d_Q_answerTo_18 rfl) ?_
  refine SS.cons (so_imul hX d_Q_answerTo_19) ?_
  refine SS.cons (so_iload_n hX d_Q_answerTo_20 rfl) ?_
  refine SS.cons (so_iadd hX d_Q_answerTo_21) ?_
  refine SS.cons (so_iald hX d_Q_answerTo_22) ?_
  refine SS.cons (so_aload_n hX d_Q_answerTo_23 rfl) ?_
  refine SS.cons (so_getf (C := R_Q) (T := T_Q) hX d_Q_answerTo_24 in_Q rfl (by decide) k_515) ?_
  refine SS.cons (so_iload_n hX d_Q_answerTo_27 rfl) ?_
  refine SS.cons (so_iald hX d_Q_answerTo_28) ?_
  exact st_icmp_lt hX d_Q_answerTo_29 (by decide)
theorem b_Q_answerTo_32 {l : Launch} {D : va_G} {cid : Nat → ClassId} {X : CT} {Post : PT} (hX : OK l D cid m_Q_answerTo X Post) : SS l D cid m_Q_answerTo X 32 [o_aload 0, o_getf 4 30, o_iload 3, o_aload 0, o_getf 4 4, o_push (.int 24), o_iload 1, o_bin (fun x y => x * y), o_iload 2, o_bin (fun x y => x + y), o_ald 0, o_ast, o_aload 0, o_getf 4 31, o_iload 3, o_aload 0, o_iload 1, o_iload 2, o_push (.int 1), o_bin (fun x y => x + y), o_callV l D cid m_Q_sum 4 2, o_ast] (FR l D cid m_Q_answerTo X 63) := by
  refine SS.cons (so_aload_n hX d_Q_answerTo_32 rfl) ?_
  refine SS.cons (so_getf (C := R_Q) (T := T_Q) hX d_Q_answerTo_33 in_Q rfl (by decide) k_515) ?_
  refine SS.cons (so_iload_n hX d_Q_answerTo_36 rfl) ?_
  refine SS.cons (so_aload_n hX d_Q_answerTo_37 rfl) ?_
  refine SS.cons (so_getf (C := R_Q) (T := T_Q) hX d_Q_answerTo_38 in_Q rfl (by decide) k_489) ?_
  refine SS.cons (so_bipush hX d_Q_answerTo_41 (by decide)) ?_
  refine SS.cons (so_iload_n hX d_Q_answerTo_43 rfl) ?_
  refine SS.cons (so_imul hX d_Q_answerTo_44) ?_
  refine SS.cons (so_iload_n hX d_Q_answerTo_45 rfl) ?_
  refine SS.cons (so_iadd hX d_Q_answerTo_46) ?_
  refine SS.cons (so_iald hX d_Q_answerTo_47) ?_
  refine SS.cons (so_iast hX d_Q_answerTo_48) ?_
  refine SS.cons (so_aload_n hX d_Q_answerTo_49 rfl) ?_
  refine SS.cons (so_getf (C := R_Q) (T := T_Q) hX d_Q_answerTo_50 in_Q rfl (by decide) k_516) ?_
  refine SS.cons (so_iload_n hX d_Q_answerTo_53 rfl) ?_
  refine SS.cons (so_aload_n hX d_Q_answerTo_54 rfl) ?_
  refine SS.cons (so_iload_n hX d_Q_answerTo_55 rfl) ?_
  refine SS.cons (so_iload_n hX d_Q_answerTo_56 rfl) ?_
  refine SS.cons (so_iconst hX d_Q_answerTo_57 (by decide)) ?_
  refine SS.cons (so_iadd hX d_Q_answerTo_58) ?_
  refine SS.cons (so_callV (M' := m_Q_sum) (T := T_Q) hX d_Q_answerTo_59 rfl k_634 k_631 k_633 k_33 k_48 pf_Q_sum (by decide) (by decide +kernel) ⟨by decide, by decide⟩) ?_
  refine SS.cons (so_iast hX d_Q_answerTo_62) ?_
  exact SS.fall
theorem b_Q_answerTo_63 {l : Launch} {D : va_G} {cid : Nat → ClassId} {X : CT} {Post : PT} (hX : OK l D cid m_Q_answerTo X Post) : SS l D cid m_Q_answerTo X 63 [] (t_ret Post) := by
  exact st_ret hX d_Q_answerTo_63 rfl
abbrev m_Q_isReplica : MT := (⟨"GroupLogModel", "isReplica", "(I)Z"⟩, prog_6_method_6_code, 2, (some FieldType.boolean), { frames := 0, cells := 0, slots := 0, locals := 0 })
theorem pf_Q_isReplica : plainFor m_Q_isReplica.1 = true := by decide +kernel
theorem d_Q_isReplica_0 : decode prog_6_method_6_code 0 = .ok (.iload_n 1, 1) := by decide +kernel
theorem d_Q_isReplica_1 : decode prog_6_method_6_code 1 = .ok (.ifCond .lt 15, 3) := by decide +kernel
theorem d_Q_isReplica_4 : decode prog_6_method_6_code 4 = .ok (.iload_n 1, 1) := by decide +kernel
theorem d_Q_isReplica_5 : decode prog_6_method_6_code 5 = .ok (.aload_n 0, 1) := by decide +kernel
theorem d_Q_isReplica_6 : decode prog_6_method_6_code 6 = .ok (.getfield 99, 3) := by decide +kernel
theorem d_Q_isReplica_9 : decode prog_6_method_6_code 9 = .ok (.if_icmp .ge 7, 3) := by decide +kernel
theorem d_Q_isReplica_12 : decode prog_6_method_6_code 12 = .ok (.iconst 1, 1) := by decide +kernel
theorem d_Q_isReplica_13 : decode prog_6_method_6_code 13 = .ok (.goto 4, 3) := by decide +kernel
theorem d_Q_isReplica_16 : decode prog_6_method_6_code 16 = .ok (.iconst 0, 1) := by decide +kernel
theorem d_Q_isReplica_17 : decode prog_6_method_6_code 17 = .ok (.ireturn, 1) := by decide +kernel
theorem b_Q_isReplica_0 {l : Launch} {D : va_G} {cid : Nat → ClassId} {X : CT} {Post : PT} (hX : OK l D cid m_Q_isReplica X Post) : SS l D cid m_Q_isReplica X 0 [o_iload 1] (t_if (fun x => x < 0) (FR l D cid m_Q_isReplica X 16) (FR l D cid m_Q_isReplica X 4)) := by
  refine SS.cons (so_iload_n hX d_Q_isReplica_0 rfl) ?_
  exact st_if_lt hX d_Q_isReplica_1 (by decide)
theorem b_Q_isReplica_4 {l : Launch} {D : va_G} {cid : Nat → ClassId} {X : CT} {Post : PT} (hX : OK l D cid m_Q_isReplica X Post) : SS l D cid m_Q_isReplica X 4 [o_iload 1, o_aload 0, o_getf 4 0] (t_cmp (fun x y => y ≤ x) (FR l D cid m_Q_isReplica X 16) (FR l D cid m_Q_isReplica X 12)) := by
  refine SS.cons (so_iload_n hX d_Q_isReplica_4 rfl) ?_
  refine SS.cons (so_aload_n hX d_Q_isReplica_5 rfl) ?_
  refine SS.cons (so_getf (C := R_Q) (T := T_Q) hX d_Q_isReplica_6 in_Q rfl (by decide) k_485) ?_
  exact st_icmp_ge hX d_Q_isReplica_9 (by decide)
theorem b_Q_isReplica_12 {l : Launch} {D : va_G} {cid : Nat → ClassId} {X : CT} {Post : PT} (hX : OK l D cid m_Q_isReplica X Post) : SS l D cid m_Q_isReplica X 12 [o_push (.int 1)] (FR l D cid m_Q_isReplica X 17) := by
  refine SS.cons (so_iconst hX d_Q_isReplica_12 (by decide)) ?_
  exact so_goto hX d_Q_isReplica_13 (by decide)
theorem b_Q_isReplica_16 {l : Launch} {D : va_G} {cid : Nat → ClassId} {X : CT} {Post : PT} (hX : OK l D cid m_Q_isReplica X Post) : SS l D cid m_Q_isReplica X 16 [o_push (.int 0)] (FR l D cid m_Q_isReplica X 17) := by
  refine SS.cons (so_iconst hX d_Q_isReplica_16 (by decide)) ?_
  exact SS.fall
theorem b_Q_isReplica_17 {l : Launch} {D : va_G} {cid : Nat → ClassId} {X : CT} {Post : PT} (hX : OK l D cid m_Q_isReplica X Post) : SS l D cid m_Q_isReplica X 17 [] (t_zret Post) := by
  exact st_zret hX d_Q_isReplica_17 rfl
abbrev m_Q_leads : MT := (⟨"GroupLogModel", "leads", "(I)Z"⟩, prog_6_method_7_code, 2, (some FieldType.boolean), { frames := 0, cells := 0, slots := 0, locals := 0 })
theorem pf_Q_leads : plainFor m_Q_leads.1 = true := by decide +kernel
theorem d_Q_leads_0 : decode prog_6_method_7_code 0 = .ok (.aload_n 0, 1) := by decide +kernel
theorem d_Q_leads_1 : decode prog_6_method_7_code 1 = .ok (.getfield 22, 3) := by decide +kernel
theorem d_Q_leads_4 : decode prog_6_method_7_code 4 = .ok (.iload_n 1, 1) := by decide +kernel
theorem d_Q_leads_5 : decode prog_6_method_7_code 5 = .ok (.iaload, 1) := by decide +kernel
theorem d_Q_leads_6 : decode prog_6_method_7_code 6 = .ok (.ifCond .ne 22, 3) := by decide +kernel
theorem d_Q_leads_9 : decode prog_6_method_7_code 9 = .ok (.aload_n 0, 1) := by decide +kernel
theorem d_Q_leads_10 : decode prog_6_method_7_code 10 = .ok (.getfield 25, 3) := by decide +kernel
theorem d_Q_leads_13 : decode prog_6_method_7_code 13 = .ok (.iload_n 1, 1) := by decide +kernel
theorem d_Q_leads_14 : decode prog_6_method_7_code 14 = .ok (.iaload, 1) := by decide +kernel
theorem d_Q_leads_15 : decode prog_6_method_7_code 15 = .ok (.aload_n 0, 1) := by decide +kernel
theorem d_Q_leads_16 : decode prog_6_method_7_code 16 = .ok (.getfield 99, 3) := by decide +kernel
theorem d_Q_leads_19 : decode prog_6_method_7_code 19 = .ok (.irem, 1) := by decide +kernel
theorem d_Q_leads_20 : decode prog_6_method_7_code 20 = .ok (.iload_n 1, 1) := by decide +kernel
theorem d_Q_leads_21 : decode prog_6_method_7_code 21 = .ok (.if_icmp .ne 7, 3) := by decide +kernel
theorem d_Q_leads_24 : decode prog_6_method_7_code 24 = .ok (.iconst 1, 1) := by decide +kernel
theorem d_Q_leads_25 : decode prog_6_method_7_code 25 = .ok (.goto 4, 3) := by decide +kernel
theorem d_Q_leads_28 : decode prog_6_method_7_code 28 = .ok (.iconst 0, 1) := by decide +kernel
theorem d_Q_leads_29 : decode prog_6_method_7_code 29 = .ok (.ireturn, 1) := by decide +kernel
theorem b_Q_leads_0 {l : Launch} {D : va_G} {cid : Nat → ClassId} {X : CT} {Post : PT} (hX : OK l D cid m_Q_leads X Post) : SS l D cid m_Q_leads X 0 [o_aload 0, o_getf 4 6, o_iload 1, o_ald 0] (t_if (fun x => ¬ x = 0) (FR l D cid m_Q_leads X 28) (FR l D cid m_Q_leads X 9)) := by
  refine SS.cons (so_aload_n hX d_Q_leads_0 rfl) ?_
  refine SS.cons (so_getf (C := R_Q) (T := T_Q) hX d_Q_leads_1 in_Q rfl (by decide) k_491) ?_
  refine SS.cons (so_iload_n hX d_Q_leads_4 rfl) ?_
  refine SS.cons (so_iald hX d_Q_leads_5) ?_
  exact st_if_ne hX d_Q_leads_6 (by decide)
theorem b_Q_leads_9 {l : Launch} {D : va_G} {cid : Nat → ClassId} {X : CT} {Post : PT} (hX : OK l D cid m_Q_leads X Post) : SS l D cid m_Q_leads X 9 [o_aload 0, o_getf 4 7, o_iload 1, o_ald 0, o_aload 0, o_getf 4 0, o_binz (fun x y => x - x / y * y), o_iload 1] (t_cmp (fun x y => ¬ x = y) (FR l D cid m_Q_leads X 28) (FR l D cid m_Q_leads X 24)) := by
  refine SS.cons (so_aload_n hX d_Q_leads_9 rfl) ?_
  refine SS.cons (so_getf (C := R_Q) (T := T_Q) hX d_Q_leads_10 in_Q rfl (by decide) k_492) ?_
  refine SS.cons (so_iload_n hX d_Q_leads_13 rfl) ?_
  refine SS.cons (so_iald hX d_Q_leads_14) ?_
  refine SS.cons (so_aload_n hX d_Q_leads_15 rfl) ?_
  refine SS.cons (so_getf (C := R_Q) (T := T_Q) hX d_Q_leads_16 in_Q rfl (by decide) k_485) ?_
  refine SS.cons (so_irem hX d_Q_leads_19) ?_
  refine SS.cons (so_iload_n hX d_Q_leads_20 rfl) ?_
  exact st_icmp_ne hX d_Q_leads_21 (by decide)
theorem b_Q_leads_24 {l : Launch} {D : va_G} {cid : Nat → ClassId} {X : CT} {Post : PT} (hX : OK l D cid m_Q_leads X Post) : SS l D cid m_Q_leads X 24 [o_push (.int 1)] (FR l D cid m_Q_leads X 29) := by
  refine SS.cons (so_iconst hX d_Q_leads_24 (by decide)) ?_
  exact so_goto hX d_Q_leads_25 (by decide)
theorem b_Q_leads_28 {l : Launch} {D : va_G} {cid : Nat → ClassId} {X : CT} {Post : PT} (hX : OK l D cid m_Q_leads X Post) : SS l D cid m_Q_leads X 28 [o_push (.int 0)] (FR l D cid m_Q_leads X 29) := by
  refine SS.cons (so_iconst hX d_Q_leads_28 (by decide)) ?_
  exact SS.fall
theorem b_Q_leads_29 {l : Launch} {D : va_G} {cid : Nat → ClassId} {X : CT} {Post : PT} (hX : OK l D cid m_Q_leads X Post) : SS l D cid m_Q_leads X 29 [] (t_zret Post) := by
  exact st_zret hX d_Q_leads_29 rfl
abbrev m_Q_forget : MT := (⟨"GroupLogModel", "forget", "(I)V"⟩, prog_6_method_8_code, 3, (none : Option FieldType), { frames := 0, cells := 0, slots := 0, locals := 0 })
theorem pf_Q_forget : plainFor m_Q_forget.1 = true := by decide +kernel
theorem d_Q_forget_0 : decode prog_6_method_8_code 0 = .ok (.iconst 0, 1) := by decide +kernel
theorem d_Q_forget_1 : decode prog_6_method_8_code 1 = .ok (.istore_n 2, 1) := by decide +kernel
theorem d_Q_forget_2 : decode prog_6_method_8_code 2 = .ok (.iload_n 2, 1) := by decide +kernel
theorem d_Q_forget_3 : decode prog_6_method_8_code 3 = .ok (.iconst 5, 1) := by decide +kernel
theorem d_Q_forget_4 : decode prog_6_method_8_code 4 = .ok (.if_icmp .ge 31, 3) := by decide +kernel
theorem d_Q_forget_7 : decode prog_6_method_8_code 7 = .ok (.aload_n 0, 1) := by decide +kernel
theorem d_Q_forget_8 : decode prog_6_method_8_code 8 = .ok (.getfield 47, 3) := by decide +kernel
theorem d_Q_forget_11 : decode prog_6_method_8_code 11 = .ok (.iconst 5, 1) := by decide +kernel
theorem d_Q_forget_12 : decode prog_6_method_8_code 12 = .ok (.iload_n 1, 1) := by decide +kernel
theorem d_Q_forget_13 : decode prog_6_method_8_code 13 = .ok (.imul, 1) := by decide +kernel
theorem d_Q_forget_14 : decode prog_6_method_8_code 14 = .ok (.iload_n 2, 1) := by decide +kernel
theorem d_Q_forget_15 : decode prog_6_method_8_code 15 = .ok (.iadd, 1) := by decide +kernel
theorem d_Q_forget_16 : decode prog_6_method_8_code 16 = .ok (.iconst 0, 1) := by decide +kernel
theorem d_Q_forget_17 : decode prog_6_method_8_code 17 = .ok (.bastore, 1) := by decide +kernel
theorem d_Q_forget_18 : decode prog_6_method_8_code 18 = .ok (.aload_n 0, 1) := by decide +kernel
theorem d_Q_forget_19 : decode prog_6_method_8_code 19 = .ok (.getfield 53, 3) := by decide +kernel
theorem d_Q_forget_22 : decode prog_6_method_8_code 22 = .ok (.iconst 5, 1) := by decide +kernel
theorem d_Q_forget_23 : decode prog_6_method_8_code 23 = .ok (.iload_n 1, 1) := by decide +kernel
theorem d_Q_forget_24 : decode prog_6_method_8_code 24 = .ok (.imul, 1) := by decide +kernel
theorem d_Q_forget_25 : decode prog_6_method_8_code 25 = .ok (.iload_n 2, 1) := by decide +kernel
theorem d_Q_forget_26 : decode prog_6_method_8_code 26 = .ok (.iadd, 1) := by decide +kernel
theorem d_Q_forget_27 : decode prog_6_method_8_code 27 = .ok (.iconst 0, 1) := by decide +kernel
theorem d_Q_forget_28 : decode prog_6_method_8_code 28 = .ok (.bastore, 1) := by decide +kernel
theorem d_Q_forget_29 : decode prog_6_method_8_code 29 = .ok (.iinc 2 1, 3) := by decide +kernel
theorem d_Q_forget_32 : decode prog_6_method_8_code 32 = .ok (.goto (-30), 3) := by decide +kernel
theorem d_Q_forget_35 : decode prog_6_method_8_code 35 = .ok (.return_, 1) := by decide +kernel
theorem b_Q_forget_0 {l : Launch} {D : va_G} {cid : Nat → ClassId} {X : CT} {Post : PT} (hX : OK l D cid m_Q_forget X Post) : SS l D cid m_Q_forget X 0 [o_push (.int 0), o_istore 2] (FR l D cid m_Q_forget X 2) := by
  refine SS.cons (so_iconst hX d_Q_forget_0 (by decide)) ?_
  refine SS.cons (so_istore_n hX d_Q_forget_1 rfl (by decide)) ?_
  exact SS.fall
theorem b_Q_forget_2 {l : Launch} {D : va_G} {cid : Nat → ClassId} {X : CT} {Post : PT} (hX : OK l D cid m_Q_forget X Post) : SS l D cid m_Q_forget X 2 [o_iload 2, o_push (.int 5)] (t_cmp (fun x y => y ≤ x) (FR l D cid m_Q_forget X 35) (FR l D cid m_Q_forget X 7)) := by
  refine SS.cons (so_iload_n hX d_Q_forget_2 rfl) ?_
  refine SS.cons (so_iconst hX d_Q_forget_3 (by decide)) ?_
  exact st_icmp_ge hX d_Q_forget_4 (by decide)
theorem b_Q_forget_7 {l : Launch} {D : va_G} {cid : Nat → ClassId} {X : CT} {Post : PT} (hX : OK l D cid m_Q_forget X Post) : SS l D cid m_Q_forget X 7 [o_aload 0, o_getf 4 14, o_push (.int 5), o_iload 1, o_bin (fun x y => x * y), o_iload 2, o_bin (fun x y => x + y), o_push (.int 0), o_zst, o_aload 0, o_getf 4 16, o_push (.int 5), o_iload 1, o_bin (fun x y => x * y), o_iload 2, o_bin (fun x y => x + y), o_push (.int 0), o_zst, o_iinc 2 1] (FR l D cid m_Q_forget X 2) := by
  refine SS.cons (so_aload_n hX d_Q_forget_7 rfl) ?_
  refine SS.cons (so_getf (C := R_Q) (T := T_Q) hX d_Q_forget_8 in_Q rfl (by decide) k_499) ?_
  refine SS.cons (so_iconst hX d_Q_forget_11 (by decide)) ?_
  refine SS.cons (so_iload_n hX d_Q_forget_12 rfl) ?_
  refine SS.cons (so_imul hX d_Q_forget_13) ?_
  refine SS.cons (so_iload_n hX d_Q_forget_14 rfl) ?_
  refine SS.cons (so_iadd hX d_Q_forget_15) ?_
  refine SS.cons (so_iconst hX d_Q_forget_16 (by decide)) ?_
  refine SS.cons (so_zast hX d_Q_forget_17) ?_
  refine SS.cons (so_aload_n hX d_Q_forget_18 rfl) ?_
  refine SS.cons (so_getf (C := R_Q) (T := T_Q) hX d_Q_forget_19 in_Q rfl (by decide) k_501) ?_
  refine SS.cons (so_iconst hX d_Q_forget_22 (by decide)) ?_
  refine SS.cons (so_iload_n hX d_Q_forget_23 rfl) ?_
  refine SS.cons (so_imul hX d_Q_forget_24) ?_
  refine SS.cons (so_iload_n hX d_Q_forget_25 rfl) ?_
  refine SS.cons (so_iadd hX d_Q_forget_26) ?_
  refine SS.cons (so_iconst hX d_Q_forget_27 (by decide)) ?_
  refine SS.cons (so_zast hX d_Q_forget_28) ?_
  refine SS.cons (so_iinc hX d_Q_forget_29 (by decide) (by decide)) ?_
  exact so_goto hX d_Q_forget_32 (by decide)
theorem b_Q_forget_35 {l : Launch} {D : va_G} {cid : Nat → ClassId} {X : CT} {Post : PT} (hX : OK l D cid m_Q_forget X Post) : SS l D cid m_Q_forget X 35 [] (t_ret Post) := by
  exact st_ret hX d_Q_forget_35 rfl
abbrev m_Q_fresh : MT := (⟨"GroupLogModel", "fresh", "(I)V"⟩, prog_6_method_9_code, 3, (none : Option FieldType), { frames := 1, cells := 0, slots := 0, locals := 22 })
theorem pf_Q_fresh : plainFor m_Q_fresh.1 = true := by decide +kernel
theorem d_Q_fresh_0 : decode prog_6_method_9_code 0 = .ok (.aload_n 0, 1) := by decide +kernel
theorem d_Q_fresh_1 : decode prog_6_method_9_code 1 = .ok (.getfield 25, 3) := by decide +kernel
theorem d_Q_fresh_4 : decode prog_6_method_9_code 4 = .ok (.iload_n 1, 1) := by decide +kernel
theorem d_Q_fresh_5 : decode prog_6_method_9_code 5 = .ok (.iconst 0, 1) := by decide +kernel
theorem d_Q_fresh_6 : decode prog_6_method_9_code 6 = .ok (.iastore, 1) := by decide +kernel
theorem d_Q_fresh_7 : decode prog_6_method_9_code 7 = .ok (.aload_n 0, 1) := by decide +kernel
theorem d_Q_fresh_8 : decode prog_6_method_9_code 8 = .ok (.getfield 28, 3) := by decide +kernel
theorem d_Q_fresh_11 : decode prog_6_method_9_code 11 = .ok (.iload_n 1, 1) := by decide +kernel
theorem d_Q_fresh_12 : decode prog_6_method_9_code 12 = .ok (.iconst 0, 1) := by decide +kernel
theorem d_Q_fresh_13 : decode prog_6_method_9_code 13 = .ok (.iastore, 1) := by decide +kernel
theorem d_Q_fresh_14 : decode prog_6_method_9_code 14 = .ok (.aload_n 0, 1) := by decide +kernel
theorem d_Q_fresh_15 : decode prog_6_method_9_code 15 = .ok (.getfield 7, 3) := by decide +kernel
theorem d_Q_fresh_18 : decode prog_6_method_9_code 18 = .ok (.iload_n 1, 1) := by decide +kernel
theorem d_Q_fresh_19 : decode prog_6_method_9_code 19 = .ok (.iconst 0, 1) := by decide +kernel
theorem d_Q_fresh_20 : decode prog_6_method_9_code 20 = .ok (.iastore, 1) := by decide +kernel
theorem d_Q_fresh_21 : decode prog_6_method_9_code 21 = .ok (.aload_n 0, 1) := by decide +kernel
theorem d_Q_fresh_22 : decode prog_6_method_9_code 22 = .ok (.getfield 31, 3) := by decide +kernel
theorem d_Q_fresh_25 : decode prog_6_method_9_code 25 = .ok (.iload_n 1, 1) := by decide +kernel
theorem d_Q_fresh_26 : decode prog_6_method_9_code 26 = .ok (.iconst 0, 1) := by decide +kernel
theorem d_Q_fresh_27 : decode prog_6_method_9_code 27 = .ok (.iastore, 1) := by decide +kernel
theorem d_Q_fresh_28 : decode prog_6_method_9_code 28 = .ok (.aload_n 0, 1) := by decide +kernel
theorem d_Q_fresh_29 : decode prog_6_method_9_code 29 = .ok (.getfield 40, 3) := by decide +kernel
theorem d_Q_fresh_32 : decode prog_6_method_9_code 32 = .ok (.iload_n 1, 1) := by decide +kernel
theorem d_Q_fresh_33 : decode prog_6_method_9_code 33 = .ok (.iconst 0, 1) := by decide +kernel
theorem d_Q_fresh_34 : decode prog_6_method_9_code 34 = .ok (.bastore, 1) := by decide +kernel
theorem d_Q_fresh_35 : decode prog_6_method_9_code 35 = .ok (.iconst 0, 1) := by decide +kernel
theorem d_Q_fresh_36 : decode prog_6_method_9_code 36 = .ok (.istore_n 2, 1) := by decide +kernel
theorem d_Q_fresh_37 : decode prog_6_method_9_code 37 = .ok (.iload_n 2, 1) := by decide +kernel
theorem d_Q_fresh_38 : decode prog_6_method_9_code 38 = .ok (.iconst 5, 1) := by decide +kernel
theorem d_Q_fresh_39 : decode prog_6_method_9_code 39 = .ok (.if_icmp .ge 31, 3) := by decide +kernel
theorem d_Q_fresh_42 : decode prog_6_method_9_code 42 = .ok (.aload_n 0, 1) := by decide +kernel
theorem d_Q_fresh_43 : decode prog_6_method_9_code 43 = .ok (.getfield 34, 3) := by decide +kernel
theorem d_Q_fresh_46 : decode prog_6_method_9_code 46 = .ok (.iconst 5, 1) := by decide +kernel
theorem d_Q_fresh_47 : decode prog_6_method_9_code 47 = .ok (.iload_n 1, 1) := by decide +kernel
theorem d_Q_fresh_48 : decode prog_6_method_9_code 48 = .ok (.imul, 1) := by decide +kernel
theorem d_Q_fresh_49 : decode prog_6_method_9_code 49 = .ok (.iload_n 2, 1) := by decide +kernel
theorem d_Q_fresh_50 : decode prog_6_method_9_code 50 = .ok (.iadd, 1) := by decide +kernel
theorem d_Q_fresh_51 : decode prog_6_method_9_code 51 = .ok (.iconst 0, 1) := by decide +kernel
theorem d_Q_fresh_52 : decode prog_6_method_9_code 52 = .ok (.iastore, 1) := by decide +kernel
theorem d_Q_fresh_53 : decode prog_6_method_9_code 53 = .ok (.aload_n 0, 1) := by decide +kernel
theorem d_Q_fresh_54 : decode prog_6_method_9_code 54 = .ok (.getfield 37, 3) := by decide +kernel
theorem d_Q_fresh_57 : decode prog_6_method_9_code 57 = .ok (.iconst 5, 1) := by decide +kernel
theorem d_Q_fresh_58 : decode prog_6_method_9_code 58 = .ok (.iload_n 1, 1) := by decide +kernel
theorem d_Q_fresh_59 : decode prog_6_method_9_code 59 = .ok (.imul, 1) := by decide +kernel
theorem d_Q_fresh_60 : decode prog_6_method_9_code 60 = .ok (.iload_n 2, 1) := by decide +kernel
theorem d_Q_fresh_61 : decode prog_6_method_9_code 61 = .ok (.iadd, 1) := by decide +kernel
theorem d_Q_fresh_62 : decode prog_6_method_9_code 62 = .ok (.iconst 0, 1) := by decide +kernel
theorem d_Q_fresh_63 : decode prog_6_method_9_code 63 = .ok (.iastore, 1) := by decide +kernel
theorem d_Q_fresh_64 : decode prog_6_method_9_code 64 = .ok (.iinc 2 1, 3) := by decide +kernel
theorem d_Q_fresh_67 : decode prog_6_method_9_code 67 = .ok (.goto (-30), 3) := by decide +kernel
theorem d_Q_fresh_70 : decode prog_6_method_9_code 70 = .ok (.aload_n 0, 1) := by decide +kernel
theorem d_Q_fresh_71 : decode prog_6_method_9_code 71 = .ok (.iload_n 1, 1) := by decide +kernel
theorem d_Q_fresh_72 : decode prog_6_method_9_code 72 = .ok (.invokevirtual 109, 3) := by decide +kernel
theorem d_Q_fresh_75 : decode prog_6_method_9_code 75 = .ok (.return_, 1) := by decide +kernel
theorem b_Q_fresh_0 {l : Launch} {D : va_G} {cid : Nat → ClassId} {X : CT} {Post : PT} (hX : OK l D cid m_Q_fresh X Post) : SS l D cid m_Q_fresh X 0 [o_aload 0, o_getf 4 7, o_iload 1, o_push (.int 0), o_ast, o_aload 0, o_getf 4 8, o_iload 1, o_push (.int 0), o_ast, o_aload 0, o_getf 4 2, o_iload 1, o_push (.int 0), o_ast, o_aload 0, o_getf 4 9, o_iload 1, o_push (.int 0), o_ast, o_aload 0, o_getf 4 12, o_iload 1, o_push (.int 0), o_zst, o_push (.int 0), o_istore 2] (FR l D cid m_Q_fresh X 37) := by
  refine SS.cons (so_aload_n hX d_Q_fresh_0 rfl) ?_
  refine SS.cons (so_getf (C := R_Q) (T := T_Q) hX d_Q_fresh_1 in_Q rfl (by decide) k_492) ?_
  refine SS.cons (so_iload_n hX d_Q_fresh_4 rfl) ?_
  refine SS.cons (so_iconst hX d_Q_fresh_5 (by decide)) ?_
  refine SS.cons (so_iast hX d_Q_fresh_6) ?_
  refine SS.cons (so_aload_n hX d_Q_fresh_7 rfl) ?_
  refine SS.cons (so_getf (C := R_Q) (T := T_Q) hX d_Q_fresh_8 in_Q rfl (by decide) k_493) ?_
  refine SS.cons (so_iload_n hX d_Q_fresh_11 rfl) ?_
  refine SS.cons (so_iconst hX d_Q_fresh_12 (by decide)) ?_
  refine SS.cons (so_iast hX d_Q_fresh_13) ?_
  refine SS.cons (so_aload_n hX d_Q_fresh_14 rfl) ?_
  refine SS.cons (so_getf (C := R_Q) (T := T_Q) hX d_Q_fresh_15 in_Q rfl (by decide) k_487) ?_
  refine SS.cons (so_iload_n hX d_Q_fresh_18 rfl) ?_
  refine SS.cons (so_iconst hX d_Q_fresh_19 (by decide)) ?_
  refine SS.cons (so_iast hX d_Q_fresh_20) ?_
  refine SS.cons (so_aload_n hX d_Q_fresh_21 rfl) ?_
  refine SS.cons (so_getf (C := R_Q) (T := T_Q) hX d_Q_fresh_22 in_Q rfl (by decide) k_494) ?_
  refine SS.cons (so_iload_n hX d_Q_fresh_25 rfl) ?_
  refine SS.cons (so_iconst hX d_Q_fresh_26 (by decide)) ?_
  refine SS.cons (so_iast hX d_Q_fresh_27) ?_
  refine SS.cons (so_aload_n hX d_Q_fresh_28 rfl) ?_
  refine SS.cons (so_getf (C := R_Q) (T := T_Q) hX d_Q_fresh_29 in_Q rfl (by decide) k_497) ?_
  refine SS.cons (so_iload_n hX d_Q_fresh_32 rfl) ?_
  refine SS.cons (so_iconst hX d_Q_fresh_33 (by decide)) ?_
  refine SS.cons (so_zast hX d_Q_fresh_34) ?_
  refine SS.cons (so_iconst hX d_Q_fresh_35 (by decide)) ?_
  refine SS.cons (so_istore_n hX d_Q_fresh_36 rfl (by decide)) ?_
  exact SS.fall
theorem b_Q_fresh_37 {l : Launch} {D : va_G} {cid : Nat → ClassId} {X : CT} {Post : PT} (hX : OK l D cid m_Q_fresh X Post) : SS l D cid m_Q_fresh X 37 [o_iload 2, o_push (.int 5)] (t_cmp (fun x y => y ≤ x) (FR l D cid m_Q_fresh X 70) (FR l D cid m_Q_fresh X 42)) := by
  refine SS.cons (so_iload_n hX d_Q_fresh_37 rfl) ?_
  refine SS.cons (so_iconst hX d_Q_fresh_38 (by decide)) ?_
  exact st_icmp_ge hX d_Q_fresh_39 (by decide)
theorem b_Q_fresh_42 {l : Launch} {D : va_G} {cid : Nat → ClassId} {X : CT} {Post : PT} (hX : OK l D cid m_Q_fresh X Post) : SS l D cid m_Q_fresh X 42 [o_aload 0, o_getf 4 10, o_push (.int 5), o_iload 1, o_bin (fun x y => x * y), o_iload 2, o_bin (fun x y => x + y), o_push (.int 0), o_ast, o_aload 0, o_getf 4 11, o_push (.int 5), o_iload 1, o_bin (fun x y => x * y), o_iload 2, o_bin (fun x y => x + y), o_push (.int 0), o_ast, o_iinc 2 1] (FR l D cid m_Q_fresh X 37) := by
  refine SS.cons (so_aload_n hX d_Q_fresh_42 rfl) ?_
  refine SS.cons (so_getf (C := R_Q) (T := T_Q) hX d_Q_fresh_43 in_Q rfl (by decide) k_495) ?_
  refine SS.cons (so_iconst hX d_Q_fresh_46 (by decide)) ?_
  refine SS.cons (so_iload_n hX d_Q_fresh_47 rfl) ?_
  refine SS.cons (so_imul hX d_Q_fresh_48) ?_
  refine SS.cons (so_iload_n hX d_Q_fresh_49 rfl) ?_
  refine SS.cons (so_iadd hX d_Q_fresh_50) ?_
  refine SS.cons (so_iconst hX d_Q_fresh_51 (by decide)) ?_
  refine SS.cons (so_iast hX d_Q_fresh_52) ?_
  refine SS.cons (so_aload_n hX d_Q_fresh_53 rfl) ?_
  refine SS.cons (so_getf (C := R_Q) (T := T_Q) hX d_Q_fresh_54 in_Q rfl (by decide) k_496) ?_
  refine SS.cons (so_iconst hX d_Q_fresh_57 (by decide)) ?_
  refine SS.cons (so_iload_n hX d_Q_fresh_58 rfl) ?_
  refine SS.cons (so_imul hX d_Q_fresh_59) ?_
  refine SS.cons (so_iload_n hX d_Q_fresh_60 rfl) ?_
  refine SS.cons (so_iadd hX d_Q_fresh_61) ?_
  refine SS.cons (so_iconst hX d_Q_fresh_62 (by decide)) ?_
  refine SS.cons (so_iast hX d_Q_fresh_63) ?_
  refine SS.cons (so_iinc hX d_Q_fresh_64 (by decide) (by decide)) ?_
  exact so_goto hX d_Q_fresh_67 (by decide)
theorem b_Q_fresh_70 {l : Launch} {D : va_G} {cid : Nat → ClassId} {X : CT} {Post : PT} (hX : OK l D cid m_Q_fresh X Post) : SS l D cid m_Q_fresh X 70 [o_aload 0, o_iload 1, o_callV l D cid m_Q_forget 4 1] (t_ret Post) := by
  refine SS.cons (so_aload_n hX d_Q_fresh_70 rfl) ?_
  refine SS.cons (so_iload_n hX d_Q_fresh_71 rfl) ?_
  refine SS.cons (so_callV (M' := m_Q_forget) (T := T_Q) hX d_Q_fresh_72 rfl k_642 k_639 k_641 k_35 k_48 pf_Q_forget (by decide) (by decide +kernel) ⟨by decide, by decide⟩) ?_
  exact st_ret hX d_Q_fresh_75 rfl
abbrev m_Q_send : MT := (⟨"GroupLogModel", "send", "(III)V"⟩, prog_6_method_10_code, 6, (none : Option FieldType), { frames := 1, cells := 0, slots := 0, locals := 23 })
theorem pf_Q_send : plainFor m_Q_send.1 = true := by decide +kernel
theorem d_Q_send_0 : decode prog_6_method_10_code 0 = .ok (.aload_n 0, 1) := by decide +kernel
theorem d_Q_send_1 : decode prog_6_method_10_code 1 = .ok (.getfield 113, 3) := by decide +kernel
theorem d_Q_send_4 : decode prog_6_method_10_code 4 = .ok (.bipush 63, 2) := by decide +kernel
theorem d_Q_send_6 : decode prog_6_method_10_code 6 = .ok (.iand, 1) := by decide +kernel
theorem d_Q_send_7 : decode prog_6_method_10_code 7 = .ok (.istore 4, 2) := by decide +kernel
theorem d_Q_send_9 : decode prog_6_method_10_code 9 = .ok (.aload_n 0, 1) := by decide +kernel
theorem d_Q_send_10 : decode prog_6_method_10_code 10 = .ok (.getfield 68, 3) := by decide +kernel
theorem d_Q_send_13 : decode prog_6_method_10_code 13 = .ok (.iload 4, 2) := by decide +kernel
theorem d_Q_send_15 : decode prog_6_method_10_code 15 = .ok (.iload_n 1, 1) := by decide +kernel
theorem d_Q_send_16 : decode prog_6_method_10_code 16 = .ok (.iastore, 1) := by decide +kernel
theorem d_Q_send_17 : decode prog_6_method_10_code 17 = .ok (.aload_n 0, 1) := by decide +kernel
theorem d_Q_send_18 : decode prog_6_method_10_code 18 = .ok (.getfield 71, 3) := by decide +kernel
theorem d_Q_send_21 : decode prog_6_method_10_code 21 = .ok (.iload 4, 2) := by decide +kernel
theorem d_Q_send_23 : decode prog_6_method_10_code 23 = .ok (.iload_n 2, 1) := by decide +kernel
theorem d_Q_send_24 : decode prog_6_method_10_code 24 = .ok (.iastore, 1) := by decide +kernel
theorem d_Q_send_25 : decode prog_6_method_10_code 25 = .ok (.aload_n 0, 1) := by decide +kernel
theorem d_Q_send_26 : decode prog_6_method_10_code 26 = .ok (.getfield 74, 3) := by decide +kernel
theorem d_Q_send_29 : decode prog_6_method_10_code 29 = .ok (.iload 4, 2) := by decide +kernel
theorem d_Q_send_31 : decode prog_6_method_10_code 31 = .ok (.iload_n 3, 1) := by decide +kernel
theorem d_Q_send_32 : decode prog_6_method_10_code 32 = .ok (.iastore, 1) := by decide +kernel
theorem d_Q_send_33 : decode prog_6_method_10_code 33 = .ok (.aload_n 0, 1) := by decide +kernel
theorem d_Q_send_34 : decode prog_6_method_10_code 34 = .ok (.getfield 77, 3) := by decide +kernel
theorem d_Q_send_37 : decode prog_6_method_10_code 37 = .ok (.iload 4, 2) := by decide +kernel
theorem d_Q_send_39 : decode prog_6_method_10_code 39 = .ok (.aload_n 0, 1) := by decide +kernel
theorem d_Q_send_40 : decode prog_6_method_10_code 40 = .ok (.getfield 25, 3) := by decide +kernel
theorem d_Q_send_43 : decode prog_6_method_10_code 43 = .ok (.iload_n 1, 1) := by decide +kernel
theorem d_Q_send_44 : decode prog_6_method_10_code 44 = .ok (.iaload, 1) := by decide +kernel
theorem d_Q_send_45 : decode prog_6_method_10_code 45 = .ok (.iastore, 1) := by decide +kernel
theorem d_Q_send_46 : decode prog_6_method_10_code 46 = .ok (.aload_n 0, 1) := by decide +kernel
theorem d_Q_send_47 : decode prog_6_method_10_code 47 = .ok (.getfield 80, 3) := by decide +kernel
theorem d_Q_send_50 : decode prog_6_method_10_code 50 = .ok (.iload 4, 2) := by decide +kernel
theorem d_Q_send_52 : decode prog_6_method_10_code 52 = .ok (.aload_n 0, 1) := by decide +kernel
theorem d_Q_send_53 : decode prog_6_method_10_code 53 = .ok (.getfield 28, 3) := by decide +kernel
theorem d_Q_send_56 : decode prog_6_method_10_code 56 = .ok (.iload_n 1, 1) := by decide +kernel
theorem d_Q_send_57 : decode prog_6_method_10_code 57 = .ok (.iaload, 1) := by decide +kernel
theorem d_Q_send_58 : decode prog_6_method_10_code 58 = .ok (.iastore, 1) := by decide +kernel
theorem d_Q_send_59 : decode prog_6_method_10_code 59 = .ok (.aload_n 0, 1) := by decide +kernel
theorem d_Q_send_60 : decode prog_6_method_10_code 60 = .ok (.getfield 83, 3) := by decide +kernel
theorem d_Q_send_63 : decode prog_6_method_10_code 63 = .ok (.iload 4, 2) := by decide +kernel
theorem d_Q_send_65 : decode prog_6_method_10_code 65 = .ok (.aload_n 0, 1) := by decide +kernel
theorem d_Q_send_66 : decode prog_6_method_10_code 66 = .ok (.getfield 31, 3) := by decide +kernel
theorem d_Q_send_69 : decode prog_6_method_10_code 69 = .ok (.iload_n 1, 1) := by decide +kernel
theorem d_Q_send_70 : decode prog_6_method_10_code 70 = .ok (.iaload, 1) := by decide +kernel
theorem d_Q_send_71 : decode prog_6_method_10_code 71 = .ok (.iastore, 1) := by decide +kernel
theorem d_Q_send_72 : decode prog_6_method_10_code 72 = .ok (.iconst 0, 1) := by decide +kernel
theorem d_Q_send_73 : decode prog_6_method_10_code 73 = .ok (.istore 5, 2) := by decide +kernel
theorem d_Q_send_75 : decode prog_6_method_10_code 75 = .ok (.iload 5, 2) := by decide +kernel
theorem d_Q_send_77 : decode prog_6_method_10_code 77 = .ok (.iconst 5, 1) := by decide +kernel
theorem d_Q_send_78 : decode prog_6_method_10_code 78 = .ok (.if_icmp .ge 32, 3) := by decide +kernel
theorem d_Q_send_81 : decode prog_6_method_10_code 81 = .ok (.aload_n 0, 1) := by decide +kernel
theorem d_Q_send_82 : decode prog_6_method_10_code 82 = .ok (.getfield 86, 3) := by decide +kernel
theorem d_Q_send_85 : decode prog_6_method_10_code 85 = .ok (.iconst 5, 1) := by decide +kernel
theorem d_Q_send_86 : decode prog_6_method_10_code 86 = .ok (.iload 4, 2) := by decide +kernel
theorem d_Q_send_88 : decode prog_6_method_10_code 88 = .ok (.imul, 1) := by decide +kernel
theorem d_Q_send_89 : decode prog_6_method_10_code 89 = .ok (.iload 5, 2) := by decide +kernel
theorem d_Q_send_91 : decode prog_6_method_10_code 91 = .ok (.iadd, 1) := by decide +kernel
theorem d_Q_send_92 : decode prog_6_method_10_code 92 = .ok (.aload_n 0, 1) := by decide +kernel
theorem d_Q_send_93 : decode prog_6_method_10_code 93 = .ok (.getfield 34, 3) := by decide +kernel
theorem d_Q_send_96 : decode prog_6_method_10_code 96 = .ok (.iconst 5, 1) := by decide +kernel
theorem d_Q_send_97 : decode prog_6_method_10_code 97 = .ok (.iload_n 1, 1) := by decide +kernel
theorem d_Q_send_98 : decode prog_6_method_10_code 98 = .ok (.imul, 1) := by decide +kernel
theorem d_Q_send_99 : decode prog_6_method_10_code 99 = .ok (.iload 5, 2) := by decide +kernel
theorem d_Q_send_101 : decode prog_6_method_10_code 101 = .ok (.iadd, 1) := by decide +kernel
theorem d_Q_send_102 : decode prog_6_method_10_code 102 = .ok (.iaload, 1) := by decide +kernel
theorem d_Q_send_103 : decode prog_6_method_10_code 103 = .ok (.iastore, 1) := by decide +kernel
theorem d_Q_send_104 : decode prog_6_method_10_code 104 = .ok (.iinc 5 1, 3) := by decide +kernel
theorem d_Q_send_107 : decode prog_6_method_10_code 107 = .ok (.goto (-32), 3) := by decide +kernel
theorem d_Q_send_110 : decode prog_6_method_10_code 110 = .ok (.aload_n 0, 1) := by decide +kernel
theorem d_Q_send_111 : decode prog_6_method_10_code 111 = .ok (.iload_n 1, 1) := by decide +kernel
theorem d_Q_send_112 : decode prog_6_method_10_code 112 = .ok (.iconst 5, 1) := by decide +kernel
theorem d_Q_send_113 : decode prog_6_method_10_code 113 = .ok (.iload 4, 2) := by decide +kernel
theorem d_Q_send_115 : decode prog_6_method_10_code 115 = .ok (.iadd, 1) := by decide +kernel
theorem d_Q_send_116 : decode prog_6_method_10_code 116 = .ok (.invokevirtual 116, 3) := by decide +kernel
theorem d_Q_send_119 : decode prog_6_method_10_code 119 = .ok (.aload_n 0, 1) := by decide +kernel
theorem d_Q_send_120 : decode prog_6_method_10_code 120 = .ok (.dup, 1) := by decide +kernel
theorem d_Q_send_121 : decode prog_6_method_10_code 121 = .ok (.getfield 113, 3) := by decide +kernel
theorem d_Q_send_124 : decode prog_6_method_10_code 124 = .ok (.iconst 1, 1) := by decide +kernel
theorem d_Q_send_125 : decode prog_6_method_10_code 125 = .ok (.iadd, 1) := by decide +kernel
theorem d_Q_send_126 : decode prog_6_method_10_code 126 = .ok (.putfield 113, 3) := by decide +kernel
theorem d_Q_send_129 : decode prog_6_method_10_code 129 = .ok (.return_, 1) := by decide +kernel
theorem b_Q_send_0 {l : Launch} {D : va_G} {cid : Nat → ClassId} {X : CT} {Post : PT} (hX : OK l D cid m_Q_send X Post) : SS l D cid m_Q_send X 0 [o_aload 0, o_getf 4 28, o_push (.int 63), o_bin (fun x y => x &&& y), o_istore 4, o_aload 0, o_getf 4 21, o_iload 4, o_iload 1, o_ast, o_aload 0, o_getf 4 22, o_iload 4, o_iload 2, o_ast, o_aload 0, o_getf 4 23, o_iload 4, o_iload 3, o_ast, o_aload 0, o_getf 4 24, o_iload 4, o_aload 0, o_getf 4 7, o_iload 1, o_ald 0, o_ast, o_aload 0, o_getf 4 25, o_iload 4, o_aload 0, o_getf 4 8, o_iload 1, o_ald 0, o_ast, o_aload 0, o_getf 4 26, o_iload 4, o_aload 0, o_getf 4 9, o_iload 1, o_ald 0, o_ast, o_push (.int 0), o_istore 5] (FR l D cid m_Q_send X 75) := by
  refine SS.cons (so_aload_n hX d_Q_send_0 rfl) ?_
  refine SS.cons (so_getf (C := R_Q) (T := T_Q) hX d_Q_send_1 in_Q rfl (by decide) k_513) ?_
  refine SS.cons (so_bipush hX d_Q_send_4 (by decide)) ?_
  refine SS.cons (so_iand hX d_Q_send_6) ?_
  refine SS.cons (so_istore hX d_Q_send_7 (by decide)) ?_
  refine SS.cons (so_aload_n hX d_Q_send_9 rfl) ?_
  refine SS.cons (so_getf (C := R_Q) (T := T_Q) hX d_Q_send_10 in_Q rfl (by decide) k_506) ?_
  refine SS.cons (so_iload hX d_Q_send_13) ?_
  refine SS.cons (so_iload_n hX d_Q_send_15 rfl) ?_
  refine SS.cons (so_iast hX d_Q_send_16) ?_
  refine SS.cons (so_aload_n hX d_Q_send_17 rfl) ?_
  refine SS.cons (so_getf (C := R_Q) (T := T_Q) hX d_Q_send_18 in_Q rfl (by decide) k_507) ?_
  refine SS.cons (so_iload hX d_Q_send_21) ?_
  refine SS.cons (so_iload_n hX d_Q_send_23 rfl) ?_
  refine SS.cons (so_iast hX d_Q_send_24) ?_
  refine SS.cons (so_aload_n hX d_Q_send_25 rfl) ?_
  refine SS.cons (so_getf (C := R_Q) (T := T_Q) hX d_Q_send_26 in_Q rfl (by decide) k_508) ?_
  refine SS.cons (so_iload hX d_Q_send_29) ?_
  refine SS.cons (so_iload_n hX d_Q_send_31 rfl) ?_
  refine SS.cons (so_iast hX d_Q_send_32) ?_
  refine SS.cons (so_aload_n hX d_Q_send_33 rfl) ?_
  refine SS.cons (so_getf (C := R_Q) (T := T_Q) hX d_Q_send_34 in_Q rfl (by decide) k_509) ?_
  refine SS.cons (so_iload hX d_Q_send_37) ?_
  refine SS.cons (so_aload_n hX d_Q_send_39 rfl) ?_
  refine SS.cons (so_getf (C := R_Q) (T := T_Q) hX d_Q_send_40 in_Q rfl (by decide) k_492) ?_
  refine SS.cons (so_iload_n hX d_Q_send_43 rfl) ?_
  refine SS.cons (so_iald hX d_Q_send_44) ?_
  refine SS.cons (so_iast hX d_Q_send_45) ?_
  refine SS.cons (so_aload_n hX d_Q_send_46 rfl) ?_
  refine SS.cons (so_getf (C := R_Q) (T := T_Q) hX d_Q_send_47 in_Q rfl (by decide) k_510) ?_
  refine SS.cons (so_iload hX d_Q_send_50) ?_
  refine SS.cons (so_aload_n hX d_Q_send_52 rfl) ?_
  refine SS.cons (so_getf (C := R_Q) (T := T_Q) hX d_Q_send_53 in_Q rfl (by decide) k_493) ?_
  refine SS.cons (so_iload_n hX d_Q_send_56 rfl) ?_
  refine SS.cons (so_iald hX d_Q_send_57) ?_
  refine SS.cons (so_iast hX d_Q_send_58) ?_
  refine SS.cons (so_aload_n hX d_Q_send_59 rfl) ?_
  refine SS.cons (so_getf (C := R_Q) (T := T_Q) hX d_Q_send_60 in_Q rfl (by decide) k_511) ?_
  refine SS.cons (so_iload hX d_Q_send_63) ?_
  refine SS.cons (so_aload_n hX d_Q_send_65 rfl) ?_
  refine SS.cons (so_getf (C := R_Q) (T := T_Q) hX d_Q_send_66 in_Q rfl (by decide) k_494) ?_
  refine SS.cons (so_iload_n hX d_Q_send_69 rfl) ?_
  refine SS.cons (so_iald hX d_Q_send_70) ?_
  refine SS.cons (so_iast hX d_Q_send_71) ?_
  refine SS.cons (so_iconst hX d_Q_send_72 (by decide)) ?_
  refine SS.cons (so_istore hX d_Q_send_73 (by decide)) ?_
  exact SS.fall
theorem b_Q_send_75 {l : Launch} {D : va_G} {cid : Nat → ClassId} {X : CT} {Post : PT} (hX : OK l D cid m_Q_send X Post) : SS l D cid m_Q_send X 75 [o_iload 5, o_push (.int 5)] (t_cmp (fun x y => y ≤ x) (FR l D cid m_Q_send X 110) (FR l D cid m_Q_send X 81)) := by
  refine SS.cons (so_iload hX d_Q_send_75) ?_
  refine SS.cons (so_iconst hX d_Q_send_77 (by decide)) ?_
  exact st_icmp_ge hX d_Q_send_78 (by decide)
theorem b_Q_send_81 {l : Launch} {D : va_G} {cid : Nat → ClassId} {X : CT} {Post : PT} (hX : OK l D cid m_Q_send X Post) : SS l D cid m_Q_send X 81 [o_aload 0, o_getf 4 27, o_push (.int 5), o_iload 4, o_bin (fun x y => x * y), o_iload 5, o_bin (fun x y => x + y), o_aload 0, o_getf 4 10, o_push (.int 5), o_iload 1, o_bin (fun x y => x * y), o_iload 5, o_bin (fun x y => x + y), o_ald 0, o_ast, o_iinc 5 1] (FR l D cid m_Q_send X 75) := by
  refine SS.cons (so_aload_n hX d_Q_send_81 rfl) ?_
  refine SS.cons (so_getf (C := R_Q) (T := T_Q) hX d_Q_send_82 in_Q rfl (by decide) k_512) ?_
  refine SS.cons (so_iconst hX d_Q_send_85 (by decide)) ?_
  refine SS.cons (so_iload hX d_Q_send_86) ?_
  refine SS.cons (so_imul hX d_Q_send_88) ?_
  refine SS.cons (so_iload hX d_Q_send_89) ?_
  refine SS.cons (so_iadd hX d_Q_send_91) ?_
  refine SS.cons (so_aload_n hX d_Q_send_92 rfl) ?_
  refine SS.cons (so_getf (C := R_Q) (T := T_Q) hX d_Q_send_93 in_Q rfl (by decide) k_495) ?_
  refine SS.cons (so_iconst hX d_Q_send_96 (by decide)) ?_
  refine SS.cons (so_iload_n hX d_Q_send_97 rfl) ?_
  refine SS.cons (so_imul hX d_Q_send_98) ?_
  refine SS.cons (so_iload hX d_Q_send_99) ?_
  refine SS.cons (so_iadd hX d_Q_send_101) ?_
  refine SS.cons (so_iald hX d_Q_send_102) ?_
  refine SS.cons (so_iast hX d_Q_send_103) ?_
  refine SS.cons (so_iinc hX d_Q_send_104 (by decide) (by decide)) ?_
  exact so_goto hX d_Q_send_107 (by decide)
theorem b_Q_send_110 {l : Launch} {D : va_G} {cid : Nat → ClassId} {X : CT} {Post : PT} (hX : OK l D cid m_Q_send X Post) : SS l D cid m_Q_send X 110 [o_aload 0, o_iload 1, o_push (.int 5), o_iload 4, o_bin (fun x y => x + y), o_callV l D cid m_Q_copy 4 2, o_aload 0, o_dup, o_getf 4 28, o_push (.int 1), o_bin (fun x y => x + y), o_put okI 4 28] (t_ret Post) := by
  refine SS.cons (so_aload_n hX d_Q_send_110 rfl) ?_
  refine SS.cons (so_iload_n hX d_Q_send_111 rfl) ?_
  refine SS.cons (so_iconst hX d_Q_send_112 (by decide)) ?_
  refine SS.cons (so_iload hX d_Q_send_113) ?_
  refine SS.cons (so_iadd hX d_Q_send_115) ?_
  refine SS.cons (so_callV (M' := m_Q_copy) (T := T_Q) hX d_Q_send_116 rfl k_598 k_595 k_597 k_24 k_48 pf_Q_copy (by decide) (by decide +kernel) ⟨by decide, by decide⟩) ?_
  refine SS.cons (so_aload_n hX d_Q_send_119 rfl) ?_
  refine SS.cons (so_dup hX d_Q_send_120) ?_
  refine SS.cons (so_getf (C := R_Q) (T := T_Q) hX d_Q_send_121 in_Q rfl (by decide) k_513) ?_
  refine SS.cons (so_iconst hX d_Q_send_124 (by decide)) ?_
  refine SS.cons (so_iadd hX d_Q_send_125) ?_
  refine SS.cons (so_put (C := R_Q) (T := T_Q) ok_I hX d_Q_send_126 in_Q ty_Q nm_Q rfl (by decide) k_513 rfl rfl) ?_
  exact st_ret hX d_Q_send_129 rfl
abbrev m_Q_sendAll : MT := (⟨"GroupLogModel", "sendAll", "(II)V"⟩, prog_6_method_11_code, 4, (none : Option FieldType), { frames := 2, cells := 0, slots := 0, locals := 48 })
theorem pf_Q_sendAll : plainFor m_Q_sendAll.1 = true := by decide +kernel
theorem d_Q_sendAll_0 : decode prog_6_method_11_code 0 = .ok (.iconst 0, 1) := by decide +kernel
theorem d_Q_sendAll_1 : decode prog_6_method_11_code 1 = .ok (.istore_n 3, 1) := by decide +kernel
theorem d_Q_sendAll_2 : decode prog_6_method_11_code 2 = .ok (.iload_n 3, 1) := by decide +kernel
theorem d_Q_sendAll_3 : decode prog_6_method_11_code 3 = .ok (.aload_n 0, 1) := by decide +kernel
theorem d_Q_sendAll_4 : decode prog_6_method_11_code 4 = .ok (.getfield 99, 3) := by decide +kernel
theorem d_Q_sendAll_7 : decode prog_6_method_11_code 7 = .ok (.if_icmp .ge 21, 3) := by decide +kernel
theorem d_Q_sendAll_10 : decode prog_6_method_11_code 10 = .ok (.iload_n 3, 1) := by decide +kernel
theorem d_Q_sendAll_11 : decode prog_6_method_11_code 11 = .ok (.iload_n 1, 1) := by decide +kernel
theorem d_Q_sendAll_12 : decode prog_6_method_11_code 12 = .ok (.if_icmp .eq 10, 3) := by decide +kernel
theorem d_Q_sendAll_15 : decode prog_6_method_11_code 15 = .ok (.aload_n 0, 1) := by decide +kernel
theorem d_Q_sendAll_16 : decode prog_6_method_11_code 16 = .ok (.iload_n 1, 1) := by decide +kernel
theorem d_Q_sendAll_17 : decode prog_6_method_11_code 17 = .ok (.iload_n 3, 1) := by decide +kernel
theorem d_Q_sendAll_18 : decode prog_6_method_11_code 18 = .ok (.iload_n 2, 1) := by decide +kernel
theorem d_Q_sendAll_19 : decode prog_6_method_11_code 19 = .ok (.invokevirtual 120, 3) := by decide +kernel
theorem d_Q_sendAll_22 : decode prog_6_method_11_code 22 = .ok (.iinc 3 1, 3) := by decide +kernel
theorem d_Q_sendAll_25 : decode prog_6_method_11_code 25 = .ok (.goto (-23), 3) := by decide +kernel
theorem d_Q_sendAll_28 : decode prog_6_method_11_code 28 = .ok (.return_, 1) := by decide +kernel
theorem b_Q_sendAll_0 {l : Launch} {D : va_G} {cid : Nat → ClassId} {X : CT} {Post : PT} (hX : OK l D cid m_Q_sendAll X Post) : SS l D cid m_Q_sendAll X 0 [o_push (.int 0), o_istore 3] (FR l D cid m_Q_sendAll X 2) := by
  refine SS.cons (so_iconst hX d_Q_sendAll_0 (by decide)) ?_
  refine SS.cons (so_istore_n hX d_Q_sendAll_1 rfl (by decide)) ?_
  exact SS.fall
theorem b_Q_sendAll_2 {l : Launch} {D : va_G} {cid : Nat → ClassId} {X : CT} {Post : PT} (hX : OK l D cid m_Q_sendAll X Post) : SS l D cid m_Q_sendAll X 2 [o_iload 3, o_aload 0, o_getf 4 0] (t_cmp (fun x y => y ≤ x) (FR l D cid m_Q_sendAll X 28) (FR l D cid m_Q_sendAll X 10)) := by
  refine SS.cons (so_iload_n hX d_Q_sendAll_2 rfl) ?_
  refine SS.cons (so_aload_n hX d_Q_sendAll_3 rfl) ?_
  refine SS.cons (so_getf (C := R_Q) (T := T_Q) hX d_Q_sendAll_4 in_Q rfl (by decide) k_485) ?_
  exact st_icmp_ge hX d_Q_sendAll_7 (by decide)
theorem b_Q_sendAll_10 {l : Launch} {D : va_G} {cid : Nat → ClassId} {X : CT} {Post : PT} (hX : OK l D cid m_Q_sendAll X Post) : SS l D cid m_Q_sendAll X 10 [o_iload 3, o_iload 1] (t_cmp (fun x y => x = y) (FR l D cid m_Q_sendAll X 22) (FR l D cid m_Q_sendAll X 15)) := by
  refine SS.cons (so_iload_n hX d_Q_sendAll_10 rfl) ?_
  refine SS.cons (so_iload_n hX d_Q_sendAll_11 rfl) ?_
  exact st_icmp_eq hX d_Q_sendAll_12 (by decide)
theorem b_Q_sendAll_15 {l : Launch} {D : va_G} {cid : Nat → ClassId} {X : CT} {Post : PT} (hX : OK l D cid m_Q_sendAll X Post) : SS l D cid m_Q_sendAll X 15 [o_aload 0, o_iload 1, o_iload 3, o_iload 2, o_callV l D cid m_Q_send 4 3] (FR l D cid m_Q_sendAll X 22) := by
  refine SS.cons (so_aload_n hX d_Q_sendAll_15 rfl) ?_
  refine SS.cons (so_iload_n hX d_Q_sendAll_16 rfl) ?_
  refine SS.cons (so_iload_n hX d_Q_sendAll_17 rfl) ?_
  refine SS.cons (so_iload_n hX d_Q_sendAll_18 rfl) ?_
  refine SS.cons (so_callV (M' := m_Q_send) (T := T_Q) hX d_Q_sendAll_19 rfl k_614 k_611 k_613 k_28 k_48 pf_Q_send (by decide) (by decide +kernel) ⟨by decide, by decide⟩) ?_
  exact SS.fall
theorem b_Q_sendAll_22 {l : Launch} {D : va_G} {cid : Nat → ClassId} {X : CT} {Post : PT} (hX : OK l D cid m_Q_sendAll X Post) : SS l D cid m_Q_sendAll X 22 [o_iinc 3 1] (FR l D cid m_Q_sendAll X 2) := by
  refine SS.cons (so_iinc hX d_Q_sendAll_22 (by decide) (by decide)) ?_
  exact so_goto hX d_Q_sendAll_25 (by decide)
theorem b_Q_sendAll_28 {l : Launch} {D : va_G} {cid : Nat → ClassId} {X : CT} {Post : PT} (hX : OK l D cid m_Q_sendAll X Post) : SS l D cid m_Q_sendAll X 28 [] (t_ret Post) := by
  exact st_ret hX d_Q_sendAll_28 rfl
abbrev m_Q_start : MT := (⟨"GroupLogModel", "start", "(II)V"⟩, prog_6_method_12_code, 3, (none : Option FieldType), { frames := 3, cells := 0, slots := 0, locals := 71 })
theorem pf_Q_start : plainFor m_Q_start.1 = true := by decide +kernel
theorem d_Q_start_0 : decode prog_6_method_12_code 0 = .ok (.aload_n 0, 1) := by decide +kernel
theorem d_Q_start_1 : decode prog_6_method_12_code 1 = .ok (.getfield 22, 3) := by decide +kernel
theorem d_Q_start_4 : decode prog_6_method_12_code 4 = .ok (.iload_n 1, 1) := by decide +kernel
theorem d_Q_start_5 : decode prog_6_method_12_code 5 = .ok (.iconst 1, 1) := by decide +kernel
theorem d_Q_start_6 : decode prog_6_method_12_code 6 = .ok (.iastore, 1) := by decide +kernel
theorem d_Q_start_7 : decode prog_6_method_12_code 7 = .ok (.aload_n 0, 1) := by decide +kernel
theorem d_Q_start_8 : decode prog_6_method_12_code 8 = .ok (.getfield 25, 3) := by decide +kernel
theorem d_Q_start_11 : decode prog_6_method_12_code 11 = .ok (.iload_n 1, 1) := by decide +kernel
theorem d_Q_start_12 : decode prog_6_method_12_code 12 = .ok (.iload_n 2, 1) := by decide +kernel
theorem d_Q_start_13 : decode prog_6_method_12_code 13 = .ok (.iastore, 1) := by decide +kernel
theorem d_Q_start_14 : decode prog_6_method_12_code 14 = .ok (.aload_n 0, 1) := by decide +kernel
theorem d_Q_start_15 : decode prog_6_method_12_code 15 = .ok (.iload_n 1, 1) := by decide +kernel
theorem d_Q_start_16 : decode prog_6_method_12_code 16 = .ok (.invokevirtual 109, 3) := by decide +kernel
theorem d_Q_start_19 : decode prog_6_method_12_code 19 = .ok (.aload_n 0, 1) := by decide +kernel
theorem d_Q_start_20 : decode prog_6_method_12_code 20 = .ok (.getfield 40, 3) := by decide +kernel
theorem d_Q_start_23 : decode prog_6_method_12_code 23 = .ok (.iload_n 1, 1) := by decide +kernel
theorem d_Q_start_24 : decode prog_6_method_12_code 24 = .ok (.iconst 0, 1) := by decide +kernel
theorem d_Q_start_25 : decode prog_6_method_12_code 25 = .ok (.bastore, 1) := by decide +kernel
theorem d_Q_start_26 : decode prog_6_method_12_code 26 = .ok (.aload_n 0, 1) := by decide +kernel
theorem d_Q_start_27 : decode prog_6_method_12_code 27 = .ok (.iload_n 1, 1) := by decide +kernel
theorem d_Q_start_28 : decode prog_6_method_12_code 28 = .ok (.iconst 5, 1) := by decide +kernel
theorem d_Q_start_29 : decode prog_6_method_12_code 29 = .ok (.invokevirtual 124, 3) := by decide +kernel
theorem d_Q_start_32 : decode prog_6_method_12_code 32 = .ok (.return_, 1) := by decide +kernel
theorem b_Q_start_0 {l : Launch} {D : va_G} {cid : Nat → ClassId} {X : CT} {Post : PT} (hX : OK l D cid m_Q_start X Post) : SS l D cid m_Q_start X 0 [o_aload 0, o_getf 4 6, o_iload 1, o_push (.int 1), o_ast, o_aload 0, o_getf 4 7, o_iload 1, o_iload 2, o_ast, o_aload 0, o_iload 1, o_callV l D cid m_Q_forget 4 1, o_aload 0, o_getf 4 12, o_iload 1, o_push (.int 0), o_zst, o_aload 0, o_iload 1, o_push (.int 5), o_callV l D cid m_Q_sendAll 4 2] (t_ret Post) := by
  refine SS.cons (so_aload_n hX d_Q_start_0 rfl) ?_
  refine SS.cons (so_getf (C := R_Q) (T := T_Q) hX d_Q_start_1 in_Q rfl (by decide) k_491) ?_
  refine SS.cons (so_iload_n hX d_Q_start_4 rfl) ?_
  refine SS.cons (so_iconst hX d_Q_start_5 (by decide)) ?_
  refine SS.cons (so_iast hX d_Q_start_6) ?_
  refine SS.cons (so_aload_n hX d_Q_start_7 rfl) ?_
  refine SS.cons (so_getf (C := R_Q) (T := T_Q) hX d_Q_start_8 in_Q rfl (by decide) k_492) ?_
  refine SS.cons (so_iload_n hX d_Q_start_11 rfl) ?_
  refine SS.cons (so_iload_n hX d_Q_start_12 rfl) ?_
  refine SS.cons (so_iast hX d_Q_start_13) ?_
  refine SS.cons (so_aload_n hX d_Q_start_14 rfl) ?_
  refine SS.cons (so_iload_n hX d_Q_start_15 rfl) ?_
  refine SS.cons (so_callV (M' := m_Q_forget) (T := T_Q) hX d_Q_start_16 rfl k_642 k_639 k_641 k_35 k_48 pf_Q_forget (by decide) (by decide +kernel) ⟨by decide, by decide⟩) ?_
  refine SS.cons (so_aload_n hX d_Q_start_19 rfl) ?_
  refine SS.cons (so_getf (C := R_Q) (T := T_Q) hX d_Q_start_20 in_Q rfl (by decide) k_497) ?_
  refine SS.cons (so_iload_n hX d_Q_start_23 rfl) ?_
  refine SS.cons (so_iconst hX d_Q_start_24 (by decide)) ?_
  refine SS.cons (so_zast hX d_Q_start_25) ?_
  refine SS.cons (so_aload_n hX d_Q_start_26 rfl) ?_
  refine SS.cons (so_iload_n hX d_Q_start_27 rfl) ?_
  refine SS.cons (so_iconst hX d_Q_start_28 (by decide)) ?_
  refine SS.cons (so_callV (M' := m_Q_sendAll) (T := T_Q) hX d_Q_start_29 rfl k_654 k_651 k_653 k_38 k_48 pf_Q_sendAll (by decide) (by decide +kernel) ⟨by decide, by decide⟩) ?_
  exact st_ret hX d_Q_start_32 rfl
abbrev m_Q_there : MT := (⟨"GroupLogModel", "there", "(I)Z"⟩, prog_6_method_13_code, 2, (some FieldType.boolean), { frames := 0, cells := 0, slots := 0, locals := 0 })
theorem pf_Q_there : plainFor m_Q_there.1 = true := by decide +kernel
theorem d_Q_there_0 : decode prog_6_method_13_code 0 = .ok (.iload_n 1, 1) := by decide +kernel
theorem d_Q_there_1 : decode prog_6_method_13_code 1 = .ok (.ifCond .lt 26, 3) := by decide +kernel
theorem d_Q_there_4 : decode prog_6_method_13_code 4 = .ok (.iload_n 1, 1) := by decide +kernel
theorem d_Q_there_5 : decode prog_6_method_13_code 5 = .ok (.aload_n 0, 1) := by decide +kernel
theorem d_Q_there_6 : decode prog_6_method_13_code 6 = .ok (.getfield 113, 3) := by decide +kernel
theorem d_Q_there_9 : decode prog_6_method_13_code 9 = .ok (.if_icmp .ge 18, 3) := by decide +kernel
theorem d_Q_there_12 : decode prog_6_method_13_code 12 = .ok (.iload_n 1, 1) := by decide +kernel
theorem d_Q_there_13 : decode prog_6_method_13_code 13 = .ok (.aload_n 0, 1) := by decide +kernel
theorem d_Q_there_14 : decode prog_6_method_13_code 14 = .ok (.getfield 113, 3) := by decide +kernel
theorem d_Q_there_17 : decode prog_6_method_13_code 17 = .ok (.bipush 64, 2) := by decide +kernel
theorem d_Q_there_19 : decode prog_6_method_13_code 19 = .ok (.isub, 1) := by decide +kernel
theorem d_Q_there_20 : decode prog_6_method_13_code 20 = .ok (.if_icmp .lt 7, 3) := by decide +kernel
theorem d_Q_there_23 : decode prog_6_method_13_code 23 = .ok (.iconst 1, 1) := by decide +kernel
theorem d_Q_there_24 : decode prog_6_method_13_code 24 = .ok (.goto 4, 3) := by decide +kernel
theorem d_Q_there_27 : decode prog_6_method_13_code 27 = .ok (.iconst 0, 1) := by decide +kernel
theorem d_Q_there_28 : decode prog_6_method_13_code 28 = .ok (.ireturn, 1) := by decide +kernel
theorem b_Q_there_0 {l : Launch} {D : va_G} {cid : Nat → ClassId} {X : CT} {Post : PT} (hX : OK l D cid m_Q_there X Post) : SS l D cid m_Q_there X 0 [o_iload 1] (t_if (fun x => x < 0) (FR l D cid m_Q_there X 27) (FR l D cid m_Q_there X 4)) := by
  refine SS.cons (so_iload_n hX d_Q_there_0 rfl) ?_
  exact st_if_lt hX d_Q_there_1 (by decide)
theorem b_Q_there_4 {l : Launch} {D : va_G} {cid : Nat → ClassId} {X : CT} {Post : PT} (hX : OK l D cid m_Q_there X Post) : SS l D cid m_Q_there X 4 [o_iload 1, o_aload 0, o_getf 4 28] (t_cmp (fun x y => y ≤ x) (FR l D cid m_Q_there X 27) (FR l D cid m_Q_there X 12)) := by
  refine SS.cons (so_iload_n hX d_Q_there_4 rfl) ?_
  refine SS.cons (so_aload_n hX d_Q_there_5 rfl) ?_
  refine SS.cons (so_getf (C := R_Q) (T := T_Q) hX d_Q_there_6 in_Q rfl (by decide) k_513) ?_
  exact st_icmp_ge hX d_Q_there_9 (by decide)
theorem b_Q_there_12 {l : Launch} {D : va_G} {cid : Nat → ClassId} {X : CT} {Post : PT} (hX : OK l D cid m_Q_there X Post) : SS l D cid m_Q_there X 12 [o_iload 1, o_aload 0, o_getf 4 28, o_push (.int 64), o_bin (fun x y => x - y)] (t_cmp (fun x y => x < y) (FR l D cid m_Q_there X 27) (FR l D cid m_Q_there X 23)) := by
  refine SS.cons (so_iload_n hX d_Q_there_12 rfl) ?_
  refine SS.cons (so_aload_n hX d_Q_there_13 rfl) ?_
  refine SS.cons (so_getf (C := R_Q) (T := T_Q) hX d_Q_there_14 in_Q rfl (by decide) k_513) ?_
  refine SS.cons (so_bipush hX d_Q_there_17 (by decide)) ?_
  refine SS.cons (so_isub hX d_Q_there_19) ?_
  exact st_icmp_lt hX d_Q_there_20 (by decide)
theorem b_Q_there_23 {l : Launch} {D : va_G} {cid : Nat → ClassId} {X : CT} {Post : PT} (hX : OK l D cid m_Q_there X Post) : SS l D cid m_Q_there X 23 [o_push (.int 1)] (FR l D cid m_Q_there X 28) := by
  refine SS.cons (so_iconst hX d_Q_there_23 (by decide)) ?_
  exact so_goto hX d_Q_there_24 (by decide)
theorem b_Q_there_27 {l : Launch} {D : va_G} {cid : Nat → ClassId} {X : CT} {Post : PT} (hX : OK l D cid m_Q_there X Post) : SS l D cid m_Q_there X 27 [o_push (.int 0)] (FR l D cid m_Q_there X 28) := by
  refine SS.cons (so_iconst hX d_Q_there_27 (by decide)) ?_
  exact SS.fall
theorem b_Q_there_28 {l : Launch} {D : va_G} {cid : Nat → ClassId} {X : CT} {Post : PT} (hX : OK l D cid m_Q_there X Post) : SS l D cid m_Q_there X 28 [] (t_zret Post) := by
  exact st_zret hX d_Q_there_28 rfl
abbrev m_Q_learn : MT := (⟨"GroupLogModel", "learn", "(I)V"⟩, prog_6_method_17_code, 4, (none : Option FieldType), { frames := 0, cells := 0, slots := 0, locals := 0 })
theorem pf_Q_learn : plainFor m_Q_learn.1 = true := by decide +kernel
theorem d_Q_learn_0 : decode prog_6_method_17_code 0 = .ok (.iconst 0, 1) := by decide +kernel
theorem d_Q_learn_1 : decode prog_6_method_17_code 1 = .ok (.istore_n 2, 1) := by decide +kernel
theorem d_Q_learn_2 : decode prog_6_method_17_code 2 = .ok (.iload_n 2, 1) := by decide +kernel
theorem d_Q_learn_3 : decode prog_6_method_17_code 3 = .ok (.aload_n 0, 1) := by decide +kernel
theorem d_Q_learn_4 : decode prog_6_method_17_code 4 = .ok (.getfield 99, 3) := by decide +kernel
theorem d_Q_learn_7 : decode prog_6_method_17_code 7 = .ok (.if_icmp .ge 129, 3) := by decide +kernel
theorem d_Q_learn_10 : decode prog_6_method_17_code 10 = .ok (.iconst 5, 1) := by decide +kernel
theorem d_Q_learn_11 : decode prog_6_method_17_code 11 = .ok (.iload_n 1, 1) := by decide +kernel
theorem d_Q_learn_12 : decode prog_6_method_17_code 12 = .ok (.imul, 1) := by decide +kernel
theorem d_Q_learn_13 : decode prog_6_method_17_code 13 = .ok (.iload_n 2, 1) := by decide +kernel
theorem d_Q_learn_14 : decode prog_6_method_17_code 14 = .ok (.iadd, 1) := by decide +kernel
theorem d_Q_learn_15 : decode prog_6_method_17_code 15 = .ok (.istore_n 3, 1) := by decide +kernel
theorem d_Q_learn_16 : decode prog_6_method_17_code 16 = .ok (.aload_n 0, 1) := by decide +kernel
theorem d_Q_learn_17 : decode prog_6_method_17_code 17 = .ok (.getfield 34, 3) := by decide +kernel
theorem d_Q_learn_20 : decode prog_6_method_17_code 20 = .ok (.iload_n 3, 1) := by decide +kernel
theorem d_Q_learn_21 : decode prog_6_method_17_code 21 = .ok (.aload_n 0, 1) := by decide +kernel
theorem d_Q_learn_22 : decode prog_6_method_17_code 22 = .ok (.getfield 86, 3) := by decide +kernel
theorem d_Q_learn_25 : decode prog_6_method_17_code 25 = .ok (.sipush 320, 3) := by decide +kernel
theorem d_Q_learn_28 : decode prog_6_method_17_code 28 = .ok (.iload_n 2, 1) := by decide +kernel
theorem d_Q_learn_29 : decode prog_6_method_17_code 29 = .ok (.iadd, 1) := by decide +kernel
theorem d_Q_learn_30 : decode prog_6_method_17_code 30 = .ok (.iaload, 1) := by decide +kernel
theorem d_Q_learn_31 : decode prog_6_method_17_code 31 = .ok (.aload_n 0, 1) := by decide +kernel
theorem d_Q_learn_32 : decode prog_6_method_17_code 32 = .ok (.getfield 34, 3) := by decide +kernel
theorem d_Q_learn_35 : decode prog_6_method_17_code 35 = .ok (.iload_n 3, 1) := by decide +kernel
theorem d_Q_learn_36 : decode prog_6_method_17_code 36 = .ok (.iaload, 1) := by decide +kernel
theorem d_Q_learn_37 : decode prog_6_method_17_code 37 = .ok (.if_icmp .le 16, 3) := by decide +kernel
theorem d_Q_learn_40 : decode prog_6_method_17_code 40 = .ok (.aload_n 0, 1) := by decide +kernel
theorem d_Q_learn_41 : decode prog_6_method_17_code 41 = .ok (.getfield 86, 3) := by decide +kernel
theorem d_Q_learn_44 : decode prog_6_method_17_code 44 = .ok (.sipush 320, 3) := by decide +kernel
theorem d_Q_learn_47 : decode prog_6_method_17_code 47 = .ok (.iload_n 2, 1) := by decide +kernel
theorem d_Q_learn_48 : decode prog_6_method_17_code 48 = .ok (.iadd, 1) := by decide +kernel
theorem d_Q_learn_49 : decode prog_6_method_17_code 49 = .ok (.iaload, 1) := by decide +kernel
theorem d_Q_learn_50 : decode prog_6_method_17_code 50 = .ok (.goto 9, 3) := by decide +kernel
theorem d_Q_learn_53 : decode prog_6_method_17_code 53 = .ok (.aload_n 0, 1) := by decide +kernel
theorem d_Q_learn_54 : decode prog_6_method_17_code 54 = .ok (.getfield 34, 3) := by decide +kernel
theorem d_Q_learn_57 : decode prog_6_method_17_code 57 = .ok (.iload_n 3, 1) := by decide +kernel
theorem d_Q_learn_58 : decode prog_6_method_17_code 58 = .ok (.iaload, 1) := by decide +kernel
theorem d_Q_learn_59 : decode prog_6_method_17_code 59 = .ok (.iastore, 1) := by decide +kernel
theorem d_Q_learn_60 : decode prog_6_method_17_code 60 = .ok (.aload_n 0, 1) := by decide +kernel
theorem d_Q_learn_61 : decode prog_6_method_17_code 61 = .ok (.getfield 47, 3) := by decide +kernel
theorem d_Q_learn_64 : decode prog_6_method_17_code 64 = .ok (.iload_n 3, 1) := by decide +kernel
theorem d_Q_learn_65 : decode prog_6_method_17_code 65 = .ok (.aload_n 0, 1) := by decide +kernel
theorem d_Q_learn_66 : decode prog_6_method_17_code 66 = .ok (.getfield 47, 3) := by decide +kernel
theorem d_Q_learn_69 : decode prog_6_method_17_code 69 = .ok (.iload_n 3, 1) := by decide +kernel
theorem d_Q_learn_70 : decode prog_6_method_17_code 70 = .ok (.baload, 1) := by decide +kernel
theorem d_Q_learn_71 : decode prog_6_method_17_code 71 = .ok (.ifCond .eq 22, 3) := by decide +kernel
theorem d_Q_learn_74 : decode prog_6_method_17_code 74 = .ok (.aload_n 0, 1) := by decide +kernel
theorem d_Q_learn_75 : decode prog_6_method_17_code 75 = .ok (.getfield 50, 3) := by decide +kernel
theorem d_Q_learn_78 : decode prog_6_method_17_code 78 = .ok (.iload_n 3, 1) := by decide +kernel
theorem d_Q_learn_79 : decode prog_6_method_17_code 79 = .ok (.iaload, 1) := by decide +kernel
theorem d_Q_learn_80 : decode prog_6_method_17_code 80 = .ok (.aload_n 0, 1) := by decide +kernel
theorem d_Q_learn_81 : decode prog_6_method_17_code 81 = .ok (.getfield 34, 3) := by decide +kernel
theorem d_Q_learn_84 : decode prog_6_method_17_code 84 = .ok (.iload_n 3, 1) := by decide +kernel
theorem d_Q_learn_85 : decode prog_6_method_17_code 85 = .ok (.iaload, 1) := by decide +kernel
theorem d_Q_learn_86 : decode prog_6_method_17_code 86 = .ok (.if_icmp .lt 7, 3) := by decide +kernel
theorem d_Q_learn_89 : decode prog_6_method_17_code 89 = .ok (.iconst 1, 1) := by decide +kernel
theorem d_Q_learn_90 : decode prog_6_method_17_code 90 = .ok (.goto 4, 3) := by decide +kernel
theorem d_Q_learn_93 : decode prog_6_method_17_code 93 = .ok (.iconst 0, 1) := by decide +kernel
theorem d_Q_learn_94 : decode prog_6_method_17_code 94 = .ok (.bastore, 1) := by decide +kernel
theorem d_Q_learn_95 : decode prog_6_method_17_code 95 = .ok (.aload_n 0, 1) := by decide +kernel
theorem d_Q_learn_96 : decode prog_6_method_17_code 96 = .ok (.getfield 53, 3) := by decide +kernel
theorem d_Q_learn_99 : decode prog_6_method_17_code 99 = .ok (.iload_n 3, 1) := by decide +kernel
theorem d_Q_learn_100 : decode prog_6_method_17_code 100 = .ok (.aload_n 0, 1) := by decide +kernel
theorem d_Q_learn_101 : decode prog_6_method_17_code 101 = .ok (.getfield 53, 3) := by decide +kernel
theorem d_Q_learn_104 : decode prog_6_method_17_code 104 = .ok (.iload_n 3, 1) := by decide +kernel
theorem d_Q_learn_105 : decode prog_6_method_17_code 105 = .ok (.baload, 1) := by decide +kernel
theorem d_Q_learn_106 : decode prog_6_method_17_code 106 = .ok (.ifCond .eq 22, 3) := by decide +kernel
theorem d_Q_learn_109 : decode prog_6_method_17_code 109 = .ok (.aload_n 0, 1) := by decide +kernel
theorem d_Q_learn_110 : decode prog_6_method_17_code 110 = .ok (.getfield 56, 3) := by decide +kernel
theorem d_Q_learn_113 : decode prog_6_method_17_code 113 = .ok (.iload_n 3, 1) := by decide +kernel
theorem d_Q_learn_114 : decode prog_6_method_17_code 114 = .ok (.iaload, 1) := by decide +kernel
theorem d_Q_learn_115 : decode prog_6_method_17_code 115 = .ok (.aload_n 0, 1) := by decide +kernel
theorem d_Q_learn_116 : decode prog_6_method_17_code 116 = .ok (.getfield 34, 3) := by decide +kernel
theorem d_Q_learn_119 : decode prog_6_method_17_code 119 = .ok (.iload_n 3, 1) := by decide +kernel
theorem d_Q_learn_120 : decode prog_6_method_17_code 120 = .ok (.iaload, 1) := by decide +kernel
theorem d_Q_learn_121 : decode prog_6_method_17_code 121 = .ok (.if_icmp .lt 7, 3) := by decide +kernel
theorem d_Q_learn_124 : decode prog_6_method_17_code 124 = .ok (.iconst 1, 1) := by decide +kernel
theorem d_Q_learn_125 : decode prog_6_method_17_code 125 = .ok (.goto 4, 3) := by decide +kernel
theorem d_Q_learn_128 : decode prog_6_method_17_code 128 = .ok (.iconst 0, 1) := by decide +kernel
theorem d_Q_learn_129 : decode prog_6_method_17_code 129 = .ok (.bastore, 1) := by decide +kernel
theorem d_Q_learn_130 : decode prog_6_method_17_code 130 = .ok (.iinc 2 1, 3) := by decide +kernel
theorem d_Q_learn_133 : decode prog_6_method_17_code 133 = .ok (.goto (-131), 3) := by decide +kernel
theorem d_Q_learn_136 : decode prog_6_method_17_code 136 = .ok (.return_, 1) := by decide +kernel
theorem b_Q_learn_0 {l : Launch} {D : va_G} {cid : Nat → ClassId} {X : CT} {Post : PT} (hX : OK l D cid m_Q_learn X Post) : SS l D cid m_Q_learn X 0 [o_push (.int 0), o_istore 2] (FR l D cid m_Q_learn X 2) := by
  refine SS.cons (so_iconst hX d_Q_learn_0 (by decide)) ?_
  refine SS.cons (so_istore_n hX d_Q_learn_1 rfl (by decide)) ?_
  exact SS.fall
theorem b_Q_learn_2 {l : Launch} {D : va_G} {cid : Nat → ClassId} {X : CT} {Post : PT} (hX : OK l D cid m_Q_learn X Post) : SS l D cid m_Q_learn X 2 [o_iload 2, o_aload 0, o_getf 4 0] (t_cmp (fun x y => y ≤ x) (FR l D cid m_Q_learn X 136) (FR l D cid m_Q_learn X 10)) := by
  refine SS.cons (so_iload_n hX d_Q_learn_2 rfl) ?_
  refine SS.cons (so_aload_n hX d_Q_learn_3 rfl) ?_
  refine SS.cons (so_getf (C := R_Q) (T := T_Q) hX d_Q_learn_4 in_Q rfl (by decide) k_485) ?_
  exact st_icmp_ge hX d_Q_learn_7 (by decide)
theorem b_Q_learn_10 {l : Launch} {D : va_G} {cid : Nat → ClassId} {X : CT} {Post : PT} (hX : OK l D cid m_Q_learn X Post) : SS l D cid m_Q_learn X 10 [o_push (.int 5), o_iload 1, o_bin (fun x y => x * y), o_iload 2, o_bin (fun x y => x + y), o_istore 3, o_aload 0, o_getf 4 10, o_iload 3, o_aload 0, o_getf 4 27, o_push (.int 320), o_iload 2, o_bin (fun x y => x + y), o_ald 0, o_aload 0, o_getf 4 10, o_iload 3, o_ald 0] (t_cmp (fun x y => x ≤ y) (FR l D cid m_Q_learn X 53) (FR l D cid m_Q_learn X 40)) := by
  refine SS.cons (so_iconst hX d_Q_learn_10 (by decide)) ?_
  refine SS.cons (so_iload_n hX d_Q_learn_11 rfl) ?_
  refine SS.cons (so_imul hX d_Q_learn_12) ?_
  refine SS.cons (so_iload_n hX d_Q_learn_13 rfl) ?_
  refine SS.cons (so_iadd hX d_Q_learn_14) ?_
  refine SS.cons (so_istore_n hX d_Q_learn_15 rfl (by decide)) ?_
  refine SS.cons (so_aload_n hX d_Q_learn_16 rfl) ?_
  refine SS.cons (so_getf (C := R_Q) (T := T_Q) hX d_Q_learn_17 in_Q rfl (by decide) k_495) ?_
  refine SS.cons (so_iload_n hX d_Q_learn_20 rfl) ?_
  refine SS.cons (so_aload_n hX d_Q_learn_21 rfl) ?_
  refine SS.cons (so_getf (C := R_Q) (T := T_Q) hX d_Q_learn_22 in_Q rfl (by decide) k_512) ?_
  refine SS.cons (so_sipush hX d_Q_learn_25 (by decide)) ?_
  refine SS.cons (so_iload_n hX d_Q_learn_28 rfl) ?_
  refine SS.cons (so_iadd hX d_Q_learn_29) ?_
  refine SS.cons (so_iald hX d_Q_learn_30) ?_
  refine SS.cons (so_aload_n hX d_Q_learn_31 rfl) ?_
  refine SS.cons (so_getf (C := R_Q) (T := T_Q) hX d_Q_learn_32 in_Q rfl (by decide) k_495) ?_
  refine SS.cons (so_iload_n hX d_Q_learn_35 rfl) ?_
  refine SS.cons (so_iald hX d_Q_learn_36) ?_
  exact st_icmp_le hX d_Q_learn_37 (by decide)
theorem b_Q_learn_40 {l : Launch} {D : va_G} {cid : Nat → ClassId} {X : CT} {Post : PT} (hX : OK l D cid m_Q_learn X Post) : SS l D cid m_Q_learn X 40 [o_aload 0, o_getf 4 27, o_push (.int 320), o_iload 2, o_bin (fun x y => x + y), o_ald 0] (FR l D cid m_Q_learn X 59) := by
  refine SS.cons (so_aload_n hX d_Q_learn_40 rfl) ?_
  refine SS.cons (so_getf (C := R_Q) (T := T_Q) hX d_Q_learn_41 in_Q rfl (by decide) k_512) ?_
  refine SS.cons (so_sipush hX d_Q_learn_44 (by decide)) ?_
  refine SS.cons (so_iload_n hX d_Q_learn_47 rfl) ?_
  refine SS.cons (so_iadd hX d_Q_learn_48) ?_
  refine SS.cons (so_iald hX d_Q_learn_49) ?_
  exact so_goto hX d_Q_learn_50 (by decide)
theorem b_Q_learn_53 {l : Launch} {D : va_G} {cid : Nat → ClassId} {X : CT} {Post : PT} (hX : OK l D cid m_Q_learn X Post) : SS l D cid m_Q_learn X 53 [o_aload 0, o_getf 4 10, o_iload 3, o_ald 0] (FR l D cid m_Q_learn X 59) := by
  refine SS.cons (so_aload_n hX d_Q_learn_53 rfl) ?_
  refine SS.cons (so_getf (C := R_Q) (T := T_Q) hX d_Q_learn_54 in_Q rfl (by decide) k_495) ?_
  refine SS.cons (so_iload_n hX d_Q_learn_57 rfl) ?_
  refine SS.cons (so_iald hX d_Q_learn_58) ?_
  exact SS.fall
theorem b_Q_learn_59 {l : Launch} {D : va_G} {cid : Nat → ClassId} {X : CT} {Post : PT} (hX : OK l D cid m_Q_learn X Post) : SS l D cid m_Q_learn X 59 [o_ast, o_aload 0, o_getf 4 14, o_iload 3, o_aload 0, o_getf 4 14, o_iload 3, o_ald 1] (t_if (fun x => x = 0) (FR l D cid m_Q_learn X 93) (FR l D cid m_Q_learn X 74)) := by
  refine SS.cons (so_iast hX d_Q_learn_59) ?_
  refine SS.cons (so_aload_n hX d_Q_learn_60 rfl) ?_
  refine SS.cons (so_getf (C := R_Q) (T := T_Q) hX d_Q_learn_61 in_Q rfl (by decide) k_499) ?_
  refine SS.cons (so_iload_n hX d_Q_learn_64 rfl) ?_
  refine SS.cons (so_aload_n hX d_Q_learn_65 rfl) ?_
  refine SS.cons (so_getf (C := R_Q) (T := T_Q) hX d_Q_learn_66 in_Q rfl (by decide) k_499) ?_
  refine SS.cons (so_iload_n hX d_Q_learn_69 rfl) ?_
  refine SS.cons (so_zald hX d_Q_learn_70) ?_
  exact st_if_eq hX d_Q_learn_71 (by decide)
theorem b_Q_learn_74 {l : Launch} {D : va_G} {cid : Nat → ClassId} {X : CT} {Post : PT} (hX : OK l D cid m_Q_learn X Post) : SS l D cid m_Q_learn X 74 [o_aload 0, o_getf 4 15, o_iload 3, o_ald 0, o_aload 0, o_getf 4 10, o_iload 3, o_ald 0] (t_cmp (fun x y => x < y) (FR l D cid m_Q_learn X 93) (FR l D cid m_Q_learn X 89)) := by
  refine SS.cons (so_aload_n hX d_Q_learn_74 rfl) ?_
  refine SS.cons (so_getf (C := R_Q) (T := T_Q) hX d_Q_learn_75 in_Q rfl (by decide) k_500) ?_
  refine SS.cons (so_iload_n hX d_Q_learn_78 rfl) ?_
  refine SS.cons (so_iald hX d_Q_learn_79) ?_
  refine SS.cons (so_aload_n hX d_Q_learn_80 rfl) ?_
  refine SS.cons (so_getf (C := R_Q) (T := T_Q) hX d_Q_learn_81 in_Q rfl (by decide) k_495) ?_
  refine SS.cons (so_iload_n hX d_Q_learn_84 rfl) ?_
  refine SS.cons (so_iald hX d_Q_learn_85) ?_
  exact st_icmp_lt hX d_Q_learn_86 (by decide)
theorem b_Q_learn_89 {l : Launch} {D : va_G} {cid : Nat → ClassId} {X : CT} {Post : PT} (hX : OK l D cid m_Q_learn X Post) : SS l D cid m_Q_learn X 89 [o_push (.int 1)] (FR l D cid m_Q_learn X 94) := by
  refine SS.cons (so_iconst hX d_Q_learn_89 (by decide)) ?_
  exact so_goto hX d_Q_learn_90 (by decide)
theorem b_Q_learn_93 {l : Launch} {D : va_G} {cid : Nat → ClassId} {X : CT} {Post : PT} (hX : OK l D cid m_Q_learn X Post) : SS l D cid m_Q_learn X 93 [o_push (.int 0)] (FR l D cid m_Q_learn X 94) := by
  refine SS.cons (so_iconst hX d_Q_learn_93 (by decide)) ?_
  exact SS.fall
theorem b_Q_learn_94 {l : Launch} {D : va_G} {cid : Nat → ClassId} {X : CT} {Post : PT} (hX : OK l D cid m_Q_learn X Post) : SS l D cid m_Q_learn X 94 [o_zst, o_aload 0, o_getf 4 16, o_iload 3, o_aload 0, o_getf 4 16, o_iload 3, o_ald 1] (t_if (fun x => x = 0) (FR l D cid m_Q_learn X 128) (FR l D cid m_Q_learn X 109)) := by
  refine SS.cons (so_zast hX d_Q_learn_94) ?_
  refine SS.cons (so_aload_n hX d_Q_learn_95 rfl) ?_
  refine SS.cons (so_getf (C := R_Q) (T := T_Q) hX d_Q_learn_96 in_Q rfl (by decide) k_501) ?_
  refine SS.cons (so_iload_n hX d_Q_learn_99 rfl) ?_
  refine SS.cons (so_aload_n hX d_Q_learn_100 rfl) ?_
  refine SS.cons (so_getf (C := R_Q) (T := T_Q) hX d_Q_learn_101 in_Q rfl (by decide) k_501) ?_
  refine SS.cons (so_iload_n hX d_Q_learn_104 rfl) ?_
  refine SS.cons (so_zald hX d_Q_learn_105) ?_
  exact st_if_eq hX d_Q_learn_106 (by decide)
theorem b_Q_learn_109 {l : Launch} {D : va_G} {cid : Nat → ClassId} {X : CT} {Post : PT} (hX : OK l D cid m_Q_learn X Post) : SS l D cid m_Q_learn X 109 [o_aload 0, o_getf 4 17, o_iload 3, o_ald 0, o_aload 0, o_getf 4 10, o_iload 3, o_ald 0] (t_cmp (fun x y => x < y) (FR l D cid m_Q_learn X 128) (FR l D cid m_Q_learn X 124)) := by
  refine SS.cons (so_aload_n hX d_Q_learn_109 rfl) ?_
  refine SS.cons (so_getf (C := R_Q) (T := T_Q) hX d_Q_learn_110 in_Q rfl (by decide) k_502) ?_
  refine SS.cons (so_iload_n hX d_Q_learn_113 rfl) ?_
  refine SS.cons (so_iald hX d_Q_learn_114) ?_
  refine SS.cons (so_aload_n hX d_Q_learn_115 rfl) ?_
  refine SS.cons (so_getf (C := R_Q) (T := T_Q) hX d_Q_learn_116 in_Q rfl (by decide) k_495) ?_
  refine SS.cons (so_iload_n hX d_Q_learn_119 rfl) ?_
  refine SS.cons (so_iald hX d_Q_learn_120) ?_
  exact st_icmp_lt hX d_Q_learn_121 (by decide)
theorem b_Q_learn_124 {l : Launch} {D : va_G} {cid : Nat → ClassId} {X : CT} {Post : PT} (hX : OK l D cid m_Q_learn X Post) : SS l D cid m_Q_learn X 124 [o_push (.int 1)] (FR l D cid m_Q_learn X 129) := by
  refine SS.cons (so_iconst hX d_Q_learn_124 (by decide)) ?_
  exact so_goto hX d_Q_learn_125 (by decide)
theorem b_Q_learn_128 {l : Launch} {D : va_G} {cid : Nat → ClassId} {X : CT} {Post : PT} (hX : OK l D cid m_Q_learn X Post) : SS l D cid m_Q_learn X 128 [o_push (.int 0)] (FR l D cid m_Q_learn X 129) := by
  refine SS.cons (so_iconst hX d_Q_learn_128 (by decide)) ?_
  exact SS.fall
theorem b_Q_learn_129 {l : Launch} {D : va_G} {cid : Nat → ClassId} {X : CT} {Post : PT} (hX : OK l D cid m_Q_learn X Post) : SS l D cid m_Q_learn X 129 [o_zst, o_iinc 2 1] (FR l D cid m_Q_learn X 2) := by
  refine SS.cons (so_zast hX d_Q_learn_129) ?_
  refine SS.cons (so_iinc hX d_Q_learn_130 (by decide) (by decide)) ?_
  exact so_goto hX d_Q_learn_133 (by decide)
theorem b_Q_learn_136 {l : Launch} {D : va_G} {cid : Nat → ClassId} {X : CT} {Post : PT} (hX : OK l D cid m_Q_learn X Post) : SS l D cid m_Q_learn X 136 [] (t_ret Post) := by
  exact st_ret hX d_Q_learn_136 rfl
abbrev m_Q_prepare : MT := (⟨"GroupLogModel", "prepare", "(II)V"⟩, prog_6_method_19_code, 5, (none : Option FieldType), { frames := 2, cells := 0, slots := 0, locals := 48 })
theorem pf_Q_prepare : plainFor m_Q_prepare.1 = true := by decide +kernel
theorem d_Q_prepare_0 : decode prog_6_method_19_code 0 = .ok (.aload_n 0, 1) := by decide +kernel
theorem d_Q_prepare_1 : decode prog_6_method_19_code 1 = .ok (.getfield 7, 3) := by decide +kernel
theorem d_Q_prepare_4 : decode prog_6_method_19_code 4 = .ok (.bipush 69, 2) := by decide +kernel
theorem d_Q_prepare_6 : decode prog_6_method_19_code 6 = .ok (.iaload, 1) := by decide +kernel
theorem d_Q_prepare_7 : decode prog_6_method_19_code 7 = .ok (.istore_n 3, 1) := by decide +kernel
theorem d_Q_prepare_8 : decode prog_6_method_19_code 8 = .ok (.aload_n 0, 1) := by decide +kernel
theorem d_Q_prepare_9 : decode prog_6_method_19_code 9 = .ok (.getfield 77, 3) := by decide +kernel
theorem d_Q_prepare_12 : decode prog_6_method_19_code 12 = .ok (.bipush 64, 2) := by decide +kernel
theorem d_Q_prepare_14 : decode prog_6_method_19_code 14 = .ok (.iaload, 1) := by decide +kernel
theorem d_Q_prepare_15 : decode prog_6_method_19_code 15 = .ok (.aload_n 0, 1) := by decide +kernel
theorem d_Q_prepare_16 : decode prog_6_method_19_code 16 = .ok (.getfield 25, 3) := by decide +kernel
theorem d_Q_prepare_19 : decode prog_6_method_19_code 19 = .ok (.iload_n 1, 1) := by decide +kernel
theorem d_Q_prepare_20 : decode prog_6_method_19_code 20 = .ok (.iaload, 1) := by decide +kernel
theorem d_Q_prepare_21 : decode prog_6_method_19_code 21 = .ok (.if_icmp .ge 4, 3) := by decide +kernel
theorem d_Q_prepare_24 : decode prog_6_method_19_code 24 = .ok (.return_, 1) := by decide +kernel
theorem d_Q_prepare_25 : decode prog_6_method_19_code 25 = .ok (.aload_n 0, 1) := by decide +kernel
theorem d_Q_prepare_26 : decode prog_6_method_19_code 26 = .ok (.getfield 77, 3) := by decide +kernel
theorem d_Q_prepare_29 : decode prog_6_method_19_code 29 = .ok (.bipush 64, 2) := by decide +kernel
theorem d_Q_prepare_31 : decode prog_6_method_19_code 31 = .ok (.iaload, 1) := by decide +kernel
theorem d_Q_prepare_32 : decode prog_6_method_19_code 32 = .ok (.aload_n 0, 1) := by decide +kernel
theorem d_Q_prepare_33 : decode prog_6_method_19_code 33 = .ok (.getfield 25, 3) := by decide +kernel
theorem d_Q_prepare_36 : decode prog_6_method_19_code 36 = .ok (.iload_n 1, 1) := by decide +kernel
theorem d_Q_prepare_37 : decode prog_6_method_19_code 37 = .ok (.iaload, 1) := by decide +kernel
theorem d_Q_prepare_38 : decode prog_6_method_19_code 38 = .ok (.if_icmp .gt 24, 3) := by decide +kernel
theorem d_Q_prepare_41 : decode prog_6_method_19_code 41 = .ok (.aload_n 0, 1) := by decide +kernel
theorem d_Q_prepare_42 : decode prog_6_method_19_code 42 = .ok (.getfield 22, 3) := by decide +kernel
theorem d_Q_prepare_45 : decode prog_6_method_19_code 45 = .ok (.iload_n 1, 1) := by decide +kernel
theorem d_Q_prepare_46 : decode prog_6_method_19_code 46 = .ok (.iaload, 1) := by decide +kernel
theorem d_Q_prepare_47 : decode prog_6_method_19_code 47 = .ok (.ifCond .ne 15, 3) := by decide +kernel
theorem d_Q_prepare_50 : decode prog_6_method_19_code 50 = .ok (.iload_n 3, 1) := by decide +kernel
theorem d_Q_prepare_51 : decode prog_6_method_19_code 51 = .ok (.aload_n 0, 1) := by decide +kernel
theorem d_Q_prepare_52 : decode prog_6_method_19_code 52 = .ok (.getfield 7, 3) := by decide +kernel
theorem d_Q_prepare_55 : decode prog_6_method_19_code 55 = .ok (.iload_n 1, 1) := by decide +kernel
theorem d_Q_prepare_56 : decode prog_6_method_19_code 56 = .ok (.iaload, 1) := by decide +kernel
theorem d_Q_prepare_57 : decode prog_6_method_19_code 57 = .ok (.iconst 1, 1) := by decide +kernel
theorem d_Q_prepare_58 : decode prog_6_method_19_code 58 = .ok (.iadd, 1) := by decide +kernel
theorem d_Q_prepare_59 : decode prog_6_method_19_code 59 = .ok (.if_icmp .le 11, 3) := by decide +kernel
theorem d_Q_prepare_62 : decode prog_6_method_19_code 62 = .ok (.aload_n 0, 1) := by decide +kernel
theorem d_Q_prepare_63 : decode prog_6_method_19_code 63 = .ok (.iload_n 1, 1) := by decide +kernel
theorem d_Q_prepare_64 : decode prog_6_method_19_code 64 = .ok (.iload_n 2, 1) := by decide +kernel
theorem d_Q_prepare_65 : decode prog_6_method_19_code 65 = .ok (.iconst 3, 1) := by decide +kernel
theorem d_Q_prepare_66 : decode prog_6_method_19_code 66 = .ok (.invokevirtual 120, 3) := by decide +kernel
theorem d_Q_prepare_69 : decode prog_6_method_19_code 69 = .ok (.return_, 1) := by decide +kernel
theorem d_Q_prepare_70 : decode prog_6_method_19_code 70 = .ok (.iload_n 3, 1) := by decide +kernel
theorem d_Q_prepare_71 : decode prog_6_method_19_code 71 = .ok (.aload_n 0, 1) := by decide +kernel
theorem d_Q_prepare_72 : decode prog_6_method_19_code 72 = .ok (.getfield 7, 3) := by decide +kernel
theorem d_Q_prepare_75 : decode prog_6_method_19_code 75 = .ok (.iload_n 1, 1) := by decide +kernel
theorem d_Q_prepare_76 : decode prog_6_method_19_code 76 = .ok (.iaload, 1) := by decide +kernel
theorem d_Q_prepare_77 : decode prog_6_method_19_code 77 = .ok (.iconst 1, 1) := by decide +kernel
theorem d_Q_prepare_78 : decode prog_6_method_19_code 78 = .ok (.iadd, 1) := by decide +kernel
theorem d_Q_prepare_79 : decode prog_6_method_19_code 79 = .ok (.if_icmp .ne 38, 3) := by decide +kernel
theorem d_Q_prepare_82 : decode prog_6_method_19_code 82 = .ok (.sipush 1656, 3) := by decide +kernel
theorem d_Q_prepare_85 : decode prog_6_method_19_code 85 = .ok (.iload_n 3, 1) := by decide +kernel
theorem d_Q_prepare_86 : decode prog_6_method_19_code 86 = .ok (.iadd, 1) := by decide +kernel
theorem d_Q_prepare_87 : decode prog_6_method_19_code 87 = .ok (.iconst 1, 1) := by decide +kernel
theorem d_Q_prepare_88 : decode prog_6_method_19_code 88 = .ok (.isub, 1) := by decide +kernel
theorem d_Q_prepare_89 : decode prog_6_method_19_code 89 = .ok (.istore 4, 2) := by decide +kernel
theorem d_Q_prepare_91 : decode prog_6_method_19_code 91 = .ok (.aload_n 0, 1) := by decide +kernel
theorem d_Q_prepare_92 : decode prog_6_method_19_code 92 = .ok (.iload_n 1, 1) := by decide +kernel
theorem d_Q_prepare_93 : decode prog_6_method_19_code 93 = .ok (.aload_n 0, 1) := by decide +kernel
theorem d_Q_prepare_94 : decode prog_6_method_19_code 94 = .ok (.getfield 13, 3) := by decide +kernel
theorem d_Q_prepare_97 : decode prog_6_method_19_code 97 = .ok (.iload 4, 2) := by decide +kernel
theorem d_Q_prepare_99 : decode prog_6_method_19_code 99 = .ok (.iaload, 1) := by decide +kernel
theorem d_Q_prepare_100 : decode prog_6_method_19_code 100 = .ok (.aload_n 0, 1) := by decide +kernel
theorem d_Q_prepare_101 : decode prog_6_method_19_code 101 = .ok (.getfield 16, 3) := by decide +kernel
theorem d_Q_prepare_104 : decode prog_6_method_19_code 104 = .ok (.iload 4, 2) := by decide +kernel
theorem d_Q_prepare_106 : decode prog_6_method_19_code 106 = .ok (.iaload, 1) := by decide +kernel
theorem d_Q_prepare_107 : decode prog_6_method_19_code 107 = .ok (.aload_n 0, 1) := by decide +kernel
theorem d_Q_prepare_108 : decode prog_6_method_19_code 108 = .ok (.getfield 19, 3) := by decide +kernel
theorem d_Q_prepare_111 : decode prog_6_method_19_code 111 = .ok (.iload 4, 2) := by decide +kernel
theorem d_Q_prepare_113 : decode prog_6_method_19_code 113 = .ok (.iaload, 1) := by decide +kernel
theorem d_Q_prepare_114 : decode prog_6_method_19_code 114 = .ok (.invokevirtual 159, 3) := by decide +kernel
theorem d_Q_prepare_117 : decode prog_6_method_19_code 117 = .ok (.aload_n 0, 1) := by decide +kernel
theorem d_Q_prepare_118 : decode prog_6_method_19_code 118 = .ok (.getfield 83, 3) := by decide +kernel
theorem d_Q_prepare_121 : decode prog_6_method_19_code 121 = .ok (.bipush 64, 2) := by decide +kernel
theorem d_Q_prepare_123 : decode prog_6_method_19_code 123 = .ok (.iaload, 1) := by decide +kernel
theorem d_Q_prepare_124 : decode prog_6_method_19_code 124 = .ok (.aload_n 0, 1) := by decide +kernel
theorem d_Q_prepare_125 : decode prog_6_method_19_code 125 = .ok (.getfield 7, 3) := by decide +kernel
theorem d_Q_prepare_128 : decode prog_6_method_19_code 128 = .ok (.iload_n 1, 1) := by decide +kernel
theorem d_Q_prepare_129 : decode prog_6_method_19_code 129 = .ok (.iaload, 1) := by decide +kernel
theorem d_Q_prepare_130 : decode prog_6_method_19_code 130 = .ok (.if_icmp .ge 13, 3) := by decide +kernel
theorem d_Q_prepare_133 : decode prog_6_method_19_code 133 = .ok (.aload_n 0, 1) := by decide +kernel
theorem d_Q_prepare_134 : decode prog_6_method_19_code 134 = .ok (.getfield 83, 3) := by decide +kernel
theorem d_Q_prepare_137 : decode prog_6_method_19_code 137 = .ok (.bipush 64, 2) := by decide +kernel
theorem d_Q_prepare_139 : decode prog_6_method_19_code 139 = .ok (.iaload, 1) := by decide +kernel
theorem d_Q_prepare_140 : decode prog_6_method_19_code 140 = .ok (.goto 9, 3) := by decide +kernel
theorem d_Q_prepare_143 : decode prog_6_method_19_code 143 = .ok (.aload_n 0, 1) := by decide +kernel
theorem d_Q_prepare_144 : decode prog_6_method_19_code 144 = .ok (.getfield 7, 3) := by decide +kernel
theorem d_Q_prepare_147 : decode prog_6_method_19_code 147 = .ok (.iload_n 1, 1) := by decide +kernel
theorem d_Q_prepare_148 : decode prog_6_method_19_code 148 = .ok (.iaload, 1) := by decide +kernel
theorem d_Q_prepare_149 : decode prog_6_method_19_code 149 = .ok (.istore 4, 2) := by decide +kernel
theorem d_Q_prepare_151 : decode prog_6_method_19_code 151 = .ok (.aload_n 0, 1) := by decide +kernel
theorem d_Q_prepare_152 : decode prog_6_method_19_code 152 = .ok (.getfield 31, 3) := by decide +kernel
theorem d_Q_prepare_155 : decode prog_6_method_19_code 155 = .ok (.iload_n 1, 1) := by decide +kernel
theorem d_Q_prepare_156 : decode prog_6_method_19_code 156 = .ok (.iload 4, 2) := by decide +kernel
theorem d_Q_prepare_158 : decode prog_6_method_19_code 158 = .ok (.aload_n 0, 1) := by decide +kernel
theorem d_Q_prepare_159 : decode prog_6_method_19_code 159 = .ok (.getfield 31, 3) := by decide +kernel
theorem d_Q_prepare_162 : decode prog_6_method_19_code 162 = .ok (.iload_n 1, 1) := by decide +kernel
theorem d_Q_prepare_163 : decode prog_6_method_19_code 163 = .ok (.iaload, 1) := by decide +kernel
theorem d_Q_prepare_164 : decode prog_6_method_19_code 164 = .ok (.if_icmp .le 8, 3) := by decide +kernel
theorem d_Q_prepare_167 : decode prog_6_method_19_code 167 = .ok (.iload 4, 2) := by decide +kernel
theorem d_Q_prepare_169 : decode prog_6_method_19_code 169 = .ok (.goto 9, 3) := by decide +kernel
theorem d_Q_prepare_172 : decode prog_6_method_19_code 172 = .ok (.aload_n 0, 1) := by decide +kernel
theorem d_Q_prepare_173 : decode prog_6_method_19_code 173 = .ok (.getfield 31, 3) := by decide +kernel
theorem d_Q_prepare_176 : decode prog_6_method_19_code 176 = .ok (.iload_n 1, 1) := by decide +kernel
theorem d_Q_prepare_177 : decode prog_6_method_19_code 177 = .ok (.iaload, 1) := by decide +kernel
theorem d_Q_prepare_178 : decode prog_6_method_19_code 178 = .ok (.iastore, 1) := by decide +kernel
theorem d_Q_prepare_179 : decode prog_6_method_19_code 179 = .ok (.aload_n 0, 1) := by decide +kernel
theorem d_Q_prepare_180 : decode prog_6_method_19_code 180 = .ok (.iload_n 1, 1) := by decide +kernel
theorem d_Q_prepare_181 : decode prog_6_method_19_code 181 = .ok (.iload_n 2, 1) := by decide +kernel
theorem d_Q_prepare_182 : decode prog_6_method_19_code 182 = .ok (.iconst 2, 1) := by decide +kernel
theorem d_Q_prepare_183 : decode prog_6_method_19_code 183 = .ok (.invokevirtual 120, 3) := by decide +kernel
theorem d_Q_prepare_186 : decode prog_6_method_19_code 186 = .ok (.return_, 1) := by decide +kernel
theorem b_Q_prepare_0 {l : Launch} {D : va_G} {cid : Nat → ClassId} {X : CT} {Post : PT} (hX : OK l D cid m_Q_prepare X Post) : SS l D cid m_Q_prepare X 0 [o_aload 0, o_getf 4 2, o_push (.int 69), o_ald 0, o_istore 3, o_aload 0, o_getf 4 24, o_push (.int 64), o_ald 0, o_aload 0, o_getf 4 7, o_iload 1, o_ald 0] (t_cmp (fun x y => y ≤ x) (FR l D cid m_Q_prepare X 25) (FR l D cid m_Q_prepare X 24)) := by
  refine SS.cons (so_aload_n hX d_Q_prepare_0 rfl) ?_
  refine SS.cons (so_getf (C := R_Q) (T := T_Q) hX d_Q_prepare_1 in_Q rfl (by decide) k_487) ?_
  refine SS.cons (so_bipush hX d_Q_prepare_4 (by decide)) ?_
  refine SS.cons (so_iald hX d_Q_prepare_6) ?_
  refine SS.cons (so_istore_n hX d_Q_prepare_7 rfl (by decide)) ?_
  refine SS.cons (so_aload_n hX d_Q_prepare_8 rfl) ?_
  refine SS.cons (so_getf (C := R_Q) (T := T_Q) hX d_Q_prepare_9 in_Q rfl (by decide) k_509) ?_
  refine SS.cons (so_bipush hX d_Q_prepare_12 (by decide)) ?_
  refine SS.cons (so_iald hX d_Q_prepare_14) ?_
  refine SS.cons (so_aload_n hX d_Q_prepare_15 rfl) ?_
  refine SS.cons (so_getf (C := R_Q) (T := T_Q) hX d_Q_prepare_16 in_Q rfl (by decide) k_492) ?_
  refine SS.cons (so_iload_n hX d_Q_prepare_19 rfl) ?_
  refine SS.cons (so_iald hX d_Q_prepare_20) ?_
  exact st_icmp_ge hX d_Q_prepare_21 (by decide)
theorem b_Q_prepare_24 {l : Launch} {D : va_G} {cid : Nat → ClassId} {X : CT} {Post : PT} (hX : OK l D cid m_Q_prepare X Post) : SS l D cid m_Q_prepare X 24 [] (t_ret Post) := by
  exact st_ret hX d_Q_prepare_24 rfl
theorem b_Q_prepare_25 {l : Launch} {D : va_G} {cid : Nat → ClassId} {X : CT} {Post : PT} (hX : OK l D cid m_Q_prepare X Post) : SS l D cid m_Q_prepare X 25 [o_aload 0, o_getf 4 24, o_push (.int 64), o_ald 0, o_aload 0, o_getf 4 7, o_iload 1, o_ald 0] (t_cmp (fun x y => y < x) (FR l D cid m_Q_prepare X 62) (FR l D cid m_Q_prepare X 41)) := by
  refine SS.cons (so_aload_n hX d_Q_prepare_25 rfl) ?_
  refine SS.cons (so_getf (C := R_Q) (T := T_Q) hX d_Q_prepare_26 in_Q rfl (by decide) k_509) ?_
  refine SS.cons (so_bipush hX d_Q_prepare_29 (by decide)) ?_
  refine SS.cons (so_iald hX d_Q_prepare_31) ?_
  refine SS.cons (so_aload_n hX d_Q_prepare_32 rfl) ?_
  refine SS.cons (so_getf (C := R_Q) (T := T_Q) hX d_Q_prepare_33 in_Q rfl (by decide) k_492) ?_
  refine SS.cons (so_iload_n hX d_Q_prepare_36 rfl) ?_
  refine SS.cons (so_iald hX d_Q_prepare_37) ?_
  exact st_icmp_gt hX d_Q_prepare_38 (by decide)
theorem b_Q_prepare_41 {l : Launch} {D : va_G} {cid : Nat → ClassId} {X : CT} {Post : PT} (hX : OK l D cid m_Q_prepare X Post) : SS l D cid m_Q_prepare X 41 [o_aload 0, o_getf 4 6, o_iload 1, o_ald 0] (t_if (fun x => ¬ x = 0) (FR l D cid m_Q_prepare X 62) (FR l D cid m_Q_prepare X 50)) := by
  refine SS.cons (so_aload_n hX d_Q_prepare_41 rfl) ?_
  refine SS.cons (so_getf (C := R_Q) (T := T_Q) hX d_Q_prepare_42 in_Q rfl (by decide) k_491) ?_
  refine SS.cons (so_iload_n hX d_Q_prepare_45 rfl) ?_
  refine SS.cons (so_iald hX d_Q_prepare_46) ?_
  exact st_if_ne hX d_Q_prepare_47 (by decide)
theorem b_Q_prepare_50 {l : Launch} {D : va_G} {cid : Nat → ClassId} {X : CT} {Post : PT} (hX : OK l D cid m_Q_prepare X Post) : SS l D cid m_Q_prepare X 50 [o_iload 3, o_aload 0, o_getf 4 2, o_iload 1, o_ald 0, o_push (.int 1), o_bin (fun x y => x + y)] (t_cmp (fun x y => x ≤ y) (FR l D cid m_Q_prepare X 70) (FR l D cid m_Q_prepare X 62)) := by
  refine SS.cons (so_iload_n hX d_Q_prepare_50 rfl) ?_
  refine SS.cons (so_aload_n hX d_Q_prepare_51 rfl) ?_
  refine SS.cons (so_getf (C := R_Q) (T := T_Q) hX d_Q_prepare_52 in_Q rfl (by decide) k_487) ?_
  refine SS.cons (so_iload_n hX d_Q_prepare_55 rfl) ?_
  refine SS.cons (so_iald hX d_Q_prepare_56) ?_
  refine SS.cons (so_iconst hX d_Q_prepare_57 (by decide)) ?_
  refine SS.cons (so_iadd hX d_Q_prepare_58) ?_
  exact st_icmp_le hX d_Q_prepare_59 (by decide)
theorem b_Q_prepare_62 {l : Launch} {D : va_G} {cid : Nat → ClassId} {X : CT} {Post : PT} (hX : OK l D cid m_Q_prepare X Post) : SS l D cid m_Q_prepare X 62 [o_aload 0, o_iload 1, o_iload 2, o_push (.int 3), o_callV l D cid m_Q_send 4 3] (t_ret Post) := by
  refine SS.cons (so_aload_n hX d_Q_prepare_62 rfl) ?_
  refine SS.cons (so_iload_n hX d_Q_prepare_63 rfl) ?_
  refine SS.cons (so_iload_n hX d_Q_prepare_64 rfl) ?_
  refine SS.cons (so_iconst hX d_Q_prepare_65 (by decide)) ?_
  refine SS.cons (so_callV (M' := m_Q_send) (T := T_Q) hX d_Q_prepare_66 rfl k_614 k_611 k_613 k_28 k_48 pf_Q_send (by decide) (by decide +kernel) ⟨by decide, by decide⟩) ?_
  exact st_ret hX d_Q_prepare_69 rfl
theorem b_Q_prepare_70 {l : Launch} {D : va_G} {cid : Nat → ClassId} {X : CT} {Post : PT} (hX : OK l D cid m_Q_prepare X Post) : SS l D cid m_Q_prepare X 70 [o_iload 3, o_aload 0, o_getf 4 2, o_iload 1, o_ald 0, o_push (.int 1), o_bin (fun x y => x + y)] (t_cmp (fun x y => ¬ x = y) (FR l D cid m_Q_prepare X 117) (FR l D cid m_Q_prepare X 82)) := by
  refine SS.cons (so_iload_n hX d_Q_prepare_70 rfl) ?_
  refine SS.cons (so_aload_n hX d_Q_prepare_71 rfl) ?_
  refine SS.cons (so_getf (C := R_Q) (T := T_Q) hX d_Q_prepare_72 in_Q rfl (by decide) k_487) ?_
  refine SS.cons (so_iload_n hX d_Q_prepare_75 rfl) ?_
  refine SS.cons (so_iald hX d_Q_prepare_76) ?_
  refine SS.cons (so_iconst hX d_Q_prepare_77 (by decide)) ?_
  refine SS.cons (so_iadd hX d_Q_prepare_78) ?_
  exact st_icmp_ne hX d_Q_prepare_79 (by decide)
theorem b_Q_prepare_82 {l : Launch} {D : va_G} {cid : Nat → ClassId} {X : CT} {Post : PT} (hX : OK l D cid m_Q_prepare X Post) : SS l D cid m_Q_prepare X 82 [o_push (.int 1656), o_iload 3, o_bin (fun x y => x + y), o_push (.int 1), o_bin (fun x y => x - y), o_istore 4, o_aload 0, o_iload 1, o_aload 0, o_getf 4 3, o_iload 4, o_ald 0, o_aload 0, o_getf 4 4, o_iload 4, o_ald 0, o_aload 0, o_getf 4 5, o_iload 4, o_ald 0, o_callV l D cid m_Q_append 4 4] (FR l D cid m_Q_prepare X 117) := by
  refine SS.cons (so_sipush hX d_Q_prepare_82 (by decide)) ?_
  refine SS.cons (so_iload_n hX d_Q_prepare_85 rfl) ?_
  refine SS.cons (so_iadd hX d_Q_prepare_86) ?_
  refine SS.cons (so_iconst hX d_Q_prepare_87 (by decide)) ?_
  refine SS.cons (so_isub hX d_Q_prepare_88) ?_
  refine SS.cons (so_istore hX d_Q_prepare_89 (by decide)) ?_
  refine SS.cons (so_aload_n hX d_Q_prepare_91 rfl) ?_
  refine SS.cons (so_iload_n hX d_Q_prepare_92 rfl) ?_
  refine SS.cons (so_aload_n hX d_Q_prepare_93 rfl) ?_
  refine SS.cons (so_getf (C := R_Q) (T := T_Q) hX d_Q_prepare_94 in_Q rfl (by decide) k_488) ?_
  refine SS.cons (so_iload hX d_Q_prepare_97) ?_
  refine SS.cons (so_iald hX d_Q_prepare_99) ?_
  refine SS.cons (so_aload_n hX d_Q_prepare_100 rfl) ?_
  refine SS.cons (so_getf (C := R_Q) (T := T_Q) hX d_Q_prepare_101 in_Q rfl (by decide) k_489) ?_
  refine SS.cons (so_iload hX d_Q_prepare_104) ?_
  refine SS.cons (so_iald hX d_Q_prepare_106) ?_
  refine SS.cons (so_aload_n hX d_Q_prepare_107 rfl) ?_
  refine SS.cons (so_getf (C := R_Q) (T := T_Q) hX d_Q_prepare_108 in_Q rfl (by decide) k_490) ?_
  refine SS.cons (so_iload hX d_Q_prepare_111) ?_
  refine SS.cons (so_iald hX d_Q_prepare_113) ?_
  refine SS.cons (so_callV (M' := m_Q_append) (T := T_Q) hX d_Q_prepare_114 rfl k_618 k_615 k_617 k_29 k_48 pf_Q_append (by decide) (by decide +kernel) ⟨by decide, by decide⟩) ?_
  exact SS.fall
theorem b_Q_prepare_117 {l : Launch} {D : va_G} {cid : Nat → ClassId} {X : CT} {Post : PT} (hX : OK l D cid m_Q_prepare X Post) : SS l D cid m_Q_prepare X 117 [o_aload 0, o_getf 4 26, o_push (.int 64), o_ald 0, o_aload 0, o_getf 4 2, o_iload 1, o_ald 0] (t_cmp (fun x y => y ≤ x) (FR l D cid m_Q_prepare X 143) (FR l D cid m_Q_prepare X 133)) := by
  refine SS.cons (so_aload_n hX d_Q_prepare_117 rfl) ?_
  refine SS.cons (so_getf (C := R_Q) (T := T_Q) hX d_Q_prepare_118 in_Q rfl (by decide) k_511) ?_
  refine SS.cons (so_bipush hX d_Q_prepare_121 (by decide)) ?_
  refine SS.cons (so_iald hX d_Q_prepare_123) ?_
  refine SS.cons (so_aload_n hX d_Q_prepare_124 rfl) ?_
  refine SS.cons (so_getf (C := R_Q) (T := T_Q) hX d_Q_prepare_125 in_Q rfl (by decide) k_487) ?_
  refine SS.cons (so_iload_n hX d_Q_prepare_128 rfl) ?_
  refine SS.cons (so_iald hX d_Q_prepare_129) ?_
  exact st_icmp_ge hX d_Q_prepare_130 (by decide)
theorem b_Q_prepare_133 {l : Launch} {D : va_G} {cid : Nat → ClassId} {X : CT} {Post : PT} (hX : OK l D cid m_Q_prepare X Post) : SS l D cid m_Q_prepare X 133 [o_aload 0, o_getf 4 26, o_push (.int 64), o_ald 0] (FR l D cid m_Q_prepare X 149) := by
  refine SS.cons (so_aload_n hX d_Q_prepare_133 rfl) ?_
  refine SS.cons (so_getf (C := R_Q) (T := T_Q) hX d_Q_prepare_134 in_Q rfl (by decide) k_511) ?_
  refine SS.cons (so_bipush hX d_Q_prepare_137 (by decide)) ?_
  refine SS.cons (so_iald hX d_Q_prepare_139) ?_
  exact so_goto hX d_Q_prepare_140 (by decide)
theorem b_Q_prepare_143 {l : Launch} {D : va_G} {cid : Nat → ClassId} {X : CT} {Post : PT} (hX : OK l D cid m_Q_prepare X Post) : SS l D cid m_Q_prepare X 143 [o_aload 0, o_getf 4 2, o_iload 1, o_ald 0] (FR l D cid m_Q_prepare X 149) := by
  refine SS.cons (so_aload_n hX d_Q_prepare_143 rfl) ?_
  refine SS.cons (so_getf (C := R_Q) (T := T_Q) hX d_Q_prepare_144 in_Q rfl (by decide) k_487) ?_
  refine SS.cons (so_iload_n hX d_Q_prepare_147 rfl) ?_
  refine SS.cons (so_iald hX d_Q_prepare_148) ?_
  exact SS.fall
theorem b_Q_prepare_149 {l : Launch} {D : va_G} {cid : Nat → ClassId} {X : CT} {Post : PT} (hX : OK l D cid m_Q_prepare X Post) : SS l D cid m_Q_prepare X 149 [o_istore 4, o_aload 0, o_getf 4 9, o_iload 1, o_iload 4, o_aload 0, o_getf 4 9, o_iload 1, o_ald 0] (t_cmp (fun x y => x ≤ y) (FR l D cid m_Q_prepare X 172) (FR l D cid m_Q_prepare X 167)) := by
  refine SS.cons (so_istore hX d_Q_prepare_149 (by decide)) ?_
  refine SS.cons (so_aload_n hX d_Q_prepare_151 rfl) ?_
  refine SS.cons (so_getf (C := R_Q) (T := T_Q) hX d_Q_prepare_152 in_Q rfl (by decide) k_494) ?_
  refine SS.cons (so_iload_n hX d_Q_prepare_155 rfl) ?_
  refine SS.cons (so_iload hX d_Q_prepare_156) ?_
  refine SS.cons (so_aload_n hX d_Q_prepare_158 rfl) ?_
  refine SS.cons (so_getf (C := R_Q) (T := T_Q) hX d_Q_prepare_159 in_Q rfl (by decide) k_494) ?_
  refine SS.cons (so_iload_n hX d_Q_prepare_162 rfl) ?_
  refine SS.cons (so_iald hX d_Q_prepare_163) ?_
  exact st_icmp_le hX d_Q_prepare_164 (by decide)
theorem b_Q_prepare_167 {l : Launch} {D : va_G} {cid : Nat → ClassId} {X : CT} {Post : PT} (hX : OK l D cid m_Q_prepare X Post) : SS l D cid m_Q_prepare X 167 [o_iload 4] (FR l D cid m_Q_prepare X 178) := by
  refine SS.cons (so_iload hX d_Q_prepare_167) ?_
  exact so_goto hX d_Q_prepare_169 (by decide)
theorem b_Q_prepare_172 {l : Launch} {D : va_G} {cid : Nat → ClassId} {X : CT} {Post : PT} (hX : OK l D cid m_Q_prepare X Post) : SS l D cid m_Q_prepare X 172 [o_aload 0, o_getf 4 9, o_iload 1, o_ald 0] (FR l D cid m_Q_prepare X 178) := by
  refine SS.cons (so_aload_n hX d_Q_prepare_172 rfl) ?_
  refine SS.cons (so_getf (C := R_Q) (T := T_Q) hX d_Q_prepare_173 in_Q rfl (by decide) k_494) ?_
  refine SS.cons (so_iload_n hX d_Q_prepare_176 rfl) ?_
  refine SS.cons (so_iald hX d_Q_prepare_177) ?_
  exact SS.fall
theorem b_Q_prepare_178 {l : Launch} {D : va_G} {cid : Nat → ClassId} {X : CT} {Post : PT} (hX : OK l D cid m_Q_prepare X Post) : SS l D cid m_Q_prepare X 178 [o_ast, o_aload 0, o_iload 1, o_iload 2, o_push (.int 2), o_callV l D cid m_Q_send 4 3] (t_ret Post) := by
  refine SS.cons (so_iast hX d_Q_prepare_178) ?_
  refine SS.cons (so_aload_n hX d_Q_prepare_179 rfl) ?_
  refine SS.cons (so_iload_n hX d_Q_prepare_180 rfl) ?_
  refine SS.cons (so_iload_n hX d_Q_prepare_181 rfl) ?_
  refine SS.cons (so_iconst hX d_Q_prepare_182 (by decide)) ?_
  refine SS.cons (so_callV (M' := m_Q_send) (T := T_Q) hX d_Q_prepare_183 rfl k_614 k_611 k_613 k_28 k_48 pf_Q_send (by decide) (by decide +kernel) ⟨by decide, by decide⟩) ?_
  exact st_ret hX d_Q_prepare_186 rfl
abbrev m_Q_ok : MT := (⟨"GroupLogModel", "ok", "(II)V"⟩, prog_6_method_20_code, 8, (none : Option FieldType), { frames := 2, cells := 0, slots := 0, locals := 47 })
theorem pf_Q_ok : plainFor m_Q_ok.1 = true := by decide +kernel
theorem d_Q_ok_0 : decode prog_6_method_20_code 0 = .ok (.aload_n 0, 1) := by decide +kernel
theorem d_Q_ok_1 : decode prog_6_method_20_code 1 = .ok (.getfield 7, 3) := by decide +kernel
theorem d_Q_ok_4 : decode prog_6_method_20_code 4 = .ok (.bipush 69, 2) := by decide +kernel
theorem d_Q_ok_6 : decode prog_6_method_20_code 6 = .ok (.iaload, 1) := by decide +kernel
theorem d_Q_ok_7 : decode prog_6_method_20_code 7 = .ok (.istore_n 3, 1) := by decide +kernel
theorem d_Q_ok_8 : decode prog_6_method_20_code 8 = .ok (.aload_n 0, 1) := by decide +kernel
theorem d_Q_ok_9 : decode prog_6_method_20_code 9 = .ok (.iload_n 1, 1) := by decide +kernel
theorem d_Q_ok_10 : decode prog_6_method_20_code 10 = .ok (.invokevirtual 163, 3) := by decide +kernel
theorem d_Q_ok_13 : decode prog_6_method_20_code 13 = .ok (.ifCond .eq 19, 3) := by decide +kernel
theorem d_Q_ok_16 : decode prog_6_method_20_code 16 = .ok (.aload_n 0, 1) := by decide +kernel
theorem d_Q_ok_17 : decode prog_6_method_20_code 17 = .ok (.getfield 77, 3) := by decide +kernel
theorem d_Q_ok_20 : decode prog_6_method_20_code 20 = .ok (.bipush 64, 2) := by decide +kernel
theorem d_Q_ok_22 : decode prog_6_method_20_code 22 = .ok (.iaload, 1) := by decide +kernel
theorem d_Q_ok_23 : decode prog_6_method_20_code 23 = .ok (.aload_n 0, 1) := by decide +kernel
theorem d_Q_ok_24 : decode prog_6_method_20_code 24 = .ok (.getfield 25, 3) := by decide +kernel
theorem d_Q_ok_27 : decode prog_6_method_20_code 27 = .ok (.iload_n 1, 1) := by decide +kernel
theorem d_Q_ok_28 : decode prog_6_method_20_code 28 = .ok (.iaload, 1) := by decide +kernel
theorem d_Q_ok_29 : decode prog_6_method_20_code 29 = .ok (.if_icmp .eq 4, 3) := by decide +kernel
theorem d_Q_ok_32 : decode prog_6_method_20_code 32 = .ok (.return_, 1) := by decide +kernel
theorem d_Q_ok_33 : decode prog_6_method_20_code 33 = .ok (.aload_n 0, 1) := by decide +kernel
theorem d_Q_ok_34 : decode prog_6_method_20_code 34 = .ok (.getfield 37, 3) := by decide +kernel
theorem d_Q_ok_37 : decode prog_6_method_20_code 37 = .ok (.iconst 5, 1) := by decide +kernel
theorem d_Q_ok_38 : decode prog_6_method_20_code 38 = .ok (.iload_n 1, 1) := by decide +kernel
theorem d_Q_ok_39 : decode prog_6_method_20_code 39 = .ok (.imul, 1) := by decide +kernel
theorem d_Q_ok_40 : decode prog_6_method_20_code 40 = .ok (.iload_n 2, 1) := by decide +kernel
theorem d_Q_ok_41 : decode prog_6_method_20_code 41 = .ok (.iadd, 1) := by decide +kernel
theorem d_Q_ok_42 : decode prog_6_method_20_code 42 = .ok (.iload_n 3, 1) := by decide +kernel
theorem d_Q_ok_43 : decode prog_6_method_20_code 43 = .ok (.aload_n 0, 1) := by decide +kernel
theorem d_Q_ok_44 : decode prog_6_method_20_code 44 = .ok (.getfield 37, 3) := by decide +kernel
theorem d_Q_ok_47 : decode prog_6_method_20_code 47 = .ok (.iconst 5, 1) := by decide +kernel
theorem d_Q_ok_48 : decode prog_6_method_20_code 48 = .ok (.iload_n 1, 1) := by decide +kernel
theorem d_Q_ok_49 : decode prog_6_method_20_code 49 = .ok (.imul, 1) := by decide +kernel
theorem d_Q_ok_50 : decode prog_6_method_20_code 50 = .ok (.iload_n 2, 1) := by decide +kernel
theorem d_Q_ok_51 : decode prog_6_method_20_code 51 = .ok (.iadd, 1) := by decide +kernel
theorem d_Q_ok_52 : decode prog_6_method_20_code 52 = .ok (.iaload, 1) := by decide +kernel
theorem d_Q_ok_53 : decode prog_6_method_20_code 53 = .ok (.if_icmp .le 7, 3) := by decide +kernel
theorem d_Q_ok_56 : decode prog_6_method_20_code 56 = .ok (.iload_n 3, 1) := by decide +kernel
theorem d_Q_ok_57 : decode prog_6_method_20_code 57 = .ok (.goto 13, 3) := by decide +kernel
theorem d_Q_ok_60 : decode prog_6_method_20_code 60 = .ok (.aload_n 0, 1) := by decide +kernel
theorem d_Q_ok_61 : decode prog_6_method_20_code 61 = .ok (.getfield 37, 3) := by decide +kernel
theorem d_Q_ok_64 : decode prog_6_method_20_code 64 = .ok (.iconst 5, 1) := by decide +kernel
theorem d_Q_ok_65 : decode prog_6_method_20_code 65 = .ok (.iload_n 1, 1) := by decide +kernel
theorem d_Q_ok_66 : decode prog_6_method_20_code 66 = .ok (.imul, 1) := by decide +kernel
theorem d_Q_ok_67 : decode prog_6_method_20_code 67 = .ok (.iload_n 2, 1) := by decide +kernel
theorem d_Q_ok_68 : decode prog_6_method_20_code 68 = .ok (.iadd, 1) := by decide +kernel
theorem d_Q_ok_69 : decode prog_6_method_20_code 69 = .ok (.iaload, 1) := by decide +kernel
theorem d_Q_ok_70 : decode prog_6_method_20_code 70 = .ok (.iastore, 1) := by decide +kernel
theorem d_Q_ok_71 : decode prog_6_method_20_code 71 = .ok (.aload_n 0, 1) := by decide +kernel
theorem d_Q_ok_72 : decode prog_6_method_20_code 72 = .ok (.getfield 31, 3) := by decide +kernel
theorem d_Q_ok_75 : decode prog_6_method_20_code 75 = .ok (.iload_n 1, 1) := by decide +kernel
theorem d_Q_ok_76 : decode prog_6_method_20_code 76 = .ok (.iaload, 1) := by decide +kernel
theorem d_Q_ok_77 : decode prog_6_method_20_code 77 = .ok (.istore 4, 2) := by decide +kernel
theorem d_Q_ok_79 : decode prog_6_method_20_code 79 = .ok (.iload 4, 2) := by decide +kernel
theorem d_Q_ok_81 : decode prog_6_method_20_code 81 = .ok (.iconst 1, 1) := by decide +kernel
theorem d_Q_ok_82 : decode prog_6_method_20_code 82 = .ok (.iadd, 1) := by decide +kernel
theorem d_Q_ok_83 : decode prog_6_method_20_code 83 = .ok (.istore 5, 2) := by decide +kernel
theorem d_Q_ok_85 : decode prog_6_method_20_code 85 = .ok (.iload 5, 2) := by decide +kernel
theorem d_Q_ok_87 : decode prog_6_method_20_code 87 = .ok (.bipush 24, 2) := by decide +kernel
theorem d_Q_ok_89 : decode prog_6_method_20_code 89 = .ok (.if_icmp .gt 89, 3) := by decide +kernel
theorem d_Q_ok_92 : decode prog_6_method_20_code 92 = .ok (.iconst 0, 1) := by decide +kernel
theorem d_Q_ok_93 : decode prog_6_method_20_code 93 = .ok (.istore 6, 2) := by decide +kernel
theorem d_Q_ok_95 : decode prog_6_method_20_code 95 = .ok (.iconst 0, 1) := by decide +kernel
theorem d_Q_ok_96 : decode prog_6_method_20_code 96 = .ok (.istore 7, 2) := by decide +kernel
theorem d_Q_ok_98 : decode prog_6_method_20_code 98 = .ok (.iload 7, 2) := by decide +kernel
theorem d_Q_ok_100 : decode prog_6_method_20_code 100 = .ok (.aload_n 0, 1) := by decide +kernel
theorem d_Q_ok_101 : decode prog_6_method_20_code 101 = .ok (.getfield 99, 3) := by decide +kernel
theorem d_Q_ok_104 : decode prog_6_method_20_code 104 = .ok (.if_icmp .ge 42, 3) := by decide +kernel
theorem d_Q_ok_107 : decode prog_6_method_20_code 107 = .ok (.iload 7, 2) := by decide +kernel
theorem d_Q_ok_109 : decode prog_6_method_20_code 109 = .ok (.iload_n 1, 1) := by decide +kernel
theorem d_Q_ok_110 : decode prog_6_method_20_code 110 = .ok (.if_icmp .eq 26, 3) := by decide +kernel
theorem d_Q_ok_113 : decode prog_6_method_20_code 113 = .ok (.aload_n 0, 1) := by decide +kernel
theorem d_Q_ok_114 : decode prog_6_method_20_code 114 = .ok (.getfield 37, 3) := by decide +kernel
theorem d_Q_ok_117 : decode prog_6_method_20_code 117 = .ok (.iconst 5, 1) := by decide +kernel
theorem d_Q_ok_118 : decode prog_6_method_20_code 118 = .ok (.iload_n 1, 1) := by decide +kernel
theorem d_Q_ok_119 : decode prog_6_method_20_code 119 = .ok (.imul, 1) := by decide +kernel
theorem d_Q_ok_120 : decode prog_6_method_20_code 120 = .ok (.iload 7, 2) := by decide +kernel
theorem d_Q_ok_122 : decode prog_6_method_20_code 122 = .ok (.iadd, 1) := by decide +kernel
theorem d_Q_ok_123 : decode prog_6_method_20_code 123 = .ok (.iaload, 1) := by decide +kernel
theorem d_Q_ok_124 : decode prog_6_method_20_code 124 = .ok (.iload 5, 2) := by decide +kernel
theorem d_Q_ok_126 : decode prog_6_method_20_code 126 = .ok (.if_icmp .lt 10, 3) := by decide +kernel
theorem d_Q_ok_129 : decode prog_6_method_20_code 129 = .ok (.iload 6, 2) := by decide +kernel
theorem d_Q_ok_131 : decode prog_6_method_20_code 131 = .ok (.iconst 1, 1) := by decide +kernel
theorem d_Q_ok_132 : decode prog_6_method_20_code 132 = .ok (.iadd, 1) := by decide +kernel
theorem d_Q_ok_133 : decode prog_6_method_20_code 133 = .ok (.goto 5, 3) := by decide +kernel
theorem d_Q_ok_136 : decode prog_6_method_20_code 136 = .ok (.iload 6, 2) := by decide +kernel
theorem d_Q_ok_138 : decode prog_6_method_20_code 138 = .ok (.istore 6, 2) := by decide +kernel
theorem d_Q_ok_140 : decode prog_6_method_20_code 140 = .ok (.iinc 7 1, 3) := by decide +kernel
theorem d_Q_ok_143 : decode prog_6_method_20_code 143 = .ok (.goto (-45), 3) := by decide +kernel
theorem d_Q_ok_146 : decode prog_6_method_20_code 146 = .ok (.aload_n 0, 1) := by decide +kernel
theorem d_Q_ok_147 : decode prog_6_method_20_code 147 = .ok (.getfield 31, 3) := by decide +kernel
theorem d_Q_ok_150 : decode prog_6_method_20_code 150 = .ok (.iload_n 1, 1) := by decide +kernel
theorem d_Q_ok_151 : decode prog_6_method_20_code 151 = .ok (.iload 6, 2) := by decide +kernel
theorem d_Q_ok_153 : decode prog_6_method_20_code 153 = .ok (.aload_n 0, 1) := by decide +kernel
theorem d_Q_ok_154 : decode prog_6_method_20_code 154 = .ok (.getfield 102, 3) := by decide +kernel
theorem d_Q_ok_157 : decode prog_6_method_20_code 157 = .ok (.if_icmp .lt 8, 3) := by decide +kernel
theorem d_Q_ok_160 : decode prog_6_method_20_code 160 = .ok (.iload 5, 2) := by decide +kernel
theorem d_Q_ok_162 : decode prog_6_method_20_code 162 = .ok (.goto 9, 3) := by decide +kernel
theorem d_Q_ok_165 : decode prog_6_method_20_code 165 = .ok (.aload_n 0, 1) := by decide +kernel
theorem d_Q_ok_166 : decode prog_6_method_20_code 166 = .ok (.getfield 31, 3) := by decide +kernel
theorem d_Q_ok_169 : decode prog_6_method_20_code 169 = .ok (.iload_n 1, 1) := by decide +kernel
theorem d_Q_ok_170 : decode prog_6_method_20_code 170 = .ok (.iaload, 1) := by decide +kernel
theorem d_Q_ok_171 : decode prog_6_method_20_code 171 = .ok (.iastore, 1) := by decide +kernel
theorem d_Q_ok_172 : decode prog_6_method_20_code 172 = .ok (.iinc 5 1, 3) := by decide +kernel
theorem d_Q_ok_175 : decode prog_6_method_20_code 175 = .ok (.goto (-90), 3) := by decide +kernel
theorem d_Q_ok_178 : decode prog_6_method_20_code 178 = .ok (.iload 4, 2) := by decide +kernel
theorem d_Q_ok_180 : decode prog_6_method_20_code 180 = .ok (.istore 5, 2) := by decide +kernel
theorem d_Q_ok_182 : decode prog_6_method_20_code 182 = .ok (.iload 5, 2) := by decide +kernel
theorem d_Q_ok_184 : decode prog_6_method_20_code 184 = .ok (.aload_n 0, 1) := by decide +kernel
theorem d_Q_ok_185 : decode prog_6_method_20_code 185 = .ok (.getfield 31, 3) := by decide +kernel
theorem d_Q_ok_188 : decode prog_6_method_20_code 188 = .ok (.iload_n 1, 1) := by decide +kernel
theorem d_Q_ok_189 : decode prog_6_method_20_code 189 = .ok (.iaload, 1) := by decide +kernel
theorem d_Q_ok_190 : decode prog_6_method_20_code 190 = .ok (.if_icmp .ge 27, 3) := by decide +kernel
theorem d_Q_ok_193 : decode prog_6_method_20_code 193 = .ok (.iload 5, 2) := by decide +kernel
theorem d_Q_ok_195 : decode prog_6_method_20_code 195 = .ok (.aload_n 0, 1) := by decide +kernel
theorem d_Q_ok_196 : decode prog_6_method_20_code 196 = .ok (.getfield 7, 3) := by decide +kernel
theorem d_Q_ok_199 : decode prog_6_method_20_code 199 = .ok (.iload_n 1, 1) := by decide +kernel
theorem d_Q_ok_200 : decode prog_6_method_20_code 200 = .ok (.iaload, 1) := by decide +kernel
theorem d_Q_ok_201 : decode prog_6_method_20_code 201 = .ok (.if_icmp .ge 16, 3) := by decide +kernel
theorem d_Q_ok_204 : decode prog_6_method_20_code 204 = .ok (.aload_n 0, 1) := by decide +kernel
theorem d_Q_ok_205 : decode prog_6_method_20_code 205 = .ok (.iload_n 1, 1) := by decide +kernel
theorem d_Q_ok_206 : decode prog_6_method_20_code 206 = .ok (.iload 5, 2) := by decide +kernel
theorem d_Q_ok_208 : decode prog_6_method_20_code 208 = .ok (.invokevirtual 166, 3) := by decide +kernel
theorem d_Q_ok_211 : decode prog_6_method_20_code 211 = .ok (.iinc 5 1, 3) := by decide +kernel
theorem d_Q_ok_214 : decode prog_6_method_20_code 214 = .ok (.goto (-32), 3) := by decide +kernel
theorem d_Q_ok_217 : decode prog_6_method_20_code 217 = .ok (.return_, 1) := by decide +kernel
theorem b_Q_ok_0 {l : Launch} {D : va_G} {cid : Nat → ClassId} {X : CT} {Post : PT} (hX : OK l D cid m_Q_ok X Post) : SS l D cid m_Q_ok X 0 [o_aload 0, o_getf 4 2, o_push (.int 69), o_ald 0, o_istore 3, o_aload 0, o_iload 1, o_callV l D cid m_Q_leads 4 1] (t_if (fun x => x = 0) (FR l D cid m_Q_ok X 32) (FR l D cid m_Q_ok X 16)) := by
  refine SS.cons (so_aload_n hX d_Q_ok_0 rfl) ?_
  refine SS.cons (so_getf (C := R_Q) (T := T_Q) hX d_Q_ok_1 in_Q rfl (by decide) k_487) ?_
  refine SS.cons (so_bipush hX d_Q_ok_4 (by decide)) ?_
  refine SS.cons (so_iald hX d_Q_ok_6) ?_
  refine SS.cons (so_istore_n hX d_Q_ok_7 rfl (by decide)) ?_
  refine SS.cons (so_aload_n hX d_Q_ok_8 rfl) ?_
  refine SS.cons (so_iload_n hX d_Q_ok_9 rfl) ?_
  refine SS.cons (so_callV (M' := m_Q_leads) (T := T_Q) hX d_Q_ok_10 rfl k_626 k_623 k_625 k_31 k_48 pf_Q_leads (by decide) (by decide +kernel) ⟨by decide, by decide⟩) ?_
  exact st_if_eq hX d_Q_ok_13 (by decide)
theorem b_Q_ok_16 {l : Launch} {D : va_G} {cid : Nat → ClassId} {X : CT} {Post : PT} (hX : OK l D cid m_Q_ok X Post) : SS l D cid m_Q_ok X 16 [o_aload 0, o_getf 4 24, o_push (.int 64), o_ald 0, o_aload 0, o_getf 4 7, o_iload 1, o_ald 0] (t_cmp (fun x y => x = y) (FR l D cid m_Q_ok X 33) (FR l D cid m_Q_ok X 32)) := by
  refine SS.cons (so_aload_n hX d_Q_ok_16 rfl) ?_
  refine SS.cons (so_getf (C := R_Q) (T := T_Q) hX d_Q_ok_17 in_Q rfl (by decide) k_509) ?_
  refine SS.cons (so_bipush hX d_Q_ok_20 (by decide)) ?_
  refine SS.cons (so_iald hX d_Q_ok_22) ?_
  refine SS.cons (so_aload_n hX d_Q_ok_23 rfl) ?_
  refine SS.cons (so_getf (C := R_Q) (T := T_Q) hX d_Q_ok_24 in_Q rfl (by decide) k_492) ?_
  refine SS.cons (so_iload_n hX d_Q_ok_27 rfl) ?_
  refine SS.cons (so_iald hX d_Q_ok_28) ?_
  exact st_icmp_eq hX d_Q_ok_29 (by decide)
theorem b_Q_ok_32 {l : Launch} {D : va_G} {cid : Nat → ClassId} {X : CT} {Post : PT} (hX : OK l D cid m_Q_ok X Post) : SS l D cid m_Q_ok X 32 [] (t_ret Post) := by
  exact st_ret hX d_Q_ok_32 rfl
theorem b_Q_ok_33 {l : Launch} {D : va_G} {cid : Nat → ClassId} {X : CT} {Post : PT} (hX : OK l D cid m_Q_ok X Post) : SS l D cid m_Q_ok X 33 [o_aload 0, o_getf 4 11, o_push (.int 5), o_iload 1, o_bin (fun x y => x * y), o_iload 2, o_bin (fun x y => x + y), o_iload 3, o_aload 0, o_getf 4 11, o_push (.int 5), o_iload 1, o_bin (fun x y => x * y), o_iload 2, o_bin (fun x y => x + y), o_ald 0] (t_cmp (fun x y => x ≤ y) (FR l D cid m_Q_ok X 60) (FR l D cid m_Q_ok X 56)) := by
  refine SS.cons (so_aload_n hX d_Q_ok_33 rfl) ?_
  refine SS.cons (so_getf (C := R_Q) (T := T_Q) hX d_Q_ok_34 in_Q rfl (by decide) k_496) ?_
  refine SS.cons (so_iconst hX d_Q_ok_37 (by decide)) ?_
  refine SS.cons (so_iload_n hX d_Q_ok_38 rfl) ?_
  refine SS.cons (so_imul hX d_Q_ok_39) ?_
  refine SS.cons (so_iload_n hX d_Q_ok_40 rfl) ?_
  refine SS.cons (so_iadd hX d_Q_ok_41) ?_
  refine SS.cons (so_iload_n hX d_Q_ok_42 rfl) ?_
  refine SS.cons (so_aload_n hX d_Q_ok_43 rfl) ?_
  refine SS.cons (so_getf (C := R_Q) (T := T_Q) hX d_Q_ok_44 in_Q rfl (by decide) k_496) ?_
  refine SS.cons (so_iconst hX d_Q_ok_47 (by decide)) ?_
  refine SS.cons (so_iload_n hX d_Q_ok_48 rfl) ?_
  refine SS.cons (so_imul hX d_Q_ok_49) ?_
  refine SS.cons (so_iload_n hX d_Q_ok_50 rfl) ?_
  refine SS.cons (so_iadd hX d_Q_ok_51) ?_
  refine SS.cons (so_iald hX d_Q_ok_52) ?_
  exact st_icmp_le hX d_Q_ok_53 (by decide)
theorem b_Q_ok_56 {l : Launch} {D : va_G} {cid : Nat → ClassId} {X : CT} {Post : PT} (hX : OK l D cid m_Q_ok X Post) : SS l D cid m_Q_ok X 56 [o_iload 3] (FR l D cid m_Q_ok X 70) := by
  refine SS.cons (so_iload_n hX d_Q_ok_56 rfl) ?_
  exact so_goto hX d_Q_ok_57 (by decide)
theorem b_Q_ok_60 {l : Launch} {D : va_G} {cid : Nat → ClassId} {X : CT} {Post : PT} (hX : OK l D cid m_Q_ok X Post) : SS l D cid m_Q_ok X 60 [o_aload 0, o_getf 4 11, o_push (.int 5), o_iload 1, o_bin (fun x y => x * y), o_iload 2, o_bin (fun x y => x + y), o_ald 0] (FR l D cid m_Q_ok X 70) := by
  refine SS.cons (so_aload_n hX d_Q_ok_60 rfl) ?_
  refine SS.cons (so_getf (C := R_Q) (T := T_Q) hX d_Q_ok_61 in_Q rfl (by decide) k_496) ?_
  refine SS.cons (so_iconst hX d_Q_ok_64 (by decide)) ?_
  refine SS.cons (so_iload_n hX d_Q_ok_65 rfl) ?_
  refine SS.cons (so_imul hX d_Q_ok_66) ?_
  refine SS.cons (so_iload_n hX d_Q_ok_67 rfl) ?_
  refine SS.cons (so_iadd hX d_Q_ok_68) ?_
  refine SS.cons (so_iald hX d_Q_ok_69) ?_
  exact SS.fall
theorem b_Q_ok_70 {l : Launch} {D : va_G} {cid : Nat → ClassId} {X : CT} {Post : PT} (hX : OK l D cid m_Q_ok X Post) : SS l D cid m_Q_ok X 70 [o_ast, o_aload 0, o_getf 4 9, o_iload 1, o_ald 0, o_istore 4, o_iload 4, o_push (.int 1), o_bin (fun x y => x + y), o_istore 5] (FR l D cid m_Q_ok X 85) := by
  refine SS.cons (so_iast hX d_Q_ok_70) ?_
  refine SS.cons (so_aload_n hX d_Q_ok_71 rfl) ?_
  refine SS.cons (so_getf (C := R_Q) (T := T_Q) hX d_Q_ok_72 in_Q rfl (by decide) k_494) ?_
  refine SS.cons (so_iload_n hX d_Q_ok_75 rfl) ?_
  refine SS.cons (so_iald hX d_Q_ok_76) ?_
  refine SS.cons (so_istore hX d_Q_ok_77 (by decide)) ?_
  refine SS.cons (so_iload hX d_Q_ok_79) ?_
  refine SS.cons (so_iconst hX d_Q_ok_81 (by decide)) ?_
  refine SS.cons (so_iadd hX d_Q_ok_82) ?_
  refine SS.cons (so_istore hX d_Q_ok_83 (by decide)) ?_
  exact SS.fall
theorem b_Q_ok_85 {l : Launch} {D : va_G} {cid : Nat → ClassId} {X : CT} {Post : PT} (hX : OK l D cid m_Q_ok X Post) : SS l D cid m_Q_ok X 85 [o_iload 5, o_push (.int 24)] (t_cmp (fun x y => y < x) (FR l D cid m_Q_ok X 178) (FR l D cid m_Q_ok X 92)) := by
  refine SS.cons (so_iload hX d_Q_ok_85) ?_
  refine SS.cons (so_bipush hX d_Q_ok_87 (by decide)) ?_
  exact st_icmp_gt hX d_Q_ok_89 (by decide)
theorem b_Q_ok_92 {l : Launch} {D : va_G} {cid : Nat → ClassId} {X : CT} {Post : PT} (hX : OK l D cid m_Q_ok X Post) : SS l D cid m_Q_ok X 92 [o_push (.int 0), o_istore 6, o_push (.int 0), o_istore 7] (FR l D cid m_Q_ok X 98) := by
  refine SS.cons (so_iconst hX d_Q_ok_92 (by decide)) ?_
  refine SS.cons (so_istore hX d_Q_ok_93 (by decide)) ?_
  refine SS.cons (so_iconst hX d_Q_ok_95 (by decide)) ?_
  refine SS.cons (so_istore hX d_Q_ok_96 (by decide)) ?_
  exact SS.fall
theorem b_Q_ok_98 {l : Launch} {D : va_G} {cid : Nat → ClassId} {X : CT} {Post : PT} (hX : OK l D cid m_Q_ok X Post) : SS l D cid m_Q_ok X 98 [o_iload 7, o_aload 0, o_getf 4 0] (t_cmp (fun x y => y ≤ x) (FR l D cid m_Q_ok X 146) (FR l D cid m_Q_ok X 107)) := by
  refine SS.cons (so_iload hX d_Q_ok_98) ?_
  refine SS.cons (so_aload_n hX d_Q_ok_100 rfl) ?_
  refine SS.cons (so_getf (C := R_Q) (T := T_Q) hX d_Q_ok_101 in_Q rfl (by decide) k_485) ?_
  exact st_icmp_ge hX d_Q_ok_104 (by decide)
theorem b_Q_ok_107 {l : Launch} {D : va_G} {cid : Nat → ClassId} {X : CT} {Post : PT} (hX : OK l D cid m_Q_ok X Post) : SS l D cid m_Q_ok X 107 [o_iload 7, o_iload 1] (t_cmp (fun x y => x = y) (FR l D cid m_Q_ok X 136) (FR l D cid m_Q_ok X 113)) := by
  refine SS.cons (so_iload hX d_Q_ok_107) ?_
  refine SS.cons (so_iload_n hX d_Q_ok_109 rfl) ?_
  exact st_icmp_eq hX d_Q_ok_110 (by decide)
theorem b_Q_ok_113 {l : Launch} {D : va_G} {cid : Nat → ClassId} {X : CT} {Post : PT} (hX : OK l D cid m_Q_ok X Post) : SS l D cid m_Q_ok X 113 [o_aload 0, o_getf 4 11, o_push (.int 5), o_iload 1, o_bin (fun x y => x * y), o_iload 7, o_bin (fun x y => x + y), o_ald 0, o_iload 5] (t_cmp (fun x y => x < y) (FR l D cid m_Q_ok X 136) (FR l D cid m_Q_ok X 129)) := by
  refine SS.cons (so_aload_n hX d_Q_ok_113 rfl) ?_
  refine SS.cons (so_getf (C := R_Q) (T := T_Q) hX d_Q_ok_114 in_Q rfl (by decide) k_496) ?_
  refine SS.cons (so_iconst hX d_Q_ok_117 (by decide)) ?_
  refine SS.cons (so_iload_n hX d_Q_ok_118 rfl) ?_
  refine SS.cons (so_imul hX d_Q_ok_119) ?_
  refine SS.cons (so_iload hX d_Q_ok_120) ?_
  refine SS.cons (so_iadd hX d_Q_ok_122) ?_
  refine SS.cons (so_iald hX d_Q_ok_123) ?_
  refine SS.cons (so_iload hX d_Q_ok_124) ?_
  exact st_icmp_lt hX d_Q_ok_126 (by decide)
theorem b_Q_ok_129 {l : Launch} {D : va_G} {cid : Nat → ClassId} {X : CT} {Post : PT} (hX : OK l D cid m_Q_ok X Post) : SS l D cid m_Q_ok X 129 [o_iload 6, o_push (.int 1), o_bin (fun x y => x + y)] (FR l D cid m_Q_ok X 138) := by
  refine SS.cons (so_iload hX d_Q_ok_129) ?_
  refine SS.cons (so_iconst hX d_Q_ok_131 (by decide)) ?_
  refine SS.cons (so_iadd hX d_Q_ok_132) ?_
  exact so_goto hX d_Q_ok_133 (by decide)
theorem b_Q_ok_136 {l : Launch} {D : va_G} {cid : Nat → ClassId} {X : CT} {Post : PT} (hX : OK l D cid m_Q_ok X Post) : SS l D cid m_Q_ok X 136 [o_iload 6] (FR l D cid m_Q_ok X 138) := by
  refine SS.cons (so_iload hX d_Q_ok_136) ?_
  exact SS.fall
theorem b_Q_ok_138 {l : Launch} {D : va_G} {cid : Nat → ClassId} {X : CT} {Post : PT} (hX : OK l D cid m_Q_ok X Post) : SS l D cid m_Q_ok X 138 [o_istore 6, o_iinc 7 1] (FR l D cid m_Q_ok X 98) := by
  refine SS.cons (so_istore hX d_Q_ok_138 (by decide)) ?_
  refine SS.cons (so_iinc hX d_Q_ok_140 (by decide) (by decide)) ?_
  exact so_goto hX d_Q_ok_143 (by decide)
theorem b_Q_ok_146 {l : Launch} {D : va_G} {cid : Nat → ClassId} {X : CT} {Post : PT} (hX : OK l D cid m_Q_ok X Post) : SS l D cid m_Q_ok X 146 [o_aload 0, o_getf 4 9, o_iload 1, o_iload 6, o_aload 0, o_getf 4 1] (t_cmp (fun x y => x < y) (FR l D cid m_Q_ok X 165) (FR l D cid m_Q_ok X 160)) := by
  refine SS.cons (so_aload_n hX d_Q_ok_146 rfl) ?_
  refine SS.cons (so_getf (C := R_Q) (T := T_Q) hX d_Q_ok_147 in_Q rfl (by decide) k_494) ?_
  refine SS.cons (so_iload_n hX d_Q_ok_150 rfl) ?_
  refine SS.cons (so_iload hX d_Q_ok_151) ?_
  refine SS.cons (so_aload_n hX d_Q_ok_153 rfl) ?_
  refine SS.cons (so_getf (C := R_Q) (T := T_Q) hX d_Q_ok_154 in_Q rfl (by decide) k_486) ?_
  exact st_icmp_lt hX d_Q_ok_157 (by decide)
theorem b_Q_ok_160 {l : Launch} {D : va_G} {cid : Nat → ClassId} {X : CT} {Post : PT} (hX : OK l D cid m_Q_ok X Post) : SS l D cid m_Q_ok X 160 [o_iload 5] (FR l D cid m_Q_ok X 171) := by
  refine SS.cons (so_iload hX d_Q_ok_160) ?_
  exact so_goto hX d_Q_ok_162 (by decide)
theorem b_Q_ok_165 {l : Launch} {D : va_G} {cid : Nat → ClassId} {X : CT} {Post : PT} (hX : OK l D cid m_Q_ok X Post) : SS l D cid m_Q_ok X 165 [o_aload 0, o_getf 4 9, o_iload 1, o_ald 0] (FR l D cid m_Q_ok X 171) := by
  refine SS.cons (so_aload_n hX d_Q_ok_165 rfl) ?_
  refine SS.cons (so_getf (C := R_Q) (T := T_Q) hX d_Q_ok_166 in_Q rfl (by decide) k_494) ?_
  refine SS.cons (so_iload_n hX d_Q_ok_169 rfl) ?_
  refine SS.cons (so_iald hX d_Q_ok_170) ?_
  exact SS.fall
theorem b_Q_ok_171 {l : Launch} {D : va_G} {cid : Nat → ClassId} {X : CT} {Post : PT} (hX : OK l D cid m_Q_ok X Post) : SS l D cid m_Q_ok X 171 [o_ast, o_iinc 5 1] (FR l D cid m_Q_ok X 85) := by
  refine SS.cons (so_iast hX d_Q_ok_171) ?_
  refine SS.cons (so_iinc hX d_Q_ok_172 (by decide) (by decide)) ?_
  exact so_goto hX d_Q_ok_175 (by decide)
theorem b_Q_ok_178 {l : Launch} {D : va_G} {cid : Nat → ClassId} {X : CT} {Post : PT} (hX : OK l D cid m_Q_ok X Post) : SS l D cid m_Q_ok X 178 [o_iload 4, o_istore 5] (FR l D cid m_Q_ok X 182) := by
  refine SS.cons (so_iload hX d_Q_ok_178) ?_
  refine SS.cons (so_istore hX d_Q_ok_180 (by decide)) ?_
  exact SS.fall
theorem b_Q_ok_182 {l : Launch} {D : va_G} {cid : Nat → ClassId} {X : CT} {Post : PT} (hX : OK l D cid m_Q_ok X Post) : SS l D cid m_Q_ok X 182 [o_iload 5, o_aload 0, o_getf 4 9, o_iload 1, o_ald 0] (t_cmp (fun x y => y ≤ x) (FR l D cid m_Q_ok X 217) (FR l D cid m_Q_ok X 193)) := by
  refine SS.cons (so_iload hX d_Q_ok_182) ?_
  refine SS.cons (so_aload_n hX d_Q_ok_184 rfl) ?_
  refine SS.cons (so_getf (C := R_Q) (T := T_Q) hX d_Q_ok_185 in_Q rfl (by decide) k_494) ?_
  refine SS.cons (so_iload_n hX d_Q_ok_188 rfl) ?_
  refine SS.cons (so_iald hX d_Q_ok_189) ?_
  exact st_icmp_ge hX d_Q_ok_190 (by decide)
theorem b_Q_ok_193 {l : Launch} {D : va_G} {cid : Nat → ClassId} {X : CT} {Post : PT} (hX : OK l D cid m_Q_ok X Post) : SS l D cid m_Q_ok X 193 [o_iload 5, o_aload 0, o_getf 4 2, o_iload 1, o_ald 0] (t_cmp (fun x y => y ≤ x) (FR l D cid m_Q_ok X 217) (FR l D cid m_Q_ok X 204)) := by
  refine SS.cons (so_iload hX d_Q_ok_193) ?_
  refine SS.cons (so_aload_n hX d_Q_ok_195 rfl) ?_
  refine SS.cons (so_getf (C := R_Q) (T := T_Q) hX d_Q_ok_196 in_Q rfl (by decide) k_487) ?_
  refine SS.cons (so_iload_n hX d_Q_ok_199 rfl) ?_
  refine SS.cons (so_iald hX d_Q_ok_200) ?_
  exact st_icmp_ge hX d_Q_ok_201 (by decide)
theorem b_Q_ok_204 {l : Launch} {D : va_G} {cid : Nat → ClassId} {X : CT} {Post : PT} (hX : OK l D cid m_Q_ok X Post) : SS l D cid m_Q_ok X 204 [o_aload 0, o_iload 1, o_iload 5, o_callV l D cid m_Q_answerTo 4 2, o_iinc 5 1] (FR l D cid m_Q_ok X 182) := by
  refine SS.cons (so_aload_n hX d_Q_ok_204 rfl) ?_
  refine SS.cons (so_iload_n hX d_Q_ok_205 rfl) ?_
  refine SS.cons (so_iload hX d_Q_ok_206) ?_
  refine SS.cons (so_callV (M' := m_Q_answerTo) (T := T_Q) hX d_Q_ok_208 rfl k_630 k_627 k_629 k_32 k_48 pf_Q_answerTo (by decide) (by decide +kernel) ⟨by decide, by decide⟩) ?_
  refine SS.cons (so_iinc hX d_Q_ok_211 (by decide) (by decide)) ?_
  exact so_goto hX d_Q_ok_214 (by decide)
theorem b_Q_ok_217 {l : Launch} {D : va_G} {cid : Nat → ClassId} {X : CT} {Post : PT} (hX : OK l D cid m_Q_ok X Post) : SS l D cid m_Q_ok X 217 [] (t_ret Post) := by
  exact st_ret hX d_Q_ok_217 rfl
abbrev m_Q_state : MT := (⟨"GroupLogModel", "state", "(I)V"⟩, prog_6_method_21_code, 4, (none : Option FieldType), { frames := 2, cells := 0, slots := 0, locals := 48 })
theorem pf_Q_state : plainFor m_Q_state.1 = true := by decide +kernel
theorem d_Q_state_0 : decode prog_6_method_21_code 0 = .ok (.aload_n 0, 1) := by decide +kernel
theorem d_Q_state_1 : decode prog_6_method_21_code 1 = .ok (.getfield 77, 3) := by decide +kernel
theorem d_Q_state_4 : decode prog_6_method_21_code 4 = .ok (.bipush 64, 2) := by decide +kernel
theorem d_Q_state_6 : decode prog_6_method_21_code 6 = .ok (.iaload, 1) := by decide +kernel
theorem d_Q_state_7 : decode prog_6_method_21_code 7 = .ok (.istore_n 2, 1) := by decide +kernel
theorem d_Q_state_8 : decode prog_6_method_21_code 8 = .ok (.iload_n 2, 1) := by decide +kernel
theorem d_Q_state_9 : decode prog_6_method_21_code 9 = .ok (.aload_n 0, 1) := by decide +kernel
theorem d_Q_state_10 : decode prog_6_method_21_code 10 = .ok (.getfield 25, 3) := by decide +kernel
theorem d_Q_state_13 : decode prog_6_method_21_code 13 = .ok (.iload_n 1, 1) := by decide +kernel
theorem d_Q_state_14 : decode prog_6_method_21_code 14 = .ok (.iaload, 1) := by decide +kernel
theorem d_Q_state_15 : decode prog_6_method_21_code 15 = .ok (.if_icmp .gt 39, 3) := by decide +kernel
theorem d_Q_state_18 : decode prog_6_method_21_code 18 = .ok (.iload_n 2, 1) := by decide +kernel
theorem d_Q_state_19 : decode prog_6_method_21_code 19 = .ok (.aload_n 0, 1) := by decide +kernel
theorem d_Q_state_20 : decode prog_6_method_21_code 20 = .ok (.getfield 25, 3) := by decide +kernel
theorem d_Q_state_23 : decode prog_6_method_21_code 23 = .ok (.iload_n 1, 1) := by decide +kernel
theorem d_Q_state_24 : decode prog_6_method_21_code 24 = .ok (.iaload, 1) := by decide +kernel
theorem d_Q_state_25 : decode prog_6_method_21_code 25 = .ok (.if_icmp .ne 33, 3) := by decide +kernel
theorem d_Q_state_28 : decode prog_6_method_21_code 28 = .ok (.aload_n 0, 1) := by decide +kernel
theorem d_Q_state_29 : decode prog_6_method_21_code 29 = .ok (.getfield 22, 3) := by decide +kernel
theorem d_Q_state_32 : decode prog_6_method_21_code 32 = .ok (.iload_n 1, 1) := by decide +kernel
theorem d_Q_state_33 : decode prog_6_method_21_code 33 = .ok (.iaload, 1) := by decide +kernel
theorem d_Q_state_34 : decode prog_6_method_21_code 34 = .ok (.iconst 1, 1) := by decide +kernel
theorem d_Q_state_35 : decode prog_6_method_21_code 35 = .ok (.if_icmp .eq 19, 3) := by decide +kernel
theorem d_Q_state_38 : decode prog_6_method_21_code 38 = .ok (.aload_n 0, 1) := by decide +kernel
theorem d_Q_state_39 : decode prog_6_method_21_code 39 = .ok (.getfield 7, 3) := by decide +kernel
theorem d_Q_state_42 : decode prog_6_method_21_code 42 = .ok (.bipush 69, 2) := by decide +kernel
theorem d_Q_state_44 : decode prog_6_method_21_code 44 = .ok (.iaload, 1) := by decide +kernel
theorem d_Q_state_45 : decode prog_6_method_21_code 45 = .ok (.aload_n 0, 1) := by decide +kernel
theorem d_Q_state_46 : decode prog_6_method_21_code 46 = .ok (.getfield 7, 3) := by decide +kernel
theorem d_Q_state_49 : decode prog_6_method_21_code 49 = .ok (.iload_n 1, 1) := by decide +kernel
theorem d_Q_state_50 : decode prog_6_method_21_code 50 = .ok (.iaload, 1) := by decide +kernel
theorem d_Q_state_51 : decode prog_6_method_21_code 51 = .ok (.if_icmp .le 7, 3) := by decide +kernel
theorem d_Q_state_54 : decode prog_6_method_21_code 54 = .ok (.iconst 1, 1) := by decide +kernel
theorem d_Q_state_55 : decode prog_6_method_21_code 55 = .ok (.goto 4, 3) := by decide +kernel
theorem d_Q_state_58 : decode prog_6_method_21_code 58 = .ok (.iconst 0, 1) := by decide +kernel
theorem d_Q_state_59 : decode prog_6_method_21_code 59 = .ok (.istore_n 3, 1) := by decide +kernel
theorem d_Q_state_60 : decode prog_6_method_21_code 60 = .ok (.iload_n 2, 1) := by decide +kernel
theorem d_Q_state_61 : decode prog_6_method_21_code 61 = .ok (.aload_n 0, 1) := by decide +kernel
theorem d_Q_state_62 : decode prog_6_method_21_code 62 = .ok (.getfield 99, 3) := by decide +kernel
theorem d_Q_state_65 : decode prog_6_method_21_code 65 = .ok (.irem, 1) := by decide +kernel
theorem d_Q_state_66 : decode prog_6_method_21_code 66 = .ok (.iload_n 1, 1) := by decide +kernel
theorem d_Q_state_67 : decode prog_6_method_21_code 67 = .ok (.if_icmp .eq 7, 3) := by decide +kernel
theorem d_Q_state_70 : decode prog_6_method_21_code 70 = .ok (.iload_n 3, 1) := by decide +kernel
theorem d_Q_state_71 : decode prog_6_method_21_code 71 = .ok (.ifCond .ne 4, 3) := by decide +kernel
theorem d_Q_state_74 : decode prog_6_method_21_code 74 = .ok (.return_, 1) := by decide +kernel
theorem d_Q_state_75 : decode prog_6_method_21_code 75 = .ok (.aload_n 0, 1) := by decide +kernel
theorem d_Q_state_76 : decode prog_6_method_21_code 76 = .ok (.getfield 22, 3) := by decide +kernel
theorem d_Q_state_79 : decode prog_6_method_21_code 79 = .ok (.iload_n 1, 1) := by decide +kernel
theorem d_Q_state_80 : decode prog_6_method_21_code 80 = .ok (.iconst 0, 1) := by decide +kernel
theorem d_Q_state_81 : decode prog_6_method_21_code 81 = .ok (.iastore, 1) := by decide +kernel
theorem d_Q_state_82 : decode prog_6_method_21_code 82 = .ok (.aload_n 0, 1) := by decide +kernel
theorem d_Q_state_83 : decode prog_6_method_21_code 83 = .ok (.getfield 25, 3) := by decide +kernel
theorem d_Q_state_86 : decode prog_6_method_21_code 86 = .ok (.iload_n 1, 1) := by decide +kernel
theorem d_Q_state_87 : decode prog_6_method_21_code 87 = .ok (.iload_n 2, 1) := by decide +kernel
theorem d_Q_state_88 : decode prog_6_method_21_code 88 = .ok (.iastore, 1) := by decide +kernel
theorem d_Q_state_89 : decode prog_6_method_21_code 89 = .ok (.aload_n 0, 1) := by decide +kernel
theorem d_Q_state_90 : decode prog_6_method_21_code 90 = .ok (.getfield 28, 3) := by decide +kernel
theorem d_Q_state_93 : decode prog_6_method_21_code 93 = .ok (.iload_n 1, 1) := by decide +kernel
theorem d_Q_state_94 : decode prog_6_method_21_code 94 = .ok (.iload_n 2, 1) := by decide +kernel
theorem d_Q_state_95 : decode prog_6_method_21_code 95 = .ok (.iastore, 1) := by decide +kernel
theorem d_Q_state_96 : decode prog_6_method_21_code 96 = .ok (.aload_n 0, 1) := by decide +kernel
theorem d_Q_state_97 : decode prog_6_method_21_code 97 = .ok (.bipush 69, 2) := by decide +kernel
theorem d_Q_state_99 : decode prog_6_method_21_code 99 = .ok (.iload_n 1, 1) := by decide +kernel
theorem d_Q_state_100 : decode prog_6_method_21_code 100 = .ok (.invokevirtual 116, 3) := by decide +kernel
theorem d_Q_state_103 : decode prog_6_method_21_code 103 = .ok (.aload_n 0, 1) := by decide +kernel
theorem d_Q_state_104 : decode prog_6_method_21_code 104 = .ok (.getfield 31, 3) := by decide +kernel
theorem d_Q_state_107 : decode prog_6_method_21_code 107 = .ok (.iload_n 1, 1) := by decide +kernel
theorem d_Q_state_108 : decode prog_6_method_21_code 108 = .ok (.aload_n 0, 1) := by decide +kernel
theorem d_Q_state_109 : decode prog_6_method_21_code 109 = .ok (.getfield 83, 3) := by decide +kernel
theorem d_Q_state_112 : decode prog_6_method_21_code 112 = .ok (.bipush 64, 2) := by decide +kernel
theorem d_Q_state_114 : decode prog_6_method_21_code 114 = .ok (.iaload, 1) := by decide +kernel
theorem d_Q_state_115 : decode prog_6_method_21_code 115 = .ok (.aload_n 0, 1) := by decide +kernel
theorem d_Q_state_116 : decode prog_6_method_21_code 116 = .ok (.getfield 31, 3) := by decide +kernel
theorem d_Q_state_119 : decode prog_6_method_21_code 119 = .ok (.iload_n 1, 1) := by decide +kernel
theorem d_Q_state_120 : decode prog_6_method_21_code 120 = .ok (.iaload, 1) := by decide +kernel
theorem d_Q_state_121 : decode prog_6_method_21_code 121 = .ok (.if_icmp .le 13, 3) := by decide +kernel
theorem d_Q_state_124 : decode prog_6_method_21_code 124 = .ok (.aload_n 0, 1) := by decide +kernel
theorem d_Q_state_125 : decode prog_6_method_21_code 125 = .ok (.getfield 83, 3) := by decide +kernel
theorem d_Q_state_128 : decode prog_6_method_21_code 128 = .ok (.bipush 64, 2) := by decide +kernel
theorem d_Q_state_130 : decode prog_6_method_21_code 130 = .ok (.iaload, 1) := by decide +kernel
theorem d_Q_state_131 : decode prog_6_method_21_code 131 = .ok (.goto 9, 3) := by decide +kernel
theorem d_Q_state_134 : decode prog_6_method_21_code 134 = .ok (.aload_n 0, 1) := by decide +kernel
theorem d_Q_state_135 : decode prog_6_method_21_code 135 = .ok (.getfield 31, 3) := by decide +kernel
theorem d_Q_state_138 : decode prog_6_method_21_code 138 = .ok (.iload_n 1, 1) := by decide +kernel
theorem d_Q_state_139 : decode prog_6_method_21_code 139 = .ok (.iaload, 1) := by decide +kernel
theorem d_Q_state_140 : decode prog_6_method_21_code 140 = .ok (.iastore, 1) := by decide +kernel
theorem d_Q_state_141 : decode prog_6_method_21_code 141 = .ok (.aload_n 0, 1) := by decide +kernel
theorem d_Q_state_142 : decode prog_6_method_21_code 142 = .ok (.iload_n 1, 1) := by decide +kernel
theorem d_Q_state_143 : decode prog_6_method_21_code 143 = .ok (.invokevirtual 109, 3) := by decide +kernel
theorem d_Q_state_146 : decode prog_6_method_21_code 146 = .ok (.aload_n 0, 1) := by decide +kernel
theorem d_Q_state_147 : decode prog_6_method_21_code 147 = .ok (.iload_n 1, 1) := by decide +kernel
theorem d_Q_state_148 : decode prog_6_method_21_code 148 = .ok (.iload_n 2, 1) := by decide +kernel
theorem d_Q_state_149 : decode prog_6_method_21_code 149 = .ok (.aload_n 0, 1) := by decide +kernel
theorem d_Q_state_150 : decode prog_6_method_21_code 150 = .ok (.getfield 99, 3) := by decide +kernel
theorem d_Q_state_153 : decode prog_6_method_21_code 153 = .ok (.irem, 1) := by decide +kernel
theorem d_Q_state_154 : decode prog_6_method_21_code 154 = .ok (.iconst 2, 1) := by decide +kernel
theorem d_Q_state_155 : decode prog_6_method_21_code 155 = .ok (.invokevirtual 120, 3) := by decide +kernel
theorem d_Q_state_158 : decode prog_6_method_21_code 158 = .ok (.return_, 1) := by decide +kernel
theorem b_Q_state_0 {l : Launch} {D : va_G} {cid : Nat → ClassId} {X : CT} {Post : PT} (hX : OK l D cid m_Q_state X Post) : SS l D cid m_Q_state X 0 [o_aload 0, o_getf 4 24, o_push (.int 64), o_ald 0, o_istore 2, o_iload 2, o_aload 0, o_getf 4 7, o_iload 1, o_ald 0] (t_cmp (fun x y => y < x) (FR l D cid m_Q_state X 54) (FR l D cid m_Q_state X 18)) := by
  refine SS.cons (so_aload_n hX d_Q_state_0 rfl) ?_
  refine SS.cons (so_getf (C := R_Q) (T := T_Q) hX d_Q_state_1 in_Q rfl (by decide) k_509) ?_
  refine SS.cons (so_bipush hX d_Q_state_4 (by decide)) ?_
  refine SS.cons (so_iald hX d_Q_state_6) ?_
  refine SS.cons (so_istore_n hX d_Q_state_7 rfl (by decide)) ?_
  refine SS.cons (so_iload_n hX d_Q_state_8 rfl) ?_
  refine SS.cons (so_aload_n hX d_Q_state_9 rfl) ?_
  refine SS.cons (so_getf (C := R_Q) (T := T_Q) hX d_Q_state_10 in_Q rfl (by decide) k_492) ?_
  refine SS.cons (so_iload_n hX d_Q_state_13 rfl) ?_
  refine SS.cons (so_iald hX d_Q_state_14) ?_
  exact st_icmp_gt hX d_Q_state_15 (by decide)
theorem b_Q_state_18 {l : Launch} {D : va_G} {cid : Nat → ClassId} {X : CT} {Post : PT} (hX : OK l D cid m_Q_state X Post) : SS l D cid m_Q_state X 18 [o_iload 2, o_aload 0, o_getf 4 7, o_iload 1, o_ald 0] (t_cmp (fun x y => ¬ x = y) (FR l D cid m_Q_state X 58) (FR l D cid m_Q_state X 28)) := by
  refine SS.cons (so_iload_n hX d_Q_state_18 rfl) ?_
  refine SS.cons (so_aload_n hX d_Q_state_19 rfl) ?_
  refine SS.cons (so_getf (C := R_Q) (T := T_Q) hX d_Q_state_20 in_Q rfl (by decide) k_492) ?_
  refine SS.cons (so_iload_n hX d_Q_state_23 rfl) ?_
  refine SS.cons (so_iald hX d_Q_state_24) ?_
  exact st_icmp_ne hX d_Q_state_25 (by decide)
theorem b_Q_state_28 {l : Launch} {D : va_G} {cid : Nat → ClassId} {X : CT} {Post : PT} (hX : OK l D cid m_Q_state X Post) : SS l D cid m_Q_state X 28 [o_aload 0, o_getf 4 6, o_iload 1, o_ald 0, o_push (.int 1)] (t_cmp (fun x y => x = y) (FR l D cid m_Q_state X 54) (FR l D cid m_Q_state X 38)) := by
  refine SS.cons (so_aload_n hX d_Q_state_28 rfl) ?_
  refine SS.cons (so_getf (C := R_Q) (T := T_Q) hX d_Q_state_29 in_Q rfl (by decide) k_491) ?_
  refine SS.cons (so_iload_n hX d_Q_state_32 rfl) ?_
  refine SS.cons (so_iald hX d_Q_state_33) ?_
  refine SS.cons (so_iconst hX d_Q_state_34 (by decide)) ?_
  exact st_icmp_eq hX d_Q_state_35 (by decide)
theorem b_Q_state_38 {l : Launch} {D : va_G} {cid : Nat → ClassId} {X : CT} {Post : PT} (hX : OK l D cid m_Q_state X Post) : SS l D cid m_Q_state X 38 [o_aload 0, o_getf 4 2, o_push (.int 69), o_ald 0, o_aload 0, o_getf 4 2, o_iload 1, o_ald 0] (t_cmp (fun x y => x ≤ y) (FR l D cid m_Q_state X 58) (FR l D cid m_Q_state X 54)) := by
  refine SS.cons (so_aload_n hX d_Q_state_38 rfl) ?_
  refine SS.cons (so_getf (C := R_Q) (T := T_Q) hX d_Q_state_39 in_Q rfl (by decide) k_487) ?_
  refine SS.cons (so_bipush hX d_Q_state_42 (by decide)) ?_
  refine SS.cons (so_iald hX d_Q_state_44) ?_
  refine SS.cons (so_aload_n hX d_Q_state_45 rfl) ?_
  refine SS.cons (so_getf (C := R_Q) (T := T_Q) hX d_Q_state_46 in_Q rfl (by decide) k_487) ?_
  refine SS.cons (so_iload_n hX d_Q_state_49 rfl) ?_
  refine SS.cons (so_iald hX d_Q_state_50) ?_
  exact st_icmp_le hX d_Q_state_51 (by decide)
theorem b_Q_state_54 {l : Launch} {D : va_G} {cid : Nat → ClassId} {X : CT} {Post : PT} (hX : OK l D cid m_Q_state X Post) : SS l D cid m_Q_state X 54 [o_push (.int 1)] (FR l D cid m_Q_state X 59) := by
  refine SS.cons (so_iconst hX d_Q_state_54 (by decide)) ?_
  exact so_goto hX d_Q_state_55 (by decide)
theorem b_Q_state_58 {l : Launch} {D : va_G} {cid : Nat → ClassId} {X : CT} {Post : PT} (hX : OK l D cid m_Q_state X Post) : SS l D cid m_Q_state X 58 [o_push (.int 0)] (FR l D cid m_Q_state X 59) := by
  refine SS.cons (so_iconst hX d_Q_state_58 (by decide)) ?_
  exact SS.fall
theorem b_Q_state_59 {l : Launch} {D : va_G} {cid : Nat → ClassId} {X : CT} {Post : PT} (hX : OK l D cid m_Q_state X Post) : SS l D cid m_Q_state X 59 [o_istore 3, o_iload 2, o_aload 0, o_getf 4 0, o_binz (fun x y => x - x / y * y), o_iload 1] (t_cmp (fun x y => x = y) (FR l D cid m_Q_state X 74) (FR l D cid m_Q_state X 70)) := by
  refine SS.cons (so_istore_n hX d_Q_state_59 rfl (by decide)) ?_
  refine SS.cons (so_iload_n hX d_Q_state_60 rfl) ?_
  refine SS.cons (so_aload_n hX d_Q_state_61 rfl) ?_
  refine SS.cons (so_getf (C := R_Q) (T := T_Q) hX d_Q_state_62 in_Q rfl (by decide) k_485) ?_
  refine SS.cons (so_irem hX d_Q_state_65) ?_
  refine SS.cons (so_iload_n hX d_Q_state_66 rfl) ?_
  exact st_icmp_eq hX d_Q_state_67 (by decide)
theorem b_Q_state_70 {l : Launch} {D : va_G} {cid : Nat → ClassId} {X : CT} {Post : PT} (hX : OK l D cid m_Q_state X Post) : SS l D cid m_Q_state X 70 [o_iload 3] (t_if (fun x => ¬ x = 0) (FR l D cid m_Q_state X 75) (FR l D cid m_Q_state X 74)) := by
  refine SS.cons (so_iload_n hX d_Q_state_70 rfl) ?_
  exact st_if_ne hX d_Q_state_71 (by decide)
theorem b_Q_state_74 {l : Launch} {D : va_G} {cid : Nat → ClassId} {X : CT} {Post : PT} (hX : OK l D cid m_Q_state X Post) : SS l D cid m_Q_state X 74 [] (t_ret Post) := by
  exact st_ret hX d_Q_state_74 rfl
theorem b_Q_state_75 {l : Launch} {D : va_G} {cid : Nat → ClassId} {X : CT} {Post : PT} (hX : OK l D cid m_Q_state X Post) : SS l D cid m_Q_state X 75 [o_aload 0, o_getf 4 6, o_iload 1, o_push (.int 0), o_ast, o_aload 0, o_getf 4 7, o_iload 1, o_iload 2, o_ast, o_aload 0, o_getf 4 8, o_iload 1, o_iload 2, o_ast, o_aload 0, o_push (.int 69), o_iload 1, o_callV l D cid m_Q_copy 4 2, o_aload 0, o_getf 4 9, o_iload 1, o_aload 0, o_getf 4 26, o_push (.int 64), o_ald 0, o_aload 0, o_getf 4 9, o_iload 1, o_ald 0] (t_cmp (fun x y => x ≤ y) (FR l D cid m_Q_state X 134) (FR l D cid m_Q_state X 124)) := by
  refine SS.cons (so_aload_n hX d_Q_state_75 rfl) ?_
  refine SS.cons (so_getf (C := R_Q) (T := T_Q) hX d_Q_state_76 in_Q rfl (by decide) k_491) ?_
  refine SS.cons (so_iload_n hX d_Q_state_79 rfl) ?_
  refine SS.cons (so_iconst hX d_Q_state_80 (by decide)) ?_
  refine SS.cons (so_iast hX d_Q_state_81) ?_
  refine SS.cons (so_aload_n hX d_Q_state_82 rfl) ?_
  refine SS.cons (so_getf (C := R_Q) (T := T_Q) hX d_Q_state_83 in_Q rfl (by decide) k_492) ?_
  refine SS.cons (so_iload_n hX d_Q_state_86 rfl) ?_
  refine SS.cons (so_iload_n hX d_Q_state_87 rfl) ?_
  refine SS.cons (so_iast hX d_Q_state_88) ?_
  refine SS.cons (so_aload_n hX d_Q_state_89 rfl) ?_
  refine SS.cons (so_getf (C := R_Q) (T := T_Q) hX d_Q_state_90 in_Q rfl (by decide) k_493) ?_
  refine SS.cons (so_iload_n hX d_Q_state_93 rfl) ?_
  refine SS.cons (so_iload_n hX d_Q_state_94 rfl) ?_
  refine SS.cons (so_iast hX d_Q_state_95) ?_
  refine SS.cons (so_aload_n hX d_Q_state_96 rfl) ?_
  refine SS.cons (so_bipush hX d_Q_state_97 (by decide)) ?_
  refine SS.cons (so_iload_n hX d_Q_state_99 rfl) ?_
  refine SS.cons (so_callV (M' := m_Q_copy) (T := T_Q) hX d_Q_state_100 rfl k_598 k_595 k_597 k_24 k_48 pf_Q_copy (by decide) (by decide +kernel) ⟨by decide, by decide⟩) ?_
  refine SS.cons (so_aload_n hX d_Q_state_103 rfl) ?_
  refine SS.cons (so_getf (C := R_Q) (T := T_Q) hX d_Q_state_104 in_Q rfl (by decide) k_494) ?_
  refine SS.cons (so_iload_n hX d_Q_state_107 rfl) ?_
  refine SS.cons (so_aload_n hX d_Q_state_108 rfl) ?_
  refine SS.cons (so_getf (C := R_Q) (T := T_Q) hX d_Q_state_109 in_Q rfl (by decide) k_511) ?_
  refine SS.cons (so_bipush hX d_Q_state_112 (by decide)) ?_
  refine SS.cons (so_iald hX d_Q_state_114) ?_
  refine SS.cons (so_aload_n hX d_Q_state_115 rfl) ?_
  refine SS.cons (so_getf (C := R_Q) (T := T_Q) hX d_Q_state_116 in_Q rfl (by decide) k_494) ?_
  refine SS.cons (so_iload_n hX d_Q_state_119 rfl) ?_
  refine SS.cons (so_iald hX d_Q_state_120) ?_
  exact st_icmp_le hX d_Q_state_121 (by decide)
theorem b_Q_state_124 {l : Launch} {D : va_G} {cid : Nat → ClassId} {X : CT} {Post : PT} (hX : OK l D cid m_Q_state X Post) : SS l D cid m_Q_state X 124 [o_aload 0, o_getf 4 26, o_push (.int 64), o_ald 0] (FR l D cid m_Q_state X 140) := by
  refine SS.cons (so_aload_n hX d_Q_state_124 rfl) ?_
  refine SS.cons (so_getf (C := R_Q) (T := T_Q) hX d_Q_state_125 in_Q rfl (by decide) k_511) ?_
  refine SS.cons (so_bipush hX d_Q_state_128 (by decide)) ?_
  refine SS.cons (so_iald hX d_Q_state_130) ?_
  exact so_goto hX d_Q_state_131 (by decide)
theorem b_Q_state_134 {l : Launch} {D : va_G} {cid : Nat → ClassId} {X : CT} {Post : PT} (hX : OK l D cid m_Q_state X Post) : SS l D cid m_Q_state X 134 [o_aload 0, o_getf 4 9, o_iload 1, o_ald 0] (FR l D cid m_Q_state X 140) := by
  refine SS.cons (so_aload_n hX d_Q_state_134 rfl) ?_
  refine SS.cons (so_getf (C := R_Q) (T := T_Q) hX d_Q_state_135 in_Q rfl (by decide) k_494) ?_
  refine SS.cons (so_iload_n hX d_Q_state_138 rfl) ?_
  refine SS.cons (so_iald hX d_Q_state_139) ?_
  exact SS.fall
theorem b_Q_state_140 {l : Launch} {D : va_G} {cid : Nat → ClassId} {X : CT} {Post : PT} (hX : OK l D cid m_Q_state X Post) : SS l D cid m_Q_state X 140 [o_ast, o_aload 0, o_iload 1, o_callV l D cid m_Q_forget 4 1, o_aload 0, o_iload 1, o_iload 2, o_aload 0, o_getf 4 0, o_binz (fun x y => x - x / y * y), o_push (.int 2), o_callV l D cid m_Q_send 4 3] (t_ret Post) := by
  refine SS.cons (so_iast hX d_Q_state_140) ?_
  refine SS.cons (so_aload_n hX d_Q_state_141 rfl) ?_
  refine SS.cons (so_iload_n hX d_Q_state_142 rfl) ?_
  refine SS.cons (so_callV (M' := m_Q_forget) (T := T_Q) hX d_Q_state_143 rfl k_642 k_639 k_641 k_35 k_48 pf_Q_forget (by decide) (by decide +kernel) ⟨by decide, by decide⟩) ?_
  refine SS.cons (so_aload_n hX d_Q_state_146 rfl) ?_
  refine SS.cons (so_iload_n hX d_Q_state_147 rfl) ?_
  refine SS.cons (so_iload_n hX d_Q_state_148 rfl) ?_
  refine SS.cons (so_aload_n hX d_Q_state_149 rfl) ?_
  refine SS.cons (so_getf (C := R_Q) (T := T_Q) hX d_Q_state_150 in_Q rfl (by decide) k_485) ?_
  refine SS.cons (so_irem hX d_Q_state_153) ?_
  refine SS.cons (so_iconst hX d_Q_state_154 (by decide)) ?_
  refine SS.cons (so_callV (M' := m_Q_send) (T := T_Q) hX d_Q_state_155 rfl k_614 k_611 k_613 k_28 k_48 pf_Q_send (by decide) (by decide +kernel) ⟨by decide, by decide⟩) ?_
  exact st_ret hX d_Q_state_158 rfl
abbrev m_Q_change : MT := (⟨"GroupLogModel", "change", "(II)V"⟩, prog_6_method_22_code, 6, (none : Option FieldType), { frames := 4, cells := 0, slots := 0, locals := 93 })
theorem pf_Q_change : plainFor m_Q_change.1 = true := by decide +kernel
theorem d_Q_change_0 : decode prog_6_method_22_code 0 = .ok (.aload_n 0, 1) := by decide +kernel
theorem d_Q_change_1 : decode prog_6_method_22_code 1 = .ok (.getfield 77, 3) := by decide +kernel
theorem d_Q_change_4 : decode prog_6_method_22_code 4 = .ok (.bipush 64, 2) := by decide +kernel
theorem d_Q_change_6 : decode prog_6_method_22_code 6 = .ok (.iaload, 1) := by decide +kernel
theorem d_Q_change_7 : decode prog_6_method_22_code 7 = .ok (.istore_n 3, 1) := by decide +kernel
theorem d_Q_change_8 : decode prog_6_method_22_code 8 = .ok (.iload_n 3, 1) := by decide +kernel
theorem d_Q_change_9 : decode prog_6_method_22_code 9 = .ok (.aload_n 0, 1) := by decide +kernel
theorem d_Q_change_10 : decode prog_6_method_22_code 10 = .ok (.getfield 25, 3) := by decide +kernel
theorem d_Q_change_13 : decode prog_6_method_22_code 13 = .ok (.iload_n 1, 1) := by decide +kernel
theorem d_Q_change_14 : decode prog_6_method_22_code 14 = .ok (.iaload, 1) := by decide +kernel
theorem d_Q_change_15 : decode prog_6_method_22_code 15 = .ok (.if_icmp .le 9, 3) := by decide +kernel
theorem d_Q_change_18 : decode prog_6_method_22_code 18 = .ok (.aload_n 0, 1) := by decide +kernel
theorem d_Q_change_19 : decode prog_6_method_22_code 19 = .ok (.iload_n 1, 1) := by decide +kernel
theorem d_Q_change_20 : decode prog_6_method_22_code 20 = .ok (.iload_n 3, 1) := by decide +kernel
theorem d_Q_change_21 : decode prog_6_method_22_code 21 = .ok (.invokevirtual 169, 3) := by decide +kernel
theorem d_Q_change_24 : decode prog_6_method_22_code 24 = .ok (.iload_n 3, 1) := by decide +kernel
theorem d_Q_change_25 : decode prog_6_method_22_code 25 = .ok (.aload_n 0, 1) := by decide +kernel
theorem d_Q_change_26 : decode prog_6_method_22_code 26 = .ok (.getfield 25, 3) := by decide +kernel
theorem d_Q_change_29 : decode prog_6_method_22_code 29 = .ok (.iload_n 1, 1) := by decide +kernel
theorem d_Q_change_30 : decode prog_6_method_22_code 30 = .ok (.iaload, 1) := by decide +kernel
theorem d_Q_change_31 : decode prog_6_method_22_code 31 = .ok (.if_icmp .ne 13, 3) := by decide +kernel
theorem d_Q_change_34 : decode prog_6_method_22_code 34 = .ok (.aload_n 0, 1) := by decide +kernel
theorem d_Q_change_35 : decode prog_6_method_22_code 35 = .ok (.getfield 22, 3) := by decide +kernel
theorem d_Q_change_38 : decode prog_6_method_22_code 38 = .ok (.iload_n 1, 1) := by decide +kernel
theorem d_Q_change_39 : decode prog_6_method_22_code 39 = .ok (.iaload, 1) := by decide +kernel
theorem d_Q_change_40 : decode prog_6_method_22_code 40 = .ok (.iconst 1, 1) := by decide +kernel
theorem d_Q_change_41 : decode prog_6_method_22_code 41 = .ok (.if_icmp .eq 4, 3) := by decide +kernel
theorem d_Q_change_44 : decode prog_6_method_22_code 44 = .ok (.return_, 1) := by decide +kernel
theorem d_Q_change_45 : decode prog_6_method_22_code 45 = .ok (.aload_n 0, 1) := by decide +kernel
theorem d_Q_change_46 : decode prog_6_method_22_code 46 = .ok (.getfield 47, 3) := by decide +kernel
theorem d_Q_change_49 : decode prog_6_method_22_code 49 = .ok (.iconst 5, 1) := by decide +kernel
theorem d_Q_change_50 : decode prog_6_method_22_code 50 = .ok (.iload_n 1, 1) := by decide +kernel
theorem d_Q_change_51 : decode prog_6_method_22_code 51 = .ok (.imul, 1) := by decide +kernel
theorem d_Q_change_52 : decode prog_6_method_22_code 52 = .ok (.iload_n 2, 1) := by decide +kernel
theorem d_Q_change_53 : decode prog_6_method_22_code 53 = .ok (.iadd, 1) := by decide +kernel
theorem d_Q_change_54 : decode prog_6_method_22_code 54 = .ok (.iconst 1, 1) := by decide +kernel
theorem d_Q_change_55 : decode prog_6_method_22_code 55 = .ok (.bastore, 1) := by decide +kernel
theorem d_Q_change_56 : decode prog_6_method_22_code 56 = .ok (.aload_n 0, 1) := by decide +kernel
theorem d_Q_change_57 : decode prog_6_method_22_code 57 = .ok (.getfield 50, 3) := by decide +kernel
theorem d_Q_change_60 : decode prog_6_method_22_code 60 = .ok (.iconst 5, 1) := by decide +kernel
theorem d_Q_change_61 : decode prog_6_method_22_code 61 = .ok (.iload_n 1, 1) := by decide +kernel
theorem d_Q_change_62 : decode prog_6_method_22_code 62 = .ok (.imul, 1) := by decide +kernel
theorem d_Q_change_63 : decode prog_6_method_22_code 63 = .ok (.iload_n 2, 1) := by decide +kernel
theorem d_Q_change_64 : decode prog_6_method_22_code 64 = .ok (.iadd, 1) := by decide +kernel
theorem d_Q_change_65 : decode prog_6_method_22_code 65 = .ok (.aload_n 0, 1) := by decide +kernel
theorem d_Q_change_66 : decode prog_6_method_22_code 66 = .ok (.getfield 86, 3) := by decide +kernel
theorem d_Q_change_69 : decode prog_6_method_22_code 69 = .ok (.sipush 320, 3) := by decide +kernel
theorem d_Q_change_72 : decode prog_6_method_22_code 72 = .ok (.iload_n 2, 1) := by decide +kernel
theorem d_Q_change_73 : decode prog_6_method_22_code 73 = .ok (.iadd, 1) := by decide +kernel
theorem d_Q_change_74 : decode prog_6_method_22_code 74 = .ok (.iaload, 1) := by decide +kernel
theorem d_Q_change_75 : decode prog_6_method_22_code 75 = .ok (.iastore, 1) := by decide +kernel
theorem d_Q_change_76 : decode prog_6_method_22_code 76 = .ok (.iconst 0, 1) := by decide +kernel
theorem d_Q_change_77 : decode prog_6_method_22_code 77 = .ok (.istore 4, 2) := by decide +kernel
theorem d_Q_change_79 : decode prog_6_method_22_code 79 = .ok (.iconst 0, 1) := by decide +kernel
theorem d_Q_change_80 : decode prog_6_method_22_code 80 = .ok (.istore 5, 2) := by decide +kernel
theorem d_Q_change_82 : decode prog_6_method_22_code 82 = .ok (.iload 5, 2) := by decide +kernel
theorem d_Q_change_84 : decode prog_6_method_22_code 84 = .ok (.aload_n 0, 1) := by decide +kernel
theorem d_Q_change_85 : decode prog_6_method_22_code 85 = .ok (.getfield 99, 3) := by decide +kernel
theorem d_Q_change_88 : decode prog_6_method_22_code 88 = .ok (.if_icmp .ge 34, 3) := by decide +kernel
theorem d_Q_change_91 : decode prog_6_method_22_code 91 = .ok (.aload_n 0, 1) := by decide +kernel
theorem d_Q_change_92 : decode prog_6_method_22_code 92 = .ok (.getfield 47, 3) := by decide +kernel
theorem d_Q_change_95 : decode prog_6_method_22_code 95 = .ok (.iconst 5, 1) := by decide +kernel
theorem d_Q_change_96 : decode prog_6_method_22_code 96 = .ok (.iload_n 1, 1) := by decide +kernel
theorem d_Q_change_97 : decode prog_6_method_22_code 97 = .ok (.imul, 1) := by decide +kernel
theorem d_Q_change_98 : decode prog_6_method_22_code 98 = .ok (.iload 5, 2) := by decide +kernel
theorem d_Q_change_100 : decode prog_6_method_22_code 100 = .ok (.iadd, 1) := by decide +kernel
theorem d_Q_change_101 : decode prog_6_method_22_code 101 = .ok (.baload, 1) := by decide +kernel
theorem d_Q_change_102 : decode prog_6_method_22_code 102 = .ok (.ifCond .eq 10, 3) := by decide +kernel
theorem d_Q_change_105 : decode prog_6_method_22_code 105 = .ok (.iload 4, 2) := by decide +kernel
theorem d_Q_change_107 : decode prog_6_method_22_code 107 = .ok (.iconst 1, 1) := by decide +kernel
theorem d_Q_change_108 : decode prog_6_method_22_code 108 = .ok (.iadd, 1) := by decide +kernel
theorem d_Q_change_109 : decode prog_6_method_22_code 109 = .ok (.goto 5, 3) := by decide +kernel
theorem d_Q_change_112 : decode prog_6_method_22_code 112 = .ok (.iload 4, 2) := by decide +kernel
theorem d_Q_change_114 : decode prog_6_method_22_code 114 = .ok (.istore 4, 2) := by decide +kernel
theorem d_Q_change_116 : decode prog_6_method_22_code 116 = .ok (.iinc 5 1, 3) := by decide +kernel
theorem d_Q_change_119 : decode prog_6_method_22_code 119 = .ok (.goto (-37), 3) := by decide +kernel
theorem d_Q_change_122 : decode prog_6_method_22_code 122 = .ok (.iload_n 3, 1) := by decide +kernel
theorem d_Q_change_123 : decode prog_6_method_22_code 123 = .ok (.aload_n 0, 1) := by decide +kernel
theorem d_Q_change_124 : decode prog_6_method_22_code 124 = .ok (.getfield 99, 3) := by decide +kernel
theorem d_Q_change_127 : decode prog_6_method_22_code 127 = .ok (.irem, 1) := by decide +kernel
theorem d_Q_change_128 : decode prog_6_method_22_code 128 = .ok (.iload_n 1, 1) := by decide +kernel
theorem d_Q_change_129 : decode prog_6_method_22_code 129 = .ok (.if_icmp .eq 41, 3) := by decide +kernel
theorem d_Q_change_132 : decode prog_6_method_22_code 132 = .ok (.aload_n 0, 1) := by decide +kernel
theorem d_Q_change_133 : decode prog_6_method_22_code 133 = .ok (.getfield 40, 3) := by decide +kernel
theorem d_Q_change_136 : decode prog_6_method_22_code 136 = .ok (.iload_n 1, 1) := by decide +kernel
theorem d_Q_change_137 : decode prog_6_method_22_code 137 = .ok (.baload, 1) := by decide +kernel
theorem d_Q_change_138 : decode prog_6_method_22_code 138 = .ok (.ifCond .ne 32, 3) := by decide +kernel
theorem d_Q_change_141 : decode prog_6_method_22_code 141 = .ok (.iload 4, 2) := by decide +kernel
theorem d_Q_change_143 : decode prog_6_method_22_code 143 = .ok (.aload_n 0, 1) := by decide +kernel
theorem d_Q_change_144 : decode prog_6_method_22_code 144 = .ok (.getfield 102, 3) := by decide +kernel
theorem d_Q_change_147 : decode prog_6_method_22_code 147 = .ok (.if_icmp .lt 23, 3) := by decide +kernel
theorem d_Q_change_150 : decode prog_6_method_22_code 150 = .ok (.aload_n 0, 1) := by decide +kernel
theorem d_Q_change_151 : decode prog_6_method_22_code 151 = .ok (.iload_n 1, 1) := by decide +kernel
theorem d_Q_change_152 : decode prog_6_method_22_code 152 = .ok (.iload_n 3, 1) := by decide +kernel
theorem d_Q_change_153 : decode prog_6_method_22_code 153 = .ok (.aload_n 0, 1) := by decide +kernel
theorem d_Q_change_154 : decode prog_6_method_22_code 154 = .ok (.getfield 99, 3) := by decide +kernel
theorem d_Q_change_157 : decode prog_6_method_22_code 157 = .ok (.irem, 1) := by decide +kernel
theorem d_Q_change_158 : decode prog_6_method_22_code 158 = .ok (.bipush 6, 2) := by decide +kernel
theorem d_Q_change_160 : decode prog_6_method_22_code 160 = .ok (.invokevirtual 120, 3) := by decide +kernel
theorem d_Q_change_163 : decode prog_6_method_22_code 163 = .ok (.aload_n 0, 1) := by decide +kernel
theorem d_Q_change_164 : decode prog_6_method_22_code 164 = .ok (.getfield 40, 3) := by decide +kernel
theorem d_Q_change_167 : decode prog_6_method_22_code 167 = .ok (.iload_n 1, 1) := by decide +kernel
theorem d_Q_change_168 : decode prog_6_method_22_code 168 = .ok (.iconst 1, 1) := by decide +kernel
theorem d_Q_change_169 : decode prog_6_method_22_code 169 = .ok (.bastore, 1) := by decide +kernel
theorem d_Q_change_170 : decode prog_6_method_22_code 170 = .ok (.return_, 1) := by decide +kernel
theorem b_Q_change_0 {l : Launch} {D : va_G} {cid : Nat → ClassId} {X : CT} {Post : PT} (hX : OK l D cid m_Q_change X Post) : SS l D cid m_Q_change X 0 [o_aload 0, o_getf 4 24, o_push (.int 64), o_ald 0, o_istore 3, o_iload 3, o_aload 0, o_getf 4 7, o_iload 1, o_ald 0] (t_cmp (fun x y => x ≤ y) (FR l D cid m_Q_change X 24) (FR l D cid m_Q_change X 18)) := by
  refine SS.cons (so_aload_n hX d_Q_change_0 rfl) ?_
  refine SS.cons (so_getf (C := R_Q) (T := T_Q) hX d_Q_change_1 in_Q rfl (by decide) k_509) ?_
  refine SS.cons (so_bipush hX d_Q_change_4 (by decide)) ?_
  refine SS.cons (so_iald hX d_Q_change_6) ?_
  refine SS.cons (so_istore_n hX d_Q_change_7 rfl (by decide)) ?_
  refine SS.cons (so_iload_n hX d_Q_change_8 rfl) ?_
  refine SS.cons (so_aload_n hX d_Q_change_9 rfl) ?_
  refine SS.cons (so_getf (C := R_Q) (T := T_Q) hX d_Q_change_10 in_Q rfl (by decide) k_492) ?_
  refine SS.cons (so_iload_n hX d_Q_change_13 rfl) ?_
  refine SS.cons (so_iald hX d_Q_change_14) ?_
  exact st_icmp_le hX d_Q_change_15 (by decide)
theorem b_Q_change_18 {l : Launch} {D : va_G} {cid : Nat → ClassId} {X : CT} {Post : PT} (hX : OK l D cid m_Q_change X Post) : SS l D cid m_Q_change X 18 [o_aload 0, o_iload 1, o_iload 3, o_callV l D cid m_Q_start 4 2] (FR l D cid m_Q_change X 24) := by
  refine SS.cons (so_aload_n hX d_Q_change_18 rfl) ?_
  refine SS.cons (so_iload_n hX d_Q_change_19 rfl) ?_
  refine SS.cons (so_iload_n hX d_Q_change_20 rfl) ?_
  refine SS.cons (so_callV (M' := m_Q_start) (T := T_Q) hX d_Q_change_21 rfl k_650 k_647 k_649 k_37 k_48 pf_Q_start (by decide) (by decide +kernel) ⟨by decide, by decide⟩) ?_
  exact SS.fall
theorem b_Q_change_24 {l : Launch} {D : va_G} {cid : Nat → ClassId} {X : CT} {Post : PT} (hX : OK l D cid m_Q_change X Post) : SS l D cid m_Q_change X 24 [o_iload 3, o_aload 0, o_getf 4 7, o_iload 1, o_ald 0] (t_cmp (fun x y => ¬ x = y) (FR l D cid m_Q_change X 44) (FR l D cid m_Q_change X 34)) := by
  refine SS.cons (so_iload_n hX d_Q_change_24 rfl) ?_
  refine SS.cons (so_aload_n hX d_Q_change_25 rfl) ?_
  refine SS.cons (so_getf (C := R_Q) (T := T_Q) hX d_Q_change_26 in_Q rfl (by decide) k_492) ?_
  refine SS.cons (so_iload_n hX d_Q_change_29 rfl) ?_
  refine SS.cons (so_iald hX d_Q_change_30) ?_
  exact st_icmp_ne hX d_Q_change_31 (by decide)
theorem b_Q_change_34 {l : Launch} {D : va_G} {cid : Nat → ClassId} {X : CT} {Post : PT} (hX : OK l D cid m_Q_change X Post) : SS l D cid m_Q_change X 34 [o_aload 0, o_getf 4 6, o_iload 1, o_ald 0, o_push (.int 1)] (t_cmp (fun x y => x = y) (FR l D cid m_Q_change X 45) (FR l D cid m_Q_change X 44)) := by
  refine SS.cons (so_aload_n hX d_Q_change_34 rfl) ?_
  refine SS.cons (so_getf (C := R_Q) (T := T_Q) hX d_Q_change_35 in_Q rfl (by decide) k_491) ?_
  refine SS.cons (so_iload_n hX d_Q_change_38 rfl) ?_
  refine SS.cons (so_iald hX d_Q_change_39) ?_
  refine SS.cons (so_iconst hX d_Q_change_40 (by decide)) ?_
  exact st_icmp_eq hX d_Q_change_41 (by decide)
theorem b_Q_change_44 {l : Launch} {D : va_G} {cid : Nat → ClassId} {X : CT} {Post : PT} (hX : OK l D cid m_Q_change X Post) : SS l D cid m_Q_change X 44 [] (t_ret Post) := by
  exact st_ret hX d_Q_change_44 rfl
theorem b_Q_change_45 {l : Launch} {D : va_G} {cid : Nat → ClassId} {X : CT} {Post : PT} (hX : OK l D cid m_Q_change X Post) : SS l D cid m_Q_change X 45 [o_aload 0, o_getf 4 14, o_push (.int 5), o_iload 1, o_bin (fun x y => x * y), o_iload 2, o_bin (fun x y => x + y), o_push (.int 1), o_zst, o_aload 0, o_getf 4 15, o_push (.int 5), o_iload 1, o_bin (fun x y => x * y), o_iload 2, o_bin (fun x y => x + y), o_aload 0, o_getf 4 27, o_push (.int 320), o_iload 2, o_bin (fun x y => x + y), o_ald 0, o_ast, o_push (.int 0), o_istore 4, o_push (.int 0), o_istore 5] (FR l D cid m_Q_change X 82) := by
  refine SS.cons (so_aload_n hX d_Q_change_45 rfl) ?_
  refine SS.cons (so_getf (C := R_Q) (T := T_Q) hX d_Q_change_46 in_Q rfl (by decide) k_499) ?_
  refine SS.cons (so_iconst hX d_Q_change_49 (by decide)) ?_
  refine SS.cons (so_iload_n hX d_Q_change_50 rfl) ?_
  refine SS.cons (so_imul hX d_Q_change_51) ?_
  refine SS.cons (so_iload_n hX d_Q_change_52 rfl) ?_
  refine SS.cons (so_iadd hX d_Q_change_53) ?_
  refine SS.cons (so_iconst hX d_Q_change_54 (by decide)) ?_
  refine SS.cons (so_zast hX d_Q_change_55) ?_
  refine SS.cons (so_aload_n hX d_Q_change_56 rfl) ?_
  refine SS.cons (so_getf (C := R_Q) (T := T_Q) hX d_Q_change_57 in_Q rfl (by decide) k_500) ?_
  refine SS.cons (so_iconst hX d_Q_change_60 (by decide)) ?_
  refine SS.cons (so_iload_n hX d_Q_change_61 rfl) ?_
  refine SS.cons (so_imul hX d_Q_change_62) ?_
  refine SS.cons (so_iload_n hX d_Q_change_63 rfl) ?_
  refine SS.cons (so_iadd hX d_Q_change_64) ?_
  refine SS.cons (so_aload_n hX d_Q_change_65 rfl) ?_
  refine SS.cons (so_getf (C := R_Q) (T := T_Q) hX d_Q_change_66 in_Q rfl (by decide) k_512) ?_
  refine SS.cons (so_sipush hX d_Q_change_69 (by decide)) ?_
  refine SS.cons (so_iload_n hX d_Q_change_72 rfl) ?_
  refine SS.cons (so_iadd hX d_Q_change_73) ?_
  refine SS.cons (so_iald hX d_Q_change_74) ?_
  refine SS.cons (so_iast hX d_Q_change_75) ?_
  refine SS.cons (so_iconst hX d_Q_change_76 (by decide)) ?_
  refine SS.cons (so_istore hX d_Q_change_77 (by decide)) ?_
  refine SS.cons (so_iconst hX d_Q_change_79 (by decide)) ?_
  refine SS.cons (so_istore hX d_Q_change_80 (by decide)) ?_
  exact SS.fall
theorem b_Q_change_82 {l : Launch} {D : va_G} {cid : Nat → ClassId} {X : CT} {Post : PT} (hX : OK l D cid m_Q_change X Post) : SS l D cid m_Q_change X 82 [o_iload 5, o_aload 0, o_getf 4 0] (t_cmp (fun x y => y ≤ x) (FR l D cid m_Q_change X 122) (FR l D cid m_Q_change X 91)) := by
  refine SS.cons (so_iload hX d_Q_change_82) ?_
  refine SS.cons (so_aload_n hX d_Q_change_84 rfl) ?_
  refine SS.cons (so_getf (C := R_Q) (T := T_Q) hX d_Q_change_85 in_Q rfl (by decide) k_485) ?_
  exact st_icmp_ge hX d_Q_change_88 (by decide)
theorem b_Q_change_91 {l : Launch} {D : va_G} {cid : Nat → ClassId} {X : CT} {Post : PT} (hX : OK l D cid m_Q_change X Post) : SS l D cid m_Q_change X 91 [o_aload 0, o_getf 4 14, o_push (.int 5), o_iload 1, o_bin (fun x y => x * y), o_iload 5, o_bin (fun x y => x + y), o_ald 1] (t_if (fun x => x = 0) (FR l D cid m_Q_change X 112) (FR l D cid m_Q_change X 105)) := by
  refine SS.cons (so_aload_n hX d_Q_change_91 rfl) ?_
  refine SS.cons (so_getf (C := R_Q) (T := T_Q) hX d_Q_change_92 in_Q rfl (by decide) k_499) ?_
  refine SS.cons (so_iconst hX d_Q_change_95 (by decide)) ?_
  refine SS.cons (so_iload_n hX d_Q_change_96 rfl) ?_
  refine SS.cons (so_imul hX d_Q_change_97) ?_
  refine SS.cons (so_iload hX d_Q_change_98) ?_
  refine SS.cons (so_iadd hX d_Q_change_100) ?_
  refine SS.cons (so_zald hX d_Q_change_101) ?_
  exact st_if_eq hX d_Q_change_102 (by decide)
theorem b_Q_change_105 {l : Launch} {D : va_G} {cid : Nat → ClassId} {X : CT} {Post : PT} (hX : OK l D cid m_Q_change X Post) : SS l D cid m_Q_change X 105 [o_iload 4, o_push (.int 1), o_bin (fun x y => x + y)] (FR l D cid m_Q_change X 114) := by
  refine SS.cons (so_iload hX d_Q_change_105) ?_
  refine SS.cons (so_iconst hX d_Q_change_107 (by decide)) ?_
  refine SS.cons (so_iadd hX d_Q_change_108) ?_
  exact so_goto hX d_Q_change_109 (by decide)
theorem b_Q_change_112 {l : Launch} {D : va_G} {cid : Nat → ClassId} {X : CT} {Post : PT} (hX : OK l D cid m_Q_change X Post) : SS l D cid m_Q_change X 112 [o_iload 4] (FR l D cid m_Q_change X 114) := by
  refine SS.cons (so_iload hX d_Q_change_112) ?_
  exact SS.fall
theorem b_Q_change_114 {l : Launch} {D : va_G} {cid : Nat → ClassId} {X : CT} {Post : PT} (hX : OK l D cid m_Q_change X Post) : SS l D cid m_Q_change X 114 [o_istore 4, o_iinc 5 1] (FR l D cid m_Q_change X 82) := by
  refine SS.cons (so_istore hX d_Q_change_114 (by decide)) ?_
  refine SS.cons (so_iinc hX d_Q_change_116 (by decide) (by decide)) ?_
  exact so_goto hX d_Q_change_119 (by decide)
theorem b_Q_change_122 {l : Launch} {D : va_G} {cid : Nat → ClassId} {X : CT} {Post : PT} (hX : OK l D cid m_Q_change X Post) : SS l D cid m_Q_change X 122 [o_iload 3, o_aload 0, o_getf 4 0, o_binz (fun x y => x - x / y * y), o_iload 1] (t_cmp (fun x y => x = y) (FR l D cid m_Q_change X 170) (FR l D cid m_Q_change X 132)) := by
  refine SS.cons (so_iload_n hX d_Q_change_122 rfl) ?_
  refine SS.cons (so_aload_n hX d_Q_change_123 rfl) ?_
  refine SS.cons (so_getf (C := R_Q) (T := T_Q) hX d_Q_change_124 in_Q rfl (by decide) k_485) ?_
  refine SS.cons (so_irem hX d_Q_change_127) ?_
  refine SS.cons (so_iload_n hX d_Q_change_128 rfl) ?_
  exact st_icmp_eq hX d_Q_change_129 (by decide)
theorem b_Q_change_132 {l : Launch} {D : va_G} {cid : Nat → ClassId} {X : CT} {Post : PT} (hX : OK l D cid m_Q_change X Post) : SS l D cid m_Q_change X 132 [o_aload 0, o_getf 4 12, o_iload 1, o_ald 1] (t_if (fun x => ¬ x = 0) (FR l D cid m_Q_change X 170) (FR l D cid m_Q_change X 141)) := by
  refine SS.cons (so_aload_n hX d_Q_change_132 rfl) ?_
  refine SS.cons (so_getf (C := R_Q) (T := T_Q) hX d_Q_change_133 in_Q rfl (by decide) k_497) ?_
  refine SS.cons (so_iload_n hX d_Q_change_136 rfl) ?_
  refine SS.cons (so_zald hX d_Q_change_137) ?_
  exact st_if_ne hX d_Q_change_138 (by decide)
theorem b_Q_change_141 {l : Launch} {D : va_G} {cid : Nat → ClassId} {X : CT} {Post : PT} (hX : OK l D cid m_Q_change X Post) : SS l D cid m_Q_change X 141 [o_iload 4, o_aload 0, o_getf 4 1] (t_cmp (fun x y => x < y) (FR l D cid m_Q_change X 170) (FR l D cid m_Q_change X 150)) := by
  refine SS.cons (so_iload hX d_Q_change_141) ?_
  refine SS.cons (so_aload_n hX d_Q_change_143 rfl) ?_
  refine SS.cons (so_getf (C := R_Q) (T := T_Q) hX d_Q_change_144 in_Q rfl (by decide) k_486) ?_
  exact st_icmp_lt hX d_Q_change_147 (by decide)
theorem b_Q_change_150 {l : Launch} {D : va_G} {cid : Nat → ClassId} {X : CT} {Post : PT} (hX : OK l D cid m_Q_change X Post) : SS l D cid m_Q_change X 150 [o_aload 0, o_iload 1, o_iload 3, o_aload 0, o_getf 4 0, o_binz (fun x y => x - x / y * y), o_push (.int 6), o_callV l D cid m_Q_send 4 3, o_aload 0, o_getf 4 12, o_iload 1, o_push (.int 1), o_zst] (FR l D cid m_Q_change X 170) := by
  refine SS.cons (so_aload_n hX d_Q_change_150 rfl) ?_
  refine SS.cons (so_iload_n hX d_Q_change_151 rfl) ?_
  refine SS.cons (so_iload_n hX d_Q_change_152 rfl) ?_
  refine SS.cons (so_aload_n hX d_Q_change_153 rfl) ?_
  refine SS.cons (so_getf (C := R_Q) (T := T_Q) hX d_Q_change_154 in_Q rfl (by decide) k_485) ?_
  refine SS.cons (so_irem hX d_Q_change_157) ?_
  refine SS.cons (so_bipush hX d_Q_change_158 (by decide)) ?_
  refine SS.cons (so_callV (M' := m_Q_send) (T := T_Q) hX d_Q_change_160 rfl k_614 k_611 k_613 k_28 k_48 pf_Q_send (by decide) (by decide +kernel) ⟨by decide, by decide⟩) ?_
  refine SS.cons (so_aload_n hX d_Q_change_163 rfl) ?_
  refine SS.cons (so_getf (C := R_Q) (T := T_Q) hX d_Q_change_164 in_Q rfl (by decide) k_497) ?_
  refine SS.cons (so_iload_n hX d_Q_change_167 rfl) ?_
  refine SS.cons (so_iconst hX d_Q_change_168 (by decide)) ?_
  refine SS.cons (so_zast hX d_Q_change_169) ?_
  exact SS.fall
theorem b_Q_change_170 {l : Launch} {D : va_G} {cid : Nat → ClassId} {X : CT} {Post : PT} (hX : OK l D cid m_Q_change X Post) : SS l D cid m_Q_change X 170 [] (t_ret Post) := by
  exact st_ret hX d_Q_change_170 rfl
abbrev m_Q_keep : MT := (⟨"GroupLogModel", "keep", "(II)I"⟩, prog_6_method_23_code, 6, (some FieldType.int), { frames := 1, cells := 0, slots := 0, locals := 23 })
theorem pf_Q_keep : plainFor m_Q_keep.1 = true := by decide +kernel
theorem d_Q_keep_0 : decode prog_6_method_23_code 0 = .ok (.iconst 5, 1) := by decide +kernel
theorem d_Q_keep_1 : decode prog_6_method_23_code 1 = .ok (.iload_n 1, 1) := by decide +kernel
theorem d_Q_keep_2 : decode prog_6_method_23_code 2 = .ok (.imul, 1) := by decide +kernel
theorem d_Q_keep_3 : decode prog_6_method_23_code 3 = .ok (.iload_n 2, 1) := by decide +kernel
theorem d_Q_keep_4 : decode prog_6_method_23_code 4 = .ok (.iadd, 1) := by decide +kernel
theorem d_Q_keep_5 : decode prog_6_method_23_code 5 = .ok (.istore_n 3, 1) := by decide +kernel
theorem d_Q_keep_6 : decode prog_6_method_23_code 6 = .ok (.aload_n 0, 1) := by decide +kernel
theorem d_Q_keep_7 : decode prog_6_method_23_code 7 = .ok (.getfield 53, 3) := by decide +kernel
theorem d_Q_keep_10 : decode prog_6_method_23_code 10 = .ok (.iload_n 3, 1) := by decide +kernel
theorem d_Q_keep_11 : decode prog_6_method_23_code 11 = .ok (.iconst 1, 1) := by decide +kernel
theorem d_Q_keep_12 : decode prog_6_method_23_code 12 = .ok (.bastore, 1) := by decide +kernel
theorem d_Q_keep_13 : decode prog_6_method_23_code 13 = .ok (.aload_n 0, 1) := by decide +kernel
theorem d_Q_keep_14 : decode prog_6_method_23_code 14 = .ok (.getfield 56, 3) := by decide +kernel
theorem d_Q_keep_17 : decode prog_6_method_23_code 17 = .ok (.iload_n 3, 1) := by decide +kernel
theorem d_Q_keep_18 : decode prog_6_method_23_code 18 = .ok (.aload_n 0, 1) := by decide +kernel
theorem d_Q_keep_19 : decode prog_6_method_23_code 19 = .ok (.getfield 86, 3) := by decide +kernel
theorem d_Q_keep_22 : decode prog_6_method_23_code 22 = .ok (.sipush 320, 3) := by decide +kernel
theorem d_Q_keep_25 : decode prog_6_method_23_code 25 = .ok (.iload_n 2, 1) := by decide +kernel
theorem d_Q_keep_26 : decode prog_6_method_23_code 26 = .ok (.iadd, 1) := by decide +kernel
theorem d_Q_keep_27 : decode prog_6_method_23_code 27 = .ok (.iaload, 1) := by decide +kernel
theorem d_Q_keep_28 : decode prog_6_method_23_code 28 = .ok (.iastore, 1) := by decide +kernel
theorem d_Q_keep_29 : decode prog_6_method_23_code 29 = .ok (.aload_n 0, 1) := by decide +kernel
theorem d_Q_keep_30 : decode prog_6_method_23_code 30 = .ok (.getfield 59, 3) := by decide +kernel
theorem d_Q_keep_33 : decode prog_6_method_23_code 33 = .ok (.iload_n 3, 1) := by decide +kernel
theorem d_Q_keep_34 : decode prog_6_method_23_code 34 = .ok (.aload_n 0, 1) := by decide +kernel
theorem d_Q_keep_35 : decode prog_6_method_23_code 35 = .ok (.getfield 77, 3) := by decide +kernel
theorem d_Q_keep_38 : decode prog_6_method_23_code 38 = .ok (.bipush 64, 2) := by decide +kernel
theorem d_Q_keep_40 : decode prog_6_method_23_code 40 = .ok (.iaload, 1) := by decide +kernel
theorem d_Q_keep_41 : decode prog_6_method_23_code 41 = .ok (.iastore, 1) := by decide +kernel
theorem d_Q_keep_42 : decode prog_6_method_23_code 42 = .ok (.aload_n 0, 1) := by decide +kernel
theorem d_Q_keep_43 : decode prog_6_method_23_code 43 = .ok (.getfield 62, 3) := by decide +kernel
theorem d_Q_keep_46 : decode prog_6_method_23_code 46 = .ok (.iload_n 3, 1) := by decide +kernel
theorem d_Q_keep_47 : decode prog_6_method_23_code 47 = .ok (.aload_n 0, 1) := by decide +kernel
theorem d_Q_keep_48 : decode prog_6_method_23_code 48 = .ok (.getfield 80, 3) := by decide +kernel
theorem d_Q_keep_51 : decode prog_6_method_23_code 51 = .ok (.bipush 64, 2) := by decide +kernel
theorem d_Q_keep_53 : decode prog_6_method_23_code 53 = .ok (.iaload, 1) := by decide +kernel
theorem d_Q_keep_54 : decode prog_6_method_23_code 54 = .ok (.iastore, 1) := by decide +kernel
theorem d_Q_keep_55 : decode prog_6_method_23_code 55 = .ok (.aload_n 0, 1) := by decide +kernel
theorem d_Q_keep_56 : decode prog_6_method_23_code 56 = .ok (.getfield 65, 3) := by decide +kernel
theorem d_Q_keep_59 : decode prog_6_method_23_code 59 = .ok (.iload_n 3, 1) := by decide +kernel
theorem d_Q_keep_60 : decode prog_6_method_23_code 60 = .ok (.aload_n 0, 1) := by decide +kernel
theorem d_Q_keep_61 : decode prog_6_method_23_code 61 = .ok (.getfield 83, 3) := by decide +kernel
theorem d_Q_keep_64 : decode prog_6_method_23_code 64 = .ok (.bipush 64, 2) := by decide +kernel
theorem d_Q_keep_66 : decode prog_6_method_23_code 66 = .ok (.iaload, 1) := by decide +kernel
theorem d_Q_keep_67 : decode prog_6_method_23_code 67 = .ok (.iastore, 1) := by decide +kernel
theorem d_Q_keep_68 : decode prog_6_method_23_code 68 = .ok (.aload_n 0, 1) := by decide +kernel
theorem d_Q_keep_69 : decode prog_6_method_23_code 69 = .ok (.bipush 69, 2) := by decide +kernel
theorem d_Q_keep_71 : decode prog_6_method_23_code 71 = .ok (.bipush 70, 2) := by decide +kernel
theorem d_Q_keep_73 : decode prog_6_method_23_code 73 = .ok (.iload_n 3, 1) := by decide +kernel
theorem d_Q_keep_74 : decode prog_6_method_23_code 74 = .ok (.iadd, 1) := by decide +kernel
theorem d_Q_keep_75 : decode prog_6_method_23_code 75 = .ok (.invokevirtual 116, 3) := by decide +kernel
theorem d_Q_keep_78 : decode prog_6_method_23_code 78 = .ok (.iconst 0, 1) := by decide +kernel
theorem d_Q_keep_79 : decode prog_6_method_23_code 79 = .ok (.istore 4, 2) := by decide +kernel
theorem d_Q_keep_81 : decode prog_6_method_23_code 81 = .ok (.iconst 0, 1) := by decide +kernel
theorem d_Q_keep_82 : decode prog_6_method_23_code 82 = .ok (.istore 5, 2) := by decide +kernel
theorem d_Q_keep_84 : decode prog_6_method_23_code 84 = .ok (.iload 5, 2) := by decide +kernel
theorem d_Q_keep_86 : decode prog_6_method_23_code 86 = .ok (.aload_n 0, 1) := by decide +kernel
theorem d_Q_keep_87 : decode prog_6_method_23_code 87 = .ok (.getfield 99, 3) := by decide +kernel
theorem d_Q_keep_90 : decode prog_6_method_23_code 90 = .ok (.if_icmp .ge 34, 3) := by decide +kernel
theorem d_Q_keep_93 : decode prog_6_method_23_code 93 = .ok (.aload_n 0, 1) := by decide +kernel
theorem d_Q_keep_94 : decode prog_6_method_23_code 94 = .ok (.getfield 53, 3) := by decide +kernel
theorem d_Q_keep_97 : decode prog_6_method_23_code 97 = .ok (.iconst 5, 1) := by decide +kernel
theorem d_Q_keep_98 : decode prog_6_method_23_code 98 = .ok (.iload_n 1, 1) := by decide +kernel
theorem d_Q_keep_99 : decode prog_6_method_23_code 99 = .ok (.imul, 1) := by decide +kernel
theorem d_Q_keep_100 : decode prog_6_method_23_code 100 = .ok (.iload 5, 2) := by decide +kernel
theorem d_Q_keep_102 : decode prog_6_method_23_code 102 = .ok (.iadd, 1) := by decide +kernel
theorem d_Q_keep_103 : decode prog_6_method_23_code 103 = .ok (.baload, 1) := by decide +kernel
theorem d_Q_keep_104 : decode prog_6_method_23_code 104 = .ok (.ifCond .eq 10, 3) := by decide +kernel
theorem d_Q_keep_107 : decode prog_6_method_23_code 107 = .ok (.iload 4, 2) := by decide +kernel
theorem d_Q_keep_109 : decode prog_6_method_23_code 109 = .ok (.iconst 1, 1) := by decide +kernel
theorem d_Q_keep_110 : decode prog_6_method_23_code 110 = .ok (.iadd, 1) := by decide +kernel
theorem d_Q_keep_111 : decode prog_6_method_23_code 111 = .ok (.goto 5, 3) := by decide +kernel
theorem d_Q_keep_114 : decode prog_6_method_23_code 114 = .ok (.iload 4, 2) := by decide +kernel
theorem d_Q_keep_116 : decode prog_6_method_23_code 116 = .ok (.istore 4, 2) := by decide +kernel
theorem d_Q_keep_118 : decode prog_6_method_23_code 118 = .ok (.iinc 5 1, 3) := by decide +kernel
theorem d_Q_keep_121 : decode prog_6_method_23_code 121 = .ok (.goto (-37), 3) := by decide +kernel
theorem d_Q_keep_124 : decode prog_6_method_23_code 124 = .ok (.iload 4, 2) := by decide +kernel
theorem d_Q_keep_126 : decode prog_6_method_23_code 126 = .ok (.ireturn, 1) := by decide +kernel
theorem b_Q_keep_0 {l : Launch} {D : va_G} {cid : Nat → ClassId} {X : CT} {Post : PT} (hX : OK l D cid m_Q_keep X Post) : SS l D cid m_Q_keep X 0 [o_push (.int 5), o_iload 1, o_bin (fun x y => x * y), o_iload 2, o_bin (fun x y => x + y), o_istore 3, o_aload 0, o_getf 4 16, o_iload 3, o_push (.int 1), o_zst, o_aload 0, o_getf 4 17, o_iload 3, o_aload 0, o_getf 4 27, o_push (.int 320), o_iload 2, o_bin (fun x y => x + y), o_ald 0, o_ast, o_aload 0, o_getf 4 18, o_iload 3, o_aload 0, o_getf 4 24, o_push (.int 64), o_ald 0, o_ast, o_aload 0, o_getf 4 19, o_iload 3, o_aload 0, o_getf 4 25, o_push (.int 64), o_ald 0, o_ast, o_aload 0, o_getf 4 20, o_iload 3, o_aload 0, o_getf 4 26, o_push (.int 64), o_ald 0, o_ast, o_aload 0, o_push (.int 69), o_push (.int 70), o_iload 3, o_bin (fun x y => x + y), o_callV l D cid m_Q_copy 4 2, o_push (.int 0), o_istore 4, o_push (.int 0), o_istore 5] (FR l D cid m_Q_keep X 84) := by
  refine SS.cons (so_iconst hX d_Q_keep_0 (by decide)) ?_
  refine SS.cons (so_iload_n hX d_Q_keep_1 rfl) ?_
  refine SS.cons (so_imul hX d_Q_keep_2) ?_
  refine SS.cons (so_iload_n hX d_Q_keep_3 rfl) ?_
  refine SS.cons (so_iadd hX d_Q_keep_4) ?_
  refine SS.cons (so_istore_n hX d_Q_keep_5 rfl (by decide)) ?_
  refine SS.cons (so_aload_n hX d_Q_keep_6 rfl) ?_
  refine SS.cons (so_getf (C := R_Q) (T := T_Q) hX d_Q_keep_7 in_Q rfl (by decide) k_501) ?_
  refine SS.cons (so_iload_n hX d_Q_keep_10 rfl) ?_
  refine SS.cons (so_iconst hX d_Q_keep_11 (by decide)) ?_
  refine SS.cons (so_zast hX d_Q_keep_12) ?_
  refine SS.cons (so_aload_n hX d_Q_keep_13 rfl) ?_
  refine SS.cons (so_getf (C := R_Q) (T := T_Q) hX d_Q_keep_14 in_Q rfl (by decide) k_502) ?_
  refine SS.cons (so_iload_n hX d_Q_keep_17 rfl) ?_
  refine SS.cons (so_aload_n hX d_Q_keep_18 rfl) ?_
  refine SS.cons (so_getf (C := R_Q) (T := T_Q) hX d_Q_keep_19 in_Q rfl (by decide) k_512) ?_
  refine SS.cons (so_sipush hX d_Q_keep_22 (by decide)) ?_
  refine SS.cons (so_iload_n hX d_Q_keep_25 rfl) ?_
  refine SS.cons (so_iadd hX d_Q_keep_26) ?_
  refine SS.cons (so_iald hX d_Q_keep_27) ?_
  refine SS.cons (so_iast hX d_Q_keep_28) ?_
  refine SS.cons (so_aload_n hX d_Q_keep_29 rfl) ?_
  refine SS.cons (so_getf (C := R_Q) (T := T_Q) hX d_Q_keep_30 in_Q rfl (by decide) k_503) ?_
  refine SS.cons (so_iload_n hX d_Q_keep_33 rfl) ?_
  refine SS.cons (so_aload_n hX d_Q_keep_34 rfl) ?_
  refine SS.cons (so_getf (C := R_Q) (T := T_Q) hX d_Q_keep_35 in_Q rfl (by decide) k_509) ?_
  refine SS.cons (so_bipush hX d_Q_keep_38 (by decide)) ?_
  refine SS.cons (so_iald hX d_Q_keep_40) ?_
  refine SS.cons (so_iast hX d_Q_keep_41) ?_
  refine SS.cons (so_aload_n hX d_Q_keep_42 rfl) ?_
  refine SS.cons (so_getf (C := R_Q) (T := T_Q) hX d_Q_keep_43 in_Q rfl (by decide) k_504) ?_
  refine SS.cons (so_iload_n hX d_Q_keep_46 rfl) ?_
  refine SS.cons (so_aload_n hX d_Q_keep_47 rfl) ?_
  refine SS.cons (so_getf (C := R_Q) (T := T_Q) hX d_Q_keep_48 in_Q rfl (by decide) k_510) ?_
  refine SS.cons (so_bipush hX d_Q_keep_51 (by decide)) ?_
  refine SS.cons (so_iald hX d_Q_keep_53) ?_
  refine SS.cons (so_iast hX d_Q_keep_54) ?_
  refine SS.cons (so_aload_n hX d_Q_keep_55 rfl) ?_
  refine SS.cons (so_getf (C := R_Q) (T := T_Q) hX d_Q_keep_56 in_Q rfl (by decide) k_505) ?_
  refine SS.cons (so_iload_n hX d_Q_keep_59 rfl) ?_
  refine SS.cons (so_aload_n hX d_Q_keep_60 rfl) ?_
  refine SS.cons (so_getf (C := R_Q) (T := T_Q) hX d_Q_keep_61 in_Q rfl (by decide) k_511) ?_
  refine SS.cons (so_bipush hX d_Q_keep_64 (by decide)) ?_
  refine SS.cons (so_iald hX d_Q_keep_66) ?_
  refine SS.cons (so_iast hX d_Q_keep_67) ?_
  refine SS.cons (so_aload_n hX d_Q_keep_68 rfl) ?_
  refine SS.cons (so_bipush hX d_Q_keep_69 (by decide)) ?_
  refine SS.cons (so_bipush hX d_Q_keep_71 (by decide)) ?_
  refine SS.cons (so_iload_n hX d_Q_keep_73 rfl) ?_
  refine SS.cons (so_iadd hX d_Q_keep_74) ?_
  refine SS.cons (so_callV (M' := m_Q_copy) (T := T_Q) hX d_Q_keep_75 rfl k_598 k_595 k_597 k_24 k_48 pf_Q_copy (by decide) (by decide +kernel) ⟨by decide, by decide⟩) ?_
  refine SS.cons (so_iconst hX d_Q_keep_78 (by decide)) ?_
  refine SS.cons (so_istore hX d_Q_keep_79 (by decide)) ?_
  refine SS.cons (so_iconst hX d_Q_keep_81 (by decide)) ?_
  refine SS.cons (so_istore hX d_Q_keep_82 (by decide)) ?_
  exact SS.fall
theorem b_Q_keep_84 {l : Launch} {D : va_G} {cid : Nat → ClassId} {X : CT} {Post : PT} (hX : OK l D cid m_Q_keep X Post) : SS l D cid m_Q_keep X 84 [o_iload 5, o_aload 0, o_getf 4 0] (t_cmp (fun x y => y ≤ x) (FR l D cid m_Q_keep X 124) (FR l D cid m_Q_keep X 93)) := by
  refine SS.cons (so_iload hX d_Q_keep_84) ?_
  refine SS.cons (so_aload_n hX d_Q_keep_86 rfl) ?_
  refine SS.cons (so_getf (C := R_Q) (T := T_Q) hX d_Q_keep_87 in_Q rfl (by decide) k_485) ?_
  exact st_icmp_ge hX d_Q_keep_90 (by decide)
theorem b_Q_keep_93 {l : Launch} {D : va_G} {cid : Nat → ClassId} {X : CT} {Post : PT} (hX : OK l D cid m_Q_keep X Post) : SS l D cid m_Q_keep X 93 [o_aload 0, o_getf 4 16, o_push (.int 5), o_iload 1, o_bin (fun x y => x * y), o_iload 5, o_bin (fun x y => x + y), o_ald 1] (t_if (fun x => x = 0) (FR l D cid m_Q_keep X 114) (FR l D cid m_Q_keep X 107)) := by
  refine SS.cons (so_aload_n hX d_Q_keep_93 rfl) ?_
  refine SS.cons (so_getf (C := R_Q) (T := T_Q) hX d_Q_keep_94 in_Q rfl (by decide) k_501) ?_
  refine SS.cons (so_iconst hX d_Q_keep_97 (by decide)) ?_
  refine SS.cons (so_iload_n hX d_Q_keep_98 rfl) ?_
  refine SS.cons (so_imul hX d_Q_keep_99) ?_
  refine SS.cons (so_iload hX d_Q_keep_100) ?_
  refine SS.cons (so_iadd hX d_Q_keep_102) ?_
  refine SS.cons (so_zald hX d_Q_keep_103) ?_
  exact st_if_eq hX d_Q_keep_104 (by decide)
theorem b_Q_keep_107 {l : Launch} {D : va_G} {cid : Nat → ClassId} {X : CT} {Post : PT} (hX : OK l D cid m_Q_keep X Post) : SS l D cid m_Q_keep X 107 [o_iload 4, o_push (.int 1), o_bin (fun x y => x + y)] (FR l D cid m_Q_keep X 116) := by
  refine SS.cons (so_iload hX d_Q_keep_107) ?_
  refine SS.cons (so_iconst hX d_Q_keep_109 (by decide)) ?_
  refine SS.cons (so_iadd hX d_Q_keep_110) ?_
  exact so_goto hX d_Q_keep_111 (by decide)
theorem b_Q_keep_114 {l : Launch} {D : va_G} {cid : Nat → ClassId} {X : CT} {Post : PT} (hX : OK l D cid m_Q_keep X Post) : SS l D cid m_Q_keep X 114 [o_iload 4] (FR l D cid m_Q_keep X 116) := by
  refine SS.cons (so_iload hX d_Q_keep_114) ?_
  exact SS.fall
theorem b_Q_keep_116 {l : Launch} {D : va_G} {cid : Nat → ClassId} {X : CT} {Post : PT} (hX : OK l D cid m_Q_keep X Post) : SS l D cid m_Q_keep X 116 [o_istore 4, o_iinc 5 1] (FR l D cid m_Q_keep X 84) := by
  refine SS.cons (so_istore hX d_Q_keep_116 (by decide)) ?_
  refine SS.cons (so_iinc hX d_Q_keep_118 (by decide) (by decide)) ?_
  exact so_goto hX d_Q_keep_121 (by decide)
theorem b_Q_keep_124 {l : Launch} {D : va_G} {cid : Nat → ClassId} {X : CT} {Post : PT} (hX : OK l D cid m_Q_keep X Post) : SS l D cid m_Q_keep X 124 [o_iload 4] (t_iret Post) := by
  refine SS.cons (so_iload hX d_Q_keep_124) ?_
  exact st_iret hX d_Q_keep_126 rfl
abbrev m_Q_paper : MT := (⟨"GroupLogModel", "paper", "(II)V"⟩, prog_6_method_24_code, 8, (none : Option FieldType), { frames := 4, cells := 0, slots := 0, locals := 93 })
theorem pf_Q_paper : plainFor m_Q_paper.1 = true := by decide +kernel
theorem d_Q_paper_0 : decode prog_6_method_24_code 0 = .ok (.aload_n 0, 1) := by decide +kernel
theorem d_Q_paper_1 : decode prog_6_method_24_code 1 = .ok (.getfield 77, 3) := by decide +kernel
theorem d_Q_paper_4 : decode prog_6_method_24_code 4 = .ok (.bipush 64, 2) := by decide +kernel
theorem d_Q_paper_6 : decode prog_6_method_24_code 6 = .ok (.iaload, 1) := by decide +kernel
theorem d_Q_paper_7 : decode prog_6_method_24_code 7 = .ok (.istore_n 3, 1) := by decide +kernel
theorem d_Q_paper_8 : decode prog_6_method_24_code 8 = .ok (.iload_n 3, 1) := by decide +kernel
theorem d_Q_paper_9 : decode prog_6_method_24_code 9 = .ok (.aload_n 0, 1) := by decide +kernel
theorem d_Q_paper_10 : decode prog_6_method_24_code 10 = .ok (.getfield 25, 3) := by decide +kernel
theorem d_Q_paper_13 : decode prog_6_method_24_code 13 = .ok (.iload_n 1, 1) := by decide +kernel
theorem d_Q_paper_14 : decode prog_6_method_24_code 14 = .ok (.iaload, 1) := by decide +kernel
theorem d_Q_paper_15 : decode prog_6_method_24_code 15 = .ok (.if_icmp .le 9, 3) := by decide +kernel
theorem d_Q_paper_18 : decode prog_6_method_24_code 18 = .ok (.aload_n 0, 1) := by decide +kernel
theorem d_Q_paper_19 : decode prog_6_method_24_code 19 = .ok (.iload_n 1, 1) := by decide +kernel
theorem d_Q_paper_20 : decode prog_6_method_24_code 20 = .ok (.iload_n 3, 1) := by decide +kernel
theorem d_Q_paper_21 : decode prog_6_method_24_code 21 = .ok (.invokevirtual 169, 3) := by decide +kernel
theorem d_Q_paper_24 : decode prog_6_method_24_code 24 = .ok (.iload_n 3, 1) := by decide +kernel
theorem d_Q_paper_25 : decode prog_6_method_24_code 25 = .ok (.aload_n 0, 1) := by decide +kernel
theorem d_Q_paper_26 : decode prog_6_method_24_code 26 = .ok (.getfield 25, 3) := by decide +kernel
theorem d_Q_paper_29 : decode prog_6_method_24_code 29 = .ok (.iload_n 1, 1) := by decide +kernel
theorem d_Q_paper_30 : decode prog_6_method_24_code 30 = .ok (.iaload, 1) := by decide +kernel
theorem d_Q_paper_31 : decode prog_6_method_24_code 31 = .ok (.if_icmp .ne 26, 3) := by decide +kernel
theorem d_Q_paper_34 : decode prog_6_method_24_code 34 = .ok (.aload_n 0, 1) := by decide +kernel
theorem d_Q_paper_35 : decode prog_6_method_24_code 35 = .ok (.getfield 22, 3) := by decide +kernel
theorem d_Q_paper_38 : decode prog_6_method_24_code 38 = .ok (.iload_n 1, 1) := by decide +kernel
theorem d_Q_paper_39 : decode prog_6_method_24_code 39 = .ok (.iaload, 1) := by decide +kernel
theorem d_Q_paper_40 : decode prog_6_method_24_code 40 = .ok (.iconst 1, 1) := by decide +kernel
theorem d_Q_paper_41 : decode prog_6_method_24_code 41 = .ok (.if_icmp .ne 16, 3) := by decide +kernel
theorem d_Q_paper_44 : decode prog_6_method_24_code 44 = .ok (.aload_n 0, 1) := by decide +kernel
theorem d_Q_paper_45 : decode prog_6_method_24_code 45 = .ok (.iload_n 1, 1) := by decide +kernel
theorem d_Q_paper_46 : decode prog_6_method_24_code 46 = .ok (.iload_n 2, 1) := by decide +kernel
theorem d_Q_paper_47 : decode prog_6_method_24_code 47 = .ok (.invokevirtual 172, 3) := by decide +kernel
theorem d_Q_paper_50 : decode prog_6_method_24_code 50 = .ok (.aload_n 0, 1) := by decide +kernel
theorem d_Q_paper_51 : decode prog_6_method_24_code 51 = .ok (.getfield 102, 3) := by decide +kernel
theorem d_Q_paper_54 : decode prog_6_method_24_code 54 = .ok (.if_icmp .ge 4, 3) := by decide +kernel
theorem d_Q_paper_57 : decode prog_6_method_24_code 57 = .ok (.return_, 1) := by decide +kernel
theorem d_Q_paper_58 : decode prog_6_method_24_code 58 = .ok (.iload_n 1, 1) := by decide +kernel
theorem d_Q_paper_59 : decode prog_6_method_24_code 59 = .ok (.istore 4, 2) := by decide +kernel
theorem d_Q_paper_61 : decode prog_6_method_24_code 61 = .ok (.aload_n 0, 1) := by decide +kernel
theorem d_Q_paper_62 : decode prog_6_method_24_code 62 = .ok (.getfield 28, 3) := by decide +kernel
theorem d_Q_paper_65 : decode prog_6_method_24_code 65 = .ok (.iload_n 1, 1) := by decide +kernel
theorem d_Q_paper_66 : decode prog_6_method_24_code 66 = .ok (.iaload, 1) := by decide +kernel
theorem d_Q_paper_67 : decode prog_6_method_24_code 67 = .ok (.istore 5, 2) := by decide +kernel
theorem d_Q_paper_69 : decode prog_6_method_24_code 69 = .ok (.iconst 0, 1) := by decide +kernel
theorem d_Q_paper_70 : decode prog_6_method_24_code 70 = .ok (.istore 6, 2) := by decide +kernel
theorem d_Q_paper_72 : decode prog_6_method_24_code 72 = .ok (.iload 6, 2) := by decide +kernel
theorem d_Q_paper_74 : decode prog_6_method_24_code 74 = .ok (.aload_n 0, 1) := by decide +kernel
theorem d_Q_paper_75 : decode prog_6_method_24_code 75 = .ok (.getfield 99, 3) := by decide +kernel
theorem d_Q_paper_78 : decode prog_6_method_24_code 78 = .ok (.if_icmp .ge 125, 3) := by decide +kernel
theorem d_Q_paper_81 : decode prog_6_method_24_code 81 = .ok (.iconst 5, 1) := by decide +kernel
theorem d_Q_paper_82 : decode prog_6_method_24_code 82 = .ok (.iload_n 1, 1) := by decide +kernel
theorem d_Q_paper_83 : decode prog_6_method_24_code 83 = .ok (.imul, 1) := by decide +kernel
theorem d_Q_paper_84 : decode prog_6_method_24_code 84 = .ok (.iload 6, 2) := by decide +kernel
theorem d_Q_paper_86 : decode prog_6_method_24_code 86 = .ok (.iadd, 1) := by decide +kernel
theorem d_Q_paper_87 : decode prog_6_method_24_code 87 = .ok (.istore 7, 2) := by decide +kernel
theorem d_Q_paper_89 : decode prog_6_method_24_code 89 = .ok (.aload_n 0, 1) := by decide +kernel
theorem d_Q_paper_90 : decode prog_6_method_24_code 90 = .ok (.getfield 53, 3) := by decide +kernel
theorem d_Q_paper_93 : decode prog_6_method_24_code 93 = .ok (.iload 7, 2) := by decide +kernel
theorem d_Q_paper_95 : decode prog_6_method_24_code 95 = .ok (.baload, 1) := by decide +kernel
theorem d_Q_paper_96 : decode prog_6_method_24_code 96 = .ok (.ifCond .eq 101, 3) := by decide +kernel
theorem d_Q_paper_99 : decode prog_6_method_24_code 99 = .ok (.aload_n 0, 1) := by decide +kernel
theorem d_Q_paper_100 : decode prog_6_method_24_code 100 = .ok (.getfield 31, 3) := by decide +kernel
theorem d_Q_paper_103 : decode prog_6_method_24_code 103 = .ok (.iload_n 1, 1) := by decide +kernel
theorem d_Q_paper_104 : decode prog_6_method_24_code 104 = .ok (.aload_n 0, 1) := by decide +kernel
theorem d_Q_paper_105 : decode prog_6_method_24_code 105 = .ok (.getfield 65, 3) := by decide +kernel
theorem d_Q_paper_108 : decode prog_6_method_24_code 108 = .ok (.iload 7, 2) := by decide +kernel
theorem d_Q_paper_110 : decode prog_6_method_24_code 110 = .ok (.iaload, 1) := by decide +kernel
theorem d_Q_paper_111 : decode prog_6_method_24_code 111 = .ok (.aload_n 0, 1) := by decide +kernel
theorem d_Q_paper_112 : decode prog_6_method_24_code 112 = .ok (.getfield 31, 3) := by decide +kernel
theorem d_Q_paper_115 : decode prog_6_method_24_code 115 = .ok (.iload_n 1, 1) := by decide +kernel
theorem d_Q_paper_116 : decode prog_6_method_24_code 116 = .ok (.iaload, 1) := by decide +kernel
theorem d_Q_paper_117 : decode prog_6_method_24_code 117 = .ok (.if_icmp .le 13, 3) := by decide +kernel
theorem d_Q_paper_120 : decode prog_6_method_24_code 120 = .ok (.aload_n 0, 1) := by decide +kernel
theorem d_Q_paper_121 : decode prog_6_method_24_code 121 = .ok (.getfield 65, 3) := by decide +kernel
theorem d_Q_paper_124 : decode prog_6_method_24_code 124 = .ok (.iload 7, 2) := by decide +kernel
theorem d_Q_paper_126 : decode prog_6_method_24_code 126 = .ok (.iaload, 1) := by decide +kernel
theorem d_Q_paper_127 : decode prog_6_method_24_code 127 = .ok (.goto 9, 3) := by decide +kernel
theorem d_Q_paper_130 : decode prog_6_method_24_code 130 = .ok (.aload_n 0, 1) := by decide +kernel
theorem d_Q_paper_131 : decode prog_6_method_24_code 131 = .ok (.getfield 31, 3) := by decide +kernel
theorem d_Q_paper_134 : decode prog_6_method_24_code 134 = .ok (.iload_n 1, 1) := by decide +kernel
theorem d_Q_paper_135 : decode prog_6_method_24_code 135 = .ok (.iaload, 1) := by decide +kernel
theorem d_Q_paper_136 : decode prog_6_method_24_code 136 = .ok (.iastore, 1) := by decide +kernel
theorem d_Q_paper_137 : decode prog_6_method_24_code 137 = .ok (.aload_n 0, 1) := by decide +kernel
theorem d_Q_paper_138 : decode prog_6_method_24_code 138 = .ok (.getfield 62, 3) := by decide +kernel
theorem d_Q_paper_141 : decode prog_6_method_24_code 141 = .ok (.iload 7, 2) := by decide +kernel
theorem d_Q_paper_143 : decode prog_6_method_24_code 143 = .ok (.iaload, 1) := by decide +kernel
theorem d_Q_paper_144 : decode prog_6_method_24_code 144 = .ok (.iload 5, 2) := by decide +kernel
theorem d_Q_paper_146 : decode prog_6_method_24_code 146 = .ok (.if_icmp .gt 35, 3) := by decide +kernel
theorem d_Q_paper_149 : decode prog_6_method_24_code 149 = .ok (.aload_n 0, 1) := by decide +kernel
theorem d_Q_paper_150 : decode prog_6_method_24_code 150 = .ok (.getfield 62, 3) := by decide +kernel
theorem d_Q_paper_153 : decode prog_6_method_24_code 153 = .ok (.iload 7, 2) := by decide +kernel
theorem d_Q_paper_155 : decode prog_6_method_24_code 155 = .ok (.iaload, 1) := by decide +kernel
theorem d_Q_paper_156 : decode prog_6_method_24_code 156 = .ok (.iload 5, 2) := by decide +kernel
theorem d_Q_paper_158 : decode prog_6_method_24_code 158 = .ok (.if_icmp .ne 39, 3) := by decide +kernel
theorem d_Q_paper_161 : decode prog_6_method_24_code 161 = .ok (.aload_n 0, 1) := by decide +kernel
theorem d_Q_paper_162 : decode prog_6_method_24_code 162 = .ok (.getfield 7, 3) := by decide +kernel
theorem d_Q_paper_165 : decode prog_6_method_24_code 165 = .ok (.bipush 70, 2) := by decide +kernel
theorem d_Q_paper_167 : decode prog_6_method_24_code 167 = .ok (.iload 7, 2) := by decide +kernel
theorem d_Q_paper_169 : decode prog_6_method_24_code 169 = .ok (.iadd, 1) := by decide +kernel
theorem d_Q_paper_170 : decode prog_6_method_24_code 170 = .ok (.iaload, 1) := by decide +kernel
theorem d_Q_paper_171 : decode prog_6_method_24_code 171 = .ok (.aload_n 0, 1) := by decide +kernel
theorem d_Q_paper_172 : decode prog_6_method_24_code 172 = .ok (.getfield 7, 3) := by decide +kernel
theorem d_Q_paper_175 : decode prog_6_method_24_code 175 = .ok (.iload 4, 2) := by decide +kernel
theorem d_Q_paper_177 : decode prog_6_method_24_code 177 = .ok (.iaload, 1) := by decide +kernel
theorem d_Q_paper_178 : decode prog_6_method_24_code 178 = .ok (.if_icmp .le 19, 3) := by decide +kernel
theorem d_Q_paper_181 : decode prog_6_method_24_code 181 = .ok (.bipush 70, 2) := by decide +kernel
theorem d_Q_paper_183 : decode prog_6_method_24_code 183 = .ok (.iload 7, 2) := by decide +kernel
theorem d_Q_paper_185 : decode prog_6_method_24_code 185 = .ok (.iadd, 1) := by decide +kernel
theorem d_Q_paper_186 : decode prog_6_method_24_code 186 = .ok (.istore 4, 2) := by decide +kernel
theorem d_Q_paper_188 : decode prog_6_method_24_code 188 = .ok (.aload_n 0, 1) := by decide +kernel
theorem d_Q_paper_189 : decode prog_6_method_24_code 189 = .ok (.getfield 62, 3) := by decide +kernel
theorem d_Q_paper_192 : decode prog_6_method_24_code 192 = .ok (.iload 7, 2) := by decide +kernel
theorem d_Q_paper_194 : decode prog_6_method_24_code 194 = .ok (.iaload, 1) := by decide +kernel
theorem d_Q_paper_195 : decode prog_6_method_24_code 195 = .ok (.istore 5, 2) := by decide +kernel
theorem d_Q_paper_197 : decode prog_6_method_24_code 197 = .ok (.iinc 6 1, 3) := by decide +kernel
theorem d_Q_paper_200 : decode prog_6_method_24_code 200 = .ok (.goto (-128), 3) := by decide +kernel
theorem d_Q_paper_203 : decode prog_6_method_24_code 203 = .ok (.aload_n 0, 1) := by decide +kernel
theorem d_Q_paper_204 : decode prog_6_method_24_code 204 = .ok (.iload 4, 2) := by decide +kernel
theorem d_Q_paper_206 : decode prog_6_method_24_code 206 = .ok (.iload_n 1, 1) := by decide +kernel
theorem d_Q_paper_207 : decode prog_6_method_24_code 207 = .ok (.invokevirtual 116, 3) := by decide +kernel
theorem d_Q_paper_210 : decode prog_6_method_24_code 210 = .ok (.aload_n 0, 1) := by decide +kernel
theorem d_Q_paper_211 : decode prog_6_method_24_code 211 = .ok (.getfield 22, 3) := by decide +kernel
theorem d_Q_paper_214 : decode prog_6_method_24_code 214 = .ok (.iload_n 1, 1) := by decide +kernel
theorem d_Q_paper_215 : decode prog_6_method_24_code 215 = .ok (.iconst 0, 1) := by decide +kernel
theorem d_Q_paper_216 : decode prog_6_method_24_code 216 = .ok (.iastore, 1) := by decide +kernel
theorem d_Q_paper_217 : decode prog_6_method_24_code 217 = .ok (.aload_n 0, 1) := by decide +kernel
theorem d_Q_paper_218 : decode prog_6_method_24_code 218 = .ok (.getfield 28, 3) := by decide +kernel
theorem d_Q_paper_221 : decode prog_6_method_24_code 221 = .ok (.iload_n 1, 1) := by decide +kernel
theorem d_Q_paper_222 : decode prog_6_method_24_code 222 = .ok (.iload_n 3, 1) := by decide +kernel
theorem d_Q_paper_223 : decode prog_6_method_24_code 223 = .ok (.iastore, 1) := by decide +kernel
theorem d_Q_paper_224 : decode prog_6_method_24_code 224 = .ok (.iconst 0, 1) := by decide +kernel
theorem d_Q_paper_225 : decode prog_6_method_24_code 225 = .ok (.istore 6, 2) := by decide +kernel
theorem d_Q_paper_227 : decode prog_6_method_24_code 227 = .ok (.iload 6, 2) := by decide +kernel
theorem d_Q_paper_229 : decode prog_6_method_24_code 229 = .ok (.aload_n 0, 1) := by decide +kernel
theorem d_Q_paper_230 : decode prog_6_method_24_code 230 = .ok (.getfield 99, 3) := by decide +kernel
theorem d_Q_paper_233 : decode prog_6_method_24_code 233 = .ok (.if_icmp .ge 21, 3) := by decide +kernel
theorem d_Q_paper_236 : decode prog_6_method_24_code 236 = .ok (.aload_n 0, 1) := by decide +kernel
theorem d_Q_paper_237 : decode prog_6_method_24_code 237 = .ok (.getfield 37, 3) := by decide +kernel
theorem d_Q_paper_240 : decode prog_6_method_24_code 240 = .ok (.iconst 5, 1) := by decide +kernel
theorem d_Q_paper_241 : decode prog_6_method_24_code 241 = .ok (.iload_n 1, 1) := by decide +kernel
theorem d_Q_paper_242 : decode prog_6_method_24_code 242 = .ok (.imul, 1) := by decide +kernel
theorem d_Q_paper_243 : decode prog_6_method_24_code 243 = .ok (.iload 6, 2) := by decide +kernel
theorem d_Q_paper_245 : decode prog_6_method_24_code 245 = .ok (.iadd, 1) := by decide +kernel
theorem d_Q_paper_246 : decode prog_6_method_24_code 246 = .ok (.iconst 0, 1) := by decide +kernel
theorem d_Q_paper_247 : decode prog_6_method_24_code 247 = .ok (.iastore, 1) := by decide +kernel
theorem d_Q_paper_248 : decode prog_6_method_24_code 248 = .ok (.iinc 6 1, 3) := by decide +kernel
theorem d_Q_paper_251 : decode prog_6_method_24_code 251 = .ok (.goto (-24), 3) := by decide +kernel
theorem d_Q_paper_254 : decode prog_6_method_24_code 254 = .ok (.aload_n 0, 1) := by decide +kernel
theorem d_Q_paper_255 : decode prog_6_method_24_code 255 = .ok (.iload_n 1, 1) := by decide +kernel
theorem d_Q_paper_256 : decode prog_6_method_24_code 256 = .ok (.invokevirtual 109, 3) := by decide +kernel
theorem d_Q_paper_259 : decode prog_6_method_24_code 259 = .ok (.aload_n 0, 1) := by decide +kernel
theorem d_Q_paper_260 : decode prog_6_method_24_code 260 = .ok (.iload_n 1, 1) := by decide +kernel
theorem d_Q_paper_261 : decode prog_6_method_24_code 261 = .ok (.iconst 4, 1) := by decide +kernel
theorem d_Q_paper_262 : decode prog_6_method_24_code 262 = .ok (.invokevirtual 124, 3) := by decide +kernel
theorem d_Q_paper_265 : decode prog_6_method_24_code 265 = .ok (.return_, 1) := by decide +kernel
theorem b_Q_paper_0 {l : Launch} {D : va_G} {cid : Nat → ClassId} {X : CT} {Post : PT} (hX : OK l D cid m_Q_paper X Post) : SS l D cid m_Q_paper X 0 [o_aload 0, o_getf 4 24, o_push (.int 64), o_ald 0, o_istore 3, o_iload 3, o_aload 0, o_getf 4 7, o_iload 1, o_ald 0] (t_cmp (fun x y => x ≤ y) (FR l D cid m_Q_paper X 24) (FR l D cid m_Q_paper X 18)) := by
  refine SS.cons (so_aload_n hX d_Q_paper_0 rfl) ?_
  refine SS.cons (so_getf (C := R_Q) (T := T_Q) hX d_Q_paper_1 in_Q rfl (by decide) k_509) ?_
  refine SS.cons (so_bipush hX d_Q_paper_4 (by decide)) ?_
  refine SS.cons (so_iald hX d_Q_paper_6) ?_
  refine SS.cons (so_istore_n hX d_Q_paper_7 rfl (by decide)) ?_
  refine SS.cons (so_iload_n hX d_Q_paper_8 rfl) ?_
  refine SS.cons (so_aload_n hX d_Q_paper_9 rfl) ?_
  refine SS.cons (so_getf (C := R_Q) (T := T_Q) hX d_Q_paper_10 in_Q rfl (by decide) k_492) ?_
  refine SS.cons (so_iload_n hX d_Q_paper_13 rfl) ?_
  refine SS.cons (so_iald hX d_Q_paper_14) ?_
  exact st_icmp_le hX d_Q_paper_15 (by decide)
theorem b_Q_paper_18 {l : Launch} {D : va_G} {cid : Nat → ClassId} {X : CT} {Post : PT} (hX : OK l D cid m_Q_paper X Post) : SS l D cid m_Q_paper X 18 [o_aload 0, o_iload 1, o_iload 3, o_callV l D cid m_Q_start 4 2] (FR l D cid m_Q_paper X 24) := by
  refine SS.cons (so_aload_n hX d_Q_paper_18 rfl) ?_
  refine SS.cons (so_iload_n hX d_Q_paper_19 rfl) ?_
  refine SS.cons (so_iload_n hX d_Q_paper_20 rfl) ?_
  refine SS.cons (so_callV (M' := m_Q_start) (T := T_Q) hX d_Q_paper_21 rfl k_650 k_647 k_649 k_37 k_48 pf_Q_start (by decide) (by decide +kernel) ⟨by decide, by decide⟩) ?_
  exact SS.fall
theorem b_Q_paper_24 {l : Launch} {D : va_G} {cid : Nat → ClassId} {X : CT} {Post : PT} (hX : OK l D cid m_Q_paper X Post) : SS l D cid m_Q_paper X 24 [o_iload 3, o_aload 0, o_getf 4 7, o_iload 1, o_ald 0] (t_cmp (fun x y => ¬ x = y) (FR l D cid m_Q_paper X 57) (FR l D cid m_Q_paper X 34)) := by
  refine SS.cons (so_iload_n hX d_Q_paper_24 rfl) ?_
  refine SS.cons (so_aload_n hX d_Q_paper_25 rfl) ?_
  refine SS.cons (so_getf (C := R_Q) (T := T_Q) hX d_Q_paper_26 in_Q rfl (by decide) k_492) ?_
  refine SS.cons (so_iload_n hX d_Q_paper_29 rfl) ?_
  refine SS.cons (so_iald hX d_Q_paper_30) ?_
  exact st_icmp_ne hX d_Q_paper_31 (by decide)
theorem b_Q_paper_34 {l : Launch} {D : va_G} {cid : Nat → ClassId} {X : CT} {Post : PT} (hX : OK l D cid m_Q_paper X Post) : SS l D cid m_Q_paper X 34 [o_aload 0, o_getf 4 6, o_iload 1, o_ald 0, o_push (.int 1)] (t_cmp (fun x y => ¬ x = y) (FR l D cid m_Q_paper X 57) (FR l D cid m_Q_paper X 44)) := by
  refine SS.cons (so_aload_n hX d_Q_paper_34 rfl) ?_
  refine SS.cons (so_getf (C := R_Q) (T := T_Q) hX d_Q_paper_35 in_Q rfl (by decide) k_491) ?_
  refine SS.cons (so_iload_n hX d_Q_paper_38 rfl) ?_
  refine SS.cons (so_iald hX d_Q_paper_39) ?_
  refine SS.cons (so_iconst hX d_Q_paper_40 (by decide)) ?_
  exact st_icmp_ne hX d_Q_paper_41 (by decide)
theorem b_Q_paper_44 {l : Launch} {D : va_G} {cid : Nat → ClassId} {X : CT} {Post : PT} (hX : OK l D cid m_Q_paper X Post) : SS l D cid m_Q_paper X 44 [o_aload 0, o_iload 1, o_iload 2, o_callV l D cid m_Q_keep 4 2, o_aload 0, o_getf 4 1] (t_cmp (fun x y => y ≤ x) (FR l D cid m_Q_paper X 58) (FR l D cid m_Q_paper X 57)) := by
  refine SS.cons (so_aload_n hX d_Q_paper_44 rfl) ?_
  refine SS.cons (so_iload_n hX d_Q_paper_45 rfl) ?_
  refine SS.cons (so_iload_n hX d_Q_paper_46 rfl) ?_
  refine SS.cons (so_callV (M' := m_Q_keep) (T := T_Q) hX d_Q_paper_47 rfl k_662 k_659 k_661 k_40 k_48 pf_Q_keep (by decide) (by decide +kernel) ⟨by decide, by decide⟩) ?_
  refine SS.cons (so_aload_n hX d_Q_paper_50 rfl) ?_
  refine SS.cons (so_getf (C := R_Q) (T := T_Q) hX d_Q_paper_51 in_Q rfl (by decide) k_486) ?_
  exact st_icmp_ge hX d_Q_paper_54 (by decide)
theorem b_Q_paper_57 {l : Launch} {D : va_G} {cid : Nat → ClassId} {X : CT} {Post : PT} (hX : OK l D cid m_Q_paper X Post) : SS l D cid m_Q_paper X 57 [] (t_ret Post) := by
  exact st_ret hX d_Q_paper_57 rfl
theorem b_Q_paper_58 {l : Launch} {D : va_G} {cid : Nat → ClassId} {X : CT} {Post : PT} (hX : OK l D cid m_Q_paper X Post) : SS l D cid m_Q_paper X 58 [o_iload 1, o_istore 4, o_aload 0, o_getf 4 8, o_iload 1, o_ald 0, o_istore 5, o_push (.int 0), o_istore 6] (FR l D cid m_Q_paper X 72) := by
  refine SS.cons (so_iload_n hX d_Q_paper_58 rfl) ?_
  refine SS.cons (so_istore hX d_Q_paper_59 (by decide)) ?_
  refine SS.cons (so_aload_n hX d_Q_paper_61 rfl) ?_
  refine SS.cons (so_getf (C := R_Q) (T := T_Q) hX d_Q_paper_62 in_Q rfl (by decide) k_493) ?_
  refine SS.cons (so_iload_n hX d_Q_paper_65 rfl) ?_
  refine SS.cons (so_iald hX d_Q_paper_66) ?_
  refine SS.cons (so_istore hX d_Q_paper_67 (by decide)) ?_
  refine SS.cons (so_iconst hX d_Q_paper_69 (by decide)) ?_
  refine SS.cons (so_istore hX d_Q_paper_70 (by decide)) ?_
  exact SS.fall
theorem b_Q_paper_72 {l : Launch} {D : va_G} {cid : Nat → ClassId} {X : CT} {Post : PT} (hX : OK l D cid m_Q_paper X Post) : SS l D cid m_Q_paper X 72 [o_iload 6, o_aload 0, o_getf 4 0] (t_cmp (fun x y => y ≤ x) (FR l D cid m_Q_paper X 203) (FR l D cid m_Q_paper X 81)) := by
  refine SS.cons (so_iload hX d_Q_paper_72) ?_
  refine SS.cons (so_aload_n hX d_Q_paper_74 rfl) ?_
  refine SS.cons (so_getf (C := R_Q) (T := T_Q) hX d_Q_paper_75 in_Q rfl (by decide) k_485) ?_
  exact st_icmp_ge hX d_Q_paper_78 (by decide)
theorem b_Q_paper_81 {l : Launch} {D : va_G} {cid : Nat → ClassId} {X : CT} {Post : PT} (hX : OK l D cid m_Q_paper X Post) : SS l D cid m_Q_paper X 81 [o_push (.int 5), o_iload 1, o_bin (fun x y => x * y), o_iload 6, o_bin (fun x y => x + y), o_istore 7, o_aload 0, o_getf 4 16, o_iload 7, o_ald 1] (t_if (fun x => x = 0) (FR l D cid m_Q_paper X 197) (FR l D cid m_Q_paper X 99)) := by
  refine SS.cons (so_iconst hX d_Q_paper_81 (by decide)) ?_
  refine SS.cons (so_iload_n hX d_Q_paper_82 rfl) ?_
  refine SS.cons (so_imul hX d_Q_paper_83) ?_
  refine SS.cons (so_iload hX d_Q_paper_84) ?_
  refine SS.cons (so_iadd hX d_Q_paper_86) ?_
  refine SS.cons (so_istore hX d_Q_paper_87 (by decide)) ?_
  refine SS.cons (so_aload_n hX d_Q_paper_89 rfl) ?_
  refine SS.cons (so_getf (C := R_Q) (T := T_Q) hX d_Q_paper_90 in_Q rfl (by decide) k_501) ?_
  refine SS.cons (so_iload hX d_Q_paper_93) ?_
  refine SS.cons (so_zald hX d_Q_paper_95) ?_
  exact st_if_eq hX d_Q_paper_96 (by decide)
theorem b_Q_paper_99 {l : Launch} {D : va_G} {cid : Nat → ClassId} {X : CT} {Post : PT} (hX : OK l D cid m_Q_paper X Post) : SS l D cid m_Q_paper X 99 [o_aload 0, o_getf 4 9, o_iload 1, o_aload 0, o_getf 4 20, o_iload 7, o_ald 0, o_aload 0, o_getf 4 9, o_iload 1, o_ald 0] (t_cmp (fun x y => x ≤ y) (FR l D cid m_Q_paper X 130) (FR l D cid m_Q_paper X 120)) := by
  refine SS.cons (so_aload_n hX d_Q_paper_99 rfl) ?_
  refine SS.cons (so_getf (C := R_Q) (T := T_Q) hX d_Q_paper_100 in_Q rfl (by decide) k_494) ?_
  refine SS.cons (so_iload_n hX d_Q_paper_103 rfl) ?_
  refine SS.cons (so_aload_n hX d_Q_paper_104 rfl) ?_
  refine SS.cons (so_getf (C := R_Q) (T := T_Q) hX d_Q_paper_105 in_Q rfl (by decide) k_505) ?_
  refine SS.cons (so_iload hX d_Q_paper_108) ?_
  refine SS.cons (so_iald hX d_Q_paper_110) ?_
  refine SS.cons (so_aload_n hX d_Q_paper_111 rfl) ?_
  refine SS.cons (so_getf (C := R_Q) (T := T_Q) hX d_Q_paper_112 in_Q rfl (by decide) k_494) ?_
  refine SS.cons (so_iload_n hX d_Q_paper_115 rfl) ?_
  refine SS.cons (so_iald hX d_Q_paper_116) ?_
  exact st_icmp_le hX d_Q_paper_117 (by decide)
theorem b_Q_paper_120 {l : Launch} {D : va_G} {cid : Nat → ClassId} {X : CT} {Post : PT} (hX : OK l D cid m_Q_paper X Post) : SS l D cid m_Q_paper X 120 [o_aload 0, o_getf 4 20, o_iload 7, o_ald 0] (FR l D cid m_Q_paper X 136) := by
  refine SS.cons (so_aload_n hX d_Q_paper_120 rfl) ?_
  refine SS.cons (so_getf (C := R_Q) (T := T_Q) hX d_Q_paper_121 in_Q rfl (by decide) k_505) ?_
  refine SS.cons (so_iload hX d_Q_paper_124) ?_
  refine SS.cons (so_iald hX d_Q_paper_126) ?_
  exact so_goto hX d_Q_paper_127 (by decide)
theorem b_Q_paper_130 {l : Launch} {D : va_G} {cid : Nat → ClassId} {X : CT} {Post : PT} (hX : OK l D cid m_Q_paper X Post) : SS l D cid m_Q_paper X 130 [o_aload 0, o_getf 4 9, o_iload 1, o_ald 0] (FR l D cid m_Q_paper X 136) := by
  refine SS.cons (so_aload_n hX d_Q_paper_130 rfl) ?_
  refine SS.cons (so_getf (C := R_Q) (T := T_Q) hX d_Q_paper_131 in_Q rfl (by decide) k_494) ?_
  refine SS.cons (so_iload_n hX d_Q_paper_134 rfl) ?_
  refine SS.cons (so_iald hX d_Q_paper_135) ?_
  exact SS.fall
theorem b_Q_paper_136 {l : Launch} {D : va_G} {cid : Nat → ClassId} {X : CT} {Post : PT} (hX : OK l D cid m_Q_paper X Post) : SS l D cid m_Q_paper X 136 [o_ast, o_aload 0, o_getf 4 19, o_iload 7, o_ald 0, o_iload 5] (t_cmp (fun x y => y < x) (FR l D cid m_Q_paper X 181) (FR l D cid m_Q_paper X 149)) := by
  refine SS.cons (so_iast hX d_Q_paper_136) ?_
  refine SS.cons (so_aload_n hX d_Q_paper_137 rfl) ?_
  refine SS.cons (so_getf (C := R_Q) (T := T_Q) hX d_Q_paper_138 in_Q rfl (by decide) k_504) ?_
  refine SS.cons (so_iload hX d_Q_paper_141) ?_
  refine SS.cons (so_iald hX d_Q_paper_143) ?_
  refine SS.cons (so_iload hX d_Q_paper_144) ?_
  exact st_icmp_gt hX d_Q_paper_146 (by decide)
theorem b_Q_paper_149 {l : Launch} {D : va_G} {cid : Nat → ClassId} {X : CT} {Post : PT} (hX : OK l D cid m_Q_paper X Post) : SS l D cid m_Q_paper X 149 [o_aload 0, o_getf 4 19, o_iload 7, o_ald 0, o_iload 5] (t_cmp (fun x y => ¬ x = y) (FR l D cid m_Q_paper X 197) (FR l D cid m_Q_paper X 161)) := by
  refine SS.cons (so_aload_n hX d_Q_paper_149 rfl) ?_
  refine SS.cons (so_getf (C := R_Q) (T := T_Q) hX d_Q_paper_150 in_Q rfl (by decide) k_504) ?_
  refine SS.cons (so_iload hX d_Q_paper_153) ?_
  refine SS.cons (so_iald hX d_Q_paper_155) ?_
  refine SS.cons (so_iload hX d_Q_paper_156) ?_
  exact st_icmp_ne hX d_Q_paper_158 (by decide)
theorem b_Q_paper_161 {l : Launch} {D : va_G} {cid : Nat → ClassId} {X : CT} {Post : PT} (hX : OK l D cid m_Q_paper X Post) : SS l D cid m_Q_paper X 161 [o_aload 0, o_getf 4 2, o_push (.int 70), o_iload 7, o_bin (fun x y => x + y), o_ald 0, o_aload 0, o_getf 4 2, o_iload 4, o_ald 0] (t_cmp (fun x y => x ≤ y) (FR l D cid m_Q_paper X 197) (FR l D cid m_Q_paper X 181)) := by
  refine SS.cons (so_aload_n hX d_Q_paper_161 rfl) ?_
  refine SS.cons (so_getf (C := R_Q) (T := T_Q) hX d_Q_paper_162 in_Q rfl (by decide) k_487) ?_
  refine SS.cons (so_bipush hX d_Q_paper_165 (by decide)) ?_
  refine SS.cons (so_iload hX d_Q_paper_167) ?_
  refine SS.cons (so_iadd hX d_Q_paper_169) ?_
  refine SS.cons (so_iald hX d_Q_paper_170) ?_
  refine SS.cons (so_aload_n hX d_Q_paper_171 rfl) ?_
  refine SS.cons (so_getf (C := R_Q) (T := T_Q) hX d_Q_paper_172 in_Q rfl (by decide) k_487) ?_
  refine SS.cons (so_iload hX d_Q_paper_175) ?_
  refine SS.cons (so_iald hX d_Q_paper_177) ?_
  exact st_icmp_le hX d_Q_paper_178 (by decide)
theorem b_Q_paper_181 {l : Launch} {D : va_G} {cid : Nat → ClassId} {X : CT} {Post : PT} (hX : OK l D cid m_Q_paper X Post) : SS l D cid m_Q_paper X 181 [o_push (.int 70), o_iload 7, o_bin (fun x y => x + y), o_istore 4, o_aload 0, o_getf 4 19, o_iload 7, o_ald 0, o_istore 5] (FR l D cid m_Q_paper X 197) := by
  refine SS.cons (so_bipush hX d_Q_paper_181 (by decide)) ?_
  refine SS.cons (so_iload hX d_Q_paper_183) ?_
  refine SS.cons (so_iadd hX d_Q_paper_185) ?_
  refine SS.cons (so_istore hX d_Q_paper_186 (by decide)) ?_
  refine SS.cons (so_aload_n hX d_Q_paper_188 rfl) ?_
  refine SS.cons (so_getf (C := R_Q) (T := T_Q) hX d_Q_paper_189 in_Q rfl (by decide) k_504) ?_
  refine SS.cons (so_iload hX d_Q_paper_192) ?_
  refine SS.cons (so_iald hX d_Q_paper_194) ?_
  refine SS.cons (so_istore hX d_Q_paper_195 (by decide)) ?_
  exact SS.fall
theorem b_Q_paper_197 {l : Launch} {D : va_G} {cid : Nat → ClassId} {X : CT} {Post : PT} (hX : OK l D cid m_Q_paper X Post) : SS l D cid m_Q_paper X 197 [o_iinc 6 1] (FR l D cid m_Q_paper X 72) := by
  refine SS.cons (so_iinc hX d_Q_paper_197 (by decide) (by decide)) ?_
  exact so_goto hX d_Q_paper_200 (by decide)
theorem b_Q_paper_203 {l : Launch} {D : va_G} {cid : Nat → ClassId} {X : CT} {Post : PT} (hX : OK l D cid m_Q_paper X Post) : SS l D cid m_Q_paper X 203 [o_aload 0, o_iload 4, o_iload 1, o_callV l D cid m_Q_copy 4 2, o_aload 0, o_getf 4 6, o_iload 1, o_push (.int 0), o_ast, o_aload 0, o_getf 4 8, o_iload 1, o_iload 3, o_ast, o_push (.int 0), o_istore 6] (FR l D cid m_Q_paper X 227) := by
  refine SS.cons (so_aload_n hX d_Q_paper_203 rfl) ?_
  refine SS.cons (so_iload hX d_Q_paper_204) ?_
  refine SS.cons (so_iload_n hX d_Q_paper_206 rfl) ?_
  refine SS.cons (so_callV (M' := m_Q_copy) (T := T_Q) hX d_Q_paper_207 rfl k_598 k_595 k_597 k_24 k_48 pf_Q_copy (by decide) (by decide +kernel) ⟨by decide, by decide⟩) ?_
  refine SS.cons (so_aload_n hX d_Q_paper_210 rfl) ?_
  refine SS.cons (so_getf (C := R_Q) (T := T_Q) hX d_Q_paper_211 in_Q rfl (by decide) k_491) ?_
  refine SS.cons (so_iload_n hX d_Q_paper_214 rfl) ?_
  refine SS.cons (so_iconst hX d_Q_paper_215 (by decide)) ?_
  refine SS.cons (so_iast hX d_Q_paper_216) ?_
  refine SS.cons (so_aload_n hX d_Q_paper_217 rfl) ?_
  refine SS.cons (so_getf (C := R_Q) (T := T_Q) hX d_Q_paper_218 in_Q rfl (by decide) k_493) ?_
  refine SS.cons (so_iload_n hX d_Q_paper_221 rfl) ?_
  refine SS.cons (so_iload_n hX d_Q_paper_222 rfl) ?_
  refine SS.cons (so_iast hX d_Q_paper_223) ?_
  refine SS.cons (so_iconst hX d_Q_paper_224 (by decide)) ?_
  refine SS.cons (so_istore hX d_Q_paper_225 (by decide)) ?_
  exact SS.fall
theorem b_Q_paper_227 {l : Launch} {D : va_G} {cid : Nat → ClassId} {X : CT} {Post : PT} (hX : OK l D cid m_Q_paper X Post) : SS l D cid m_Q_paper X 227 [o_iload 6, o_aload 0, o_getf 4 0] (t_cmp (fun x y => y ≤ x) (FR l D cid m_Q_paper X 254) (FR l D cid m_Q_paper X 236)) := by
  refine SS.cons (so_iload hX d_Q_paper_227) ?_
  refine SS.cons (so_aload_n hX d_Q_paper_229 rfl) ?_
  refine SS.cons (so_getf (C := R_Q) (T := T_Q) hX d_Q_paper_230 in_Q rfl (by decide) k_485) ?_
  exact st_icmp_ge hX d_Q_paper_233 (by decide)
theorem b_Q_paper_236 {l : Launch} {D : va_G} {cid : Nat → ClassId} {X : CT} {Post : PT} (hX : OK l D cid m_Q_paper X Post) : SS l D cid m_Q_paper X 236 [o_aload 0, o_getf 4 11, o_push (.int 5), o_iload 1, o_bin (fun x y => x * y), o_iload 6, o_bin (fun x y => x + y), o_push (.int 0), o_ast, o_iinc 6 1] (FR l D cid m_Q_paper X 227) := by
  refine SS.cons (so_aload_n hX d_Q_paper_236 rfl) ?_
  refine SS.cons (so_getf (C := R_Q) (T := T_Q) hX d_Q_paper_237 in_Q rfl (by decide) k_496) ?_
  refine SS.cons (so_iconst hX d_Q_paper_240 (by decide)) ?_
  refine SS.cons (so_iload_n hX d_Q_paper_241 rfl) ?_
  refine SS.cons (so_imul hX d_Q_paper_242) ?_
  refine SS.cons (so_iload hX d_Q_paper_243) ?_
  refine SS.cons (so_iadd hX d_Q_paper_245) ?_
  refine SS.cons (so_iconst hX d_Q_paper_246 (by decide)) ?_
  refine SS.cons (so_iast hX d_Q_paper_247) ?_
  refine SS.cons (so_iinc hX d_Q_paper_248 (by decide) (by decide)) ?_
  exact so_goto hX d_Q_paper_251 (by decide)
theorem b_Q_paper_254 {l : Launch} {D : va_G} {cid : Nat → ClassId} {X : CT} {Post : PT} (hX : OK l D cid m_Q_paper X Post) : SS l D cid m_Q_paper X 254 [o_aload 0, o_iload 1, o_callV l D cid m_Q_forget 4 1, o_aload 0, o_iload 1, o_push (.int 4), o_callV l D cid m_Q_sendAll 4 2] (t_ret Post) := by
  refine SS.cons (so_aload_n hX d_Q_paper_254 rfl) ?_
  refine SS.cons (so_iload_n hX d_Q_paper_255 rfl) ?_
  refine SS.cons (so_callV (M' := m_Q_forget) (T := T_Q) hX d_Q_paper_256 rfl k_642 k_639 k_641 k_35 k_48 pf_Q_forget (by decide) (by decide +kernel) ⟨by decide, by decide⟩) ?_
  refine SS.cons (so_aload_n hX d_Q_paper_259 rfl) ?_
  refine SS.cons (so_iload_n hX d_Q_paper_260 rfl) ?_
  refine SS.cons (so_iconst hX d_Q_paper_261 (by decide)) ?_
  refine SS.cons (so_callV (M' := m_Q_sendAll) (T := T_Q) hX d_Q_paper_262 rfl k_654 k_651 k_653 k_38 k_48 pf_Q_sendAll (by decide) (by decide +kernel) ⟨by decide, by decide⟩) ?_
  exact st_ret hX d_Q_paper_265 rfl
abbrev m_Q_response : MT := (⟨"GroupLogModel", "response", "(II)V"⟩, prog_6_method_25_code, 5, (none : Option FieldType), { frames := 2, cells := 0, slots := 0, locals := 48 })
theorem pf_Q_response : plainFor m_Q_response.1 = true := by decide +kernel
theorem d_Q_response_0 : decode prog_6_method_25_code 0 = .ok (.aload_n 0, 1) := by decide +kernel
theorem d_Q_response_1 : decode prog_6_method_25_code 1 = .ok (.iload_n 1, 1) := by decide +kernel
theorem d_Q_response_2 : decode prog_6_method_25_code 2 = .ok (.iload_n 2, 1) := by decide +kernel
theorem d_Q_response_3 : decode prog_6_method_25_code 3 = .ok (.invokevirtual 172, 3) := by decide +kernel
theorem d_Q_response_6 : decode prog_6_method_25_code 6 = .ok (.aload_n 0, 1) := by decide +kernel
theorem d_Q_response_7 : decode prog_6_method_25_code 7 = .ok (.getfield 102, 3) := by decide +kernel
theorem d_Q_response_10 : decode prog_6_method_25_code 10 = .ok (.iconst 1, 1) := by decide +kernel
theorem d_Q_response_11 : decode prog_6_method_25_code 11 = .ok (.iadd, 1) := by decide +kernel
theorem d_Q_response_12 : decode prog_6_method_25_code 12 = .ok (.if_icmp .ge 4, 3) := by decide +kernel
theorem d_Q_response_15 : decode prog_6_method_25_code 15 = .ok (.return_, 1) := by decide +kernel
theorem d_Q_response_16 : decode prog_6_method_25_code 16 = .ok (.iconst 0, 1) := by decide +kernel
theorem d_Q_response_17 : decode prog_6_method_25_code 17 = .ok (.istore_n 3, 1) := by decide +kernel
theorem d_Q_response_18 : decode prog_6_method_25_code 18 = .ok (.iconst 0, 1) := by decide +kernel
theorem d_Q_response_19 : decode prog_6_method_25_code 19 = .ok (.istore 4, 2) := by decide +kernel
theorem d_Q_response_21 : decode prog_6_method_25_code 21 = .ok (.iload 4, 2) := by decide +kernel
theorem d_Q_response_23 : decode prog_6_method_25_code 23 = .ok (.aload_n 0, 1) := by decide +kernel
theorem d_Q_response_24 : decode prog_6_method_25_code 24 = .ok (.getfield 99, 3) := by decide +kernel
theorem d_Q_response_27 : decode prog_6_method_25_code 27 = .ok (.if_icmp .ge 54, 3) := by decide +kernel
theorem d_Q_response_30 : decode prog_6_method_25_code 30 = .ok (.aload_n 0, 1) := by decide +kernel
theorem d_Q_response_31 : decode prog_6_method_25_code 31 = .ok (.getfield 53, 3) := by decide +kernel
theorem d_Q_response_34 : decode prog_6_method_25_code 34 = .ok (.iconst 5, 1) := by decide +kernel
theorem d_Q_response_35 : decode prog_6_method_25_code 35 = .ok (.iload_n 1, 1) := by decide +kernel
theorem d_Q_response_36 : decode prog_6_method_25_code 36 = .ok (.imul, 1) := by decide +kernel
theorem d_Q_response_37 : decode prog_6_method_25_code 37 = .ok (.iload 4, 2) := by decide +kernel
theorem d_Q_response_39 : decode prog_6_method_25_code 39 = .ok (.iadd, 1) := by decide +kernel
theorem d_Q_response_40 : decode prog_6_method_25_code 40 = .ok (.baload, 1) := by decide +kernel
theorem d_Q_response_41 : decode prog_6_method_25_code 41 = .ok (.ifCond .eq 32, 3) := by decide +kernel
theorem d_Q_response_44 : decode prog_6_method_25_code 44 = .ok (.aload_n 0, 1) := by decide +kernel
theorem d_Q_response_45 : decode prog_6_method_25_code 45 = .ok (.getfield 59, 3) := by decide +kernel
theorem d_Q_response_48 : decode prog_6_method_25_code 48 = .ok (.iconst 5, 1) := by decide +kernel
theorem d_Q_response_49 : decode prog_6_method_25_code 49 = .ok (.iload_n 1, 1) := by decide +kernel
theorem d_Q_response_50 : decode prog_6_method_25_code 50 = .ok (.imul, 1) := by decide +kernel
theorem d_Q_response_51 : decode prog_6_method_25_code 51 = .ok (.iload 4, 2) := by decide +kernel
theorem d_Q_response_53 : decode prog_6_method_25_code 53 = .ok (.iadd, 1) := by decide +kernel
theorem d_Q_response_54 : decode prog_6_method_25_code 54 = .ok (.iaload, 1) := by decide +kernel
theorem d_Q_response_55 : decode prog_6_method_25_code 55 = .ok (.iload_n 3, 1) := by decide +kernel
theorem d_Q_response_56 : decode prog_6_method_25_code 56 = .ok (.if_icmp .le 17, 3) := by decide +kernel
theorem d_Q_response_59 : decode prog_6_method_25_code 59 = .ok (.aload_n 0, 1) := by decide +kernel
theorem d_Q_response_60 : decode prog_6_method_25_code 60 = .ok (.getfield 59, 3) := by decide +kernel
theorem d_Q_response_63 : decode prog_6_method_25_code 63 = .ok (.iconst 5, 1) := by decide +kernel
theorem d_Q_response_64 : decode prog_6_method_25_code 64 = .ok (.iload_n 1, 1) := by decide +kernel
theorem d_Q_response_65 : decode prog_6_method_25_code 65 = .ok (.imul, 1) := by decide +kernel
theorem d_Q_response_66 : decode prog_6_method_25_code 66 = .ok (.iload 4, 2) := by decide +kernel
theorem d_Q_response_68 : decode prog_6_method_25_code 68 = .ok (.iadd, 1) := by decide +kernel
theorem d_Q_response_69 : decode prog_6_method_25_code 69 = .ok (.iaload, 1) := by decide +kernel
theorem d_Q_response_70 : decode prog_6_method_25_code 70 = .ok (.goto 4, 3) := by decide +kernel
theorem d_Q_response_73 : decode prog_6_method_25_code 73 = .ok (.iload_n 3, 1) := by decide +kernel
theorem d_Q_response_74 : decode prog_6_method_25_code 74 = .ok (.istore_n 3, 1) := by decide +kernel
theorem d_Q_response_75 : decode prog_6_method_25_code 75 = .ok (.iinc 4 1, 3) := by decide +kernel
theorem d_Q_response_78 : decode prog_6_method_25_code 78 = .ok (.goto (-57), 3) := by decide +kernel
theorem d_Q_response_81 : decode prog_6_method_25_code 81 = .ok (.iconst 5, 1) := by decide +kernel
theorem d_Q_response_82 : decode prog_6_method_25_code 82 = .ok (.iload_n 1, 1) := by decide +kernel
theorem d_Q_response_83 : decode prog_6_method_25_code 83 = .ok (.imul, 1) := by decide +kernel
theorem d_Q_response_84 : decode prog_6_method_25_code 84 = .ok (.iload_n 3, 1) := by decide +kernel
theorem d_Q_response_85 : decode prog_6_method_25_code 85 = .ok (.aload_n 0, 1) := by decide +kernel
theorem d_Q_response_86 : decode prog_6_method_25_code 86 = .ok (.getfield 99, 3) := by decide +kernel
theorem d_Q_response_89 : decode prog_6_method_25_code 89 = .ok (.irem, 1) := by decide +kernel
theorem d_Q_response_90 : decode prog_6_method_25_code 90 = .ok (.iadd, 1) := by decide +kernel
theorem d_Q_response_91 : decode prog_6_method_25_code 91 = .ok (.istore 4, 2) := by decide +kernel
theorem d_Q_response_93 : decode prog_6_method_25_code 93 = .ok (.aload_n 0, 1) := by decide +kernel
theorem d_Q_response_94 : decode prog_6_method_25_code 94 = .ok (.getfield 53, 3) := by decide +kernel
theorem d_Q_response_97 : decode prog_6_method_25_code 97 = .ok (.iload 4, 2) := by decide +kernel
theorem d_Q_response_99 : decode prog_6_method_25_code 99 = .ok (.baload, 1) := by decide +kernel
theorem d_Q_response_100 : decode prog_6_method_25_code 100 = .ok (.ifCond .eq 14, 3) := by decide +kernel
theorem d_Q_response_103 : decode prog_6_method_25_code 103 = .ok (.aload_n 0, 1) := by decide +kernel
theorem d_Q_response_104 : decode prog_6_method_25_code 104 = .ok (.getfield 59, 3) := by decide +kernel
theorem d_Q_response_107 : decode prog_6_method_25_code 107 = .ok (.iload 4, 2) := by decide +kernel
theorem d_Q_response_109 : decode prog_6_method_25_code 109 = .ok (.iaload, 1) := by decide +kernel
theorem d_Q_response_110 : decode prog_6_method_25_code 110 = .ok (.iload_n 3, 1) := by decide +kernel
theorem d_Q_response_111 : decode prog_6_method_25_code 111 = .ok (.if_icmp .eq 4, 3) := by decide +kernel
theorem d_Q_response_114 : decode prog_6_method_25_code 114 = .ok (.return_, 1) := by decide +kernel
theorem d_Q_response_115 : decode prog_6_method_25_code 115 = .ok (.aload_n 0, 1) := by decide +kernel
theorem d_Q_response_116 : decode prog_6_method_25_code 116 = .ok (.getfield 22, 3) := by decide +kernel
theorem d_Q_response_119 : decode prog_6_method_25_code 119 = .ok (.iload_n 1, 1) := by decide +kernel
theorem d_Q_response_120 : decode prog_6_method_25_code 120 = .ok (.iconst 0, 1) := by decide +kernel
theorem d_Q_response_121 : decode prog_6_method_25_code 121 = .ok (.iastore, 1) := by decide +kernel
theorem d_Q_response_122 : decode prog_6_method_25_code 122 = .ok (.aload_n 0, 1) := by decide +kernel
theorem d_Q_response_123 : decode prog_6_method_25_code 123 = .ok (.getfield 25, 3) := by decide +kernel
theorem d_Q_response_126 : decode prog_6_method_25_code 126 = .ok (.iload_n 1, 1) := by decide +kernel
theorem d_Q_response_127 : decode prog_6_method_25_code 127 = .ok (.iload_n 3, 1) := by decide +kernel
theorem d_Q_response_128 : decode prog_6_method_25_code 128 = .ok (.iastore, 1) := by decide +kernel
theorem d_Q_response_129 : decode prog_6_method_25_code 129 = .ok (.aload_n 0, 1) := by decide +kernel
theorem d_Q_response_130 : decode prog_6_method_25_code 130 = .ok (.getfield 28, 3) := by decide +kernel
theorem d_Q_response_133 : decode prog_6_method_25_code 133 = .ok (.iload_n 1, 1) := by decide +kernel
theorem d_Q_response_134 : decode prog_6_method_25_code 134 = .ok (.iload_n 3, 1) := by decide +kernel
theorem d_Q_response_135 : decode prog_6_method_25_code 135 = .ok (.iastore, 1) := by decide +kernel
theorem d_Q_response_136 : decode prog_6_method_25_code 136 = .ok (.aload_n 0, 1) := by decide +kernel
theorem d_Q_response_137 : decode prog_6_method_25_code 137 = .ok (.bipush 70, 2) := by decide +kernel
theorem d_Q_response_139 : decode prog_6_method_25_code 139 = .ok (.iload 4, 2) := by decide +kernel
theorem d_Q_response_141 : decode prog_6_method_25_code 141 = .ok (.iadd, 1) := by decide +kernel
theorem d_Q_response_142 : decode prog_6_method_25_code 142 = .ok (.iload_n 1, 1) := by decide +kernel
theorem d_Q_response_143 : decode prog_6_method_25_code 143 = .ok (.invokevirtual 116, 3) := by decide +kernel
theorem d_Q_response_146 : decode prog_6_method_25_code 146 = .ok (.aload_n 0, 1) := by decide +kernel
theorem d_Q_response_147 : decode prog_6_method_25_code 147 = .ok (.getfield 31, 3) := by decide +kernel
theorem d_Q_response_150 : decode prog_6_method_25_code 150 = .ok (.iload_n 1, 1) := by decide +kernel
theorem d_Q_response_151 : decode prog_6_method_25_code 151 = .ok (.aload_n 0, 1) := by decide +kernel
theorem d_Q_response_152 : decode prog_6_method_25_code 152 = .ok (.getfield 65, 3) := by decide +kernel
theorem d_Q_response_155 : decode prog_6_method_25_code 155 = .ok (.iload 4, 2) := by decide +kernel
theorem d_Q_response_157 : decode prog_6_method_25_code 157 = .ok (.iaload, 1) := by decide +kernel
theorem d_Q_response_158 : decode prog_6_method_25_code 158 = .ok (.iastore, 1) := by decide +kernel
theorem d_Q_response_159 : decode prog_6_method_25_code 159 = .ok (.aload_n 0, 1) := by decide +kernel
theorem d_Q_response_160 : decode prog_6_method_25_code 160 = .ok (.iload_n 1, 1) := by decide +kernel
theorem d_Q_response_161 : decode prog_6_method_25_code 161 = .ok (.invokevirtual 109, 3) := by decide +kernel
theorem d_Q_response_164 : decode prog_6_method_25_code 164 = .ok (.return_, 1) := by decide +kernel
theorem b_Q_response_0 {l : Launch} {D : va_G} {cid : Nat → ClassId} {X : CT} {Post : PT} (hX : OK l D cid m_Q_response X Post) : SS l D cid m_Q_response X 0 [o_aload 0, o_iload 1, o_iload 2, o_callV l D cid m_Q_keep 4 2, o_aload 0, o_getf 4 1, o_push (.int 1), o_bin (fun x y => x + y)] (t_cmp (fun x y => y ≤ x) (FR l D cid m_Q_response X 16) (FR l D cid m_Q_response X 15)) := by
  refine SS.cons (so_aload_n hX d_Q_response_0 rfl) ?_
  refine SS.cons (so_iload_n hX d_Q_response_1 rfl) ?_
  refine SS.cons (so_iload_n hX d_Q_response_2 rfl) ?_
  refine SS.cons (so_callV (M' := m_Q_keep) (T := T_Q) hX d_Q_response_3 rfl k_662 k_659 k_661 k_40 k_48 pf_Q_keep (by decide) (by decide +kernel) ⟨by decide, by decide⟩) ?_
  refine SS.cons (so_aload_n hX d_Q_response_6 rfl) ?_
  refine SS.cons (so_getf (C := R_Q) (T := T_Q) hX d_Q_response_7 in_Q rfl (by decide) k_486) ?_
  refine SS.cons (so_iconst hX d_Q_response_10 (by decide)) ?_
  refine SS.cons (so_iadd hX d_Q_response_11) ?_
  exact st_icmp_ge hX d_Q_response_12 (by decide)
theorem b_Q_response_15 {l : Launch} {D : va_G} {cid : Nat → ClassId} {X : CT} {Post : PT} (hX : OK l D cid m_Q_response X Post) : SS l D cid m_Q_response X 15 [] (t_ret Post) := by
  exact st_ret hX d_Q_response_15 rfl
theorem b_Q_response_16 {l : Launch} {D : va_G} {cid : Nat → ClassId} {X : CT} {Post : PT} (hX : OK l D cid m_Q_response X Post) : SS l D cid m_Q_response X 16 [o_push (.int 0), o_istore 3, o_push (.int 0), o_istore 4] (FR l D cid m_Q_response X 21) := by
  refine SS.cons (so_iconst hX d_Q_response_16 (by decide)) ?_
  refine SS.cons (so_istore_n hX d_Q_response_17 rfl (by decide)) ?_
  refine SS.cons (so_iconst hX d_Q_response_18 (by decide)) ?_
  refine SS.cons (so_istore hX d_Q_response_19 (by decide)) ?_
  exact SS.fall
theorem b_Q_response_21 {l : Launch} {D : va_G} {cid : Nat → ClassId} {X : CT} {Post : PT} (hX : OK l D cid m_Q_response X Post) : SS l D cid m_Q_response X 21 [o_iload 4, o_aload 0, o_getf 4 0] (t_cmp (fun x y => y ≤ x) (FR l D cid m_Q_response X 81) (FR l D cid m_Q_response X 30)) := by
  refine SS.cons (so_iload hX d_Q_response_21) ?_
  refine SS.cons (so_aload_n hX d_Q_response_23 rfl) ?_
  refine SS.cons (so_getf (C := R_Q) (T := T_Q) hX d_Q_response_24 in_Q rfl (by decide) k_485) ?_
  exact st_icmp_ge hX d_Q_response_27 (by decide)
theorem b_Q_response_30 {l : Launch} {D : va_G} {cid : Nat → ClassId} {X : CT} {Post : PT} (hX : OK l D cid m_Q_response X Post) : SS l D cid m_Q_response X 30 [o_aload 0, o_getf 4 16, o_push (.int 5), o_iload 1, o_bin (fun x y => x * y), o_iload 4, o_bin (fun x y => x + y), o_ald 1] (t_if (fun x => x = 0) (FR l D cid m_Q_response X 73) (FR l D cid m_Q_response X 44)) := by
  refine SS.cons (so_aload_n hX d_Q_response_30 rfl) ?_
  refine SS.cons (so_getf (C := R_Q) (T := T_Q) hX d_Q_response_31 in_Q rfl (by decide) k_501) ?_
  refine SS.cons (so_iconst hX d_Q_response_34 (by decide)) ?_
  refine SS.cons (so_iload_n hX d_Q_response_35 rfl) ?_
  refine SS.cons (so_imul hX d_Q_response_36) ?_
  refine SS.cons (so_iload hX d_Q_response_37) ?_
  refine SS.cons (so_iadd hX d_Q_response_39) ?_
  refine SS.cons (so_zald hX d_Q_response_40) ?_
  exact st_if_eq hX d_Q_response_41 (by decide)
theorem b_Q_response_44 {l : Launch} {D : va_G} {cid : Nat → ClassId} {X : CT} {Post : PT} (hX : OK l D cid m_Q_response X Post) : SS l D cid m_Q_response X 44 [o_aload 0, o_getf 4 18, o_push (.int 5), o_iload 1, o_bin (fun x y => x * y), o_iload 4, o_bin (fun x y => x + y), o_ald 0, o_iload 3] (t_cmp (fun x y => x ≤ y) (FR l D cid m_Q_response X 73) (FR l D cid m_Q_response X 59)) := by
  refine SS.cons (so_aload_n hX d_Q_response_44 rfl) ?_
  refine SS.cons (so_getf (C := R_Q) (T := T_Q) hX d_Q_response_45 in_Q rfl (by decide) k_503) ?_
  refine SS.cons (so_iconst hX d_Q_response_48 (by decide)) ?_
  refine SS.cons (so_iload_n hX d_Q_response_49 rfl) ?_
  refine SS.cons (so_imul hX d_Q_response_50) ?_
  refine SS.cons (so_iload hX d_Q_response_51) ?_
  refine SS.cons (so_iadd hX d_Q_response_53) ?_
  refine SS.cons (so_iald hX d_Q_response_54) ?_
  refine SS.cons (so_iload_n hX d_Q_response_55 rfl) ?_
  exact st_icmp_le hX d_Q_response_56 (by decide)
theorem b_Q_response_59 {l : Launch} {D : va_G} {cid : Nat → ClassId} {X : CT} {Post : PT} (hX : OK l D cid m_Q_response X Post) : SS l D cid m_Q_response X 59 [o_aload 0, o_getf 4 18, o_push (.int 5), o_iload 1, o_bin (fun x y => x * y), o_iload 4, o_bin (fun x y => x + y), o_ald 0] (FR l D cid m_Q_response X 74) := by
  refine SS.cons (so_aload_n hX d_Q_response_59 rfl) ?_
  refine SS.cons (so_getf (C := R_Q) (T := T_Q) hX d_Q_response_60 in_Q rfl (by decide) k_503) ?_
  refine SS.cons (so_iconst hX d_Q_response_63 (by decide)) ?_
  refine SS.cons (so_iload_n hX d_Q_response_64 rfl) ?_
  refine SS.cons (so_imul hX d_Q_response_65) ?_
  refine SS.cons (so_iload hX d_Q_response_66) ?_
  refine SS.cons (so_iadd hX d_Q_response_68) ?_
  refine SS.cons (so_iald hX d_Q_response_69) ?_
  exact so_goto hX d_Q_response_70 (by decide)
theorem b_Q_response_73 {l : Launch} {D : va_G} {cid : Nat → ClassId} {X : CT} {Post : PT} (hX : OK l D cid m_Q_response X Post) : SS l D cid m_Q_response X 73 [o_iload 3] (FR l D cid m_Q_response X 74) := by
  refine SS.cons (so_iload_n hX d_Q_response_73 rfl) ?_
  exact SS.fall
theorem b_Q_response_74 {l : Launch} {D : va_G} {cid : Nat → ClassId} {X : CT} {Post : PT} (hX : OK l D cid m_Q_response X Post) : SS l D cid m_Q_response X 74 [o_istore 3, o_iinc 4 1] (FR l D cid m_Q_response X 21) := by
  refine SS.cons (so_istore_n hX d_Q_response_74 rfl (by decide)) ?_
  refine SS.cons (so_iinc hX d_Q_response_75 (by decide) (by decide)) ?_
  exact so_goto hX d_Q_response_78 (by decide)
theorem b_Q_response_81 {l : Launch} {D : va_G} {cid : Nat → ClassId} {X : CT} {Post : PT} (hX : OK l D cid m_Q_response X Post) : SS l D cid m_Q_response X 81 [o_push (.int 5), o_iload 1, o_bin (fun x y => x * y), o_iload 3, o_aload 0, o_getf 4 0, o_binz (fun x y => x - x / y * y), o_bin (fun x y => x + y), o_istore 4, o_aload 0, o_getf 4 16, o_iload 4, o_ald 1] (t_if (fun x => x = 0) (FR l D cid m_Q_response X 114) (FR l D cid m_Q_response X 103)) := by
  refine SS.cons (so_iconst hX d_Q_response_81 (by decide)) ?_
  refine SS.cons (so_iload_n hX d_Q_response_82 rfl) ?_
  refine SS.cons (so_imul hX d_Q_response_83) ?_
  refine SS.cons (so_iload_n hX d_Q_response_84 rfl) ?_
  refine SS.cons (so_aload_n hX d_Q_response_85 rfl) ?_
  refine SS.cons (so_getf (C := R_Q) (T := T_Q) hX d_Q_response_86 in_Q rfl (by decide) k_485) ?_
  refine SS.cons (so_irem hX d_Q_response_89) ?_
  refine SS.cons (so_iadd hX d_Q_response_90) ?_
  refine SS.cons (so_istore hX d_Q_response_91 (by decide)) ?_
  refine SS.cons (so_aload_n hX d_Q_response_93 rfl) ?_
  refine SS.cons (so_getf (C := R_Q) (T := T_Q) hX d_Q_response_94 in_Q rfl (by decide) k_501) ?_
  refine SS.cons (so_iload hX d_Q_response_97) ?_
  refine SS.cons (so_zald hX d_Q_response_99) ?_
  exact st_if_eq hX d_Q_response_100 (by decide)
theorem b_Q_response_103 {l : Launch} {D : va_G} {cid : Nat → ClassId} {X : CT} {Post : PT} (hX : OK l D cid m_Q_response X Post) : SS l D cid m_Q_response X 103 [o_aload 0, o_getf 4 18, o_iload 4, o_ald 0, o_iload 3] (t_cmp (fun x y => x = y) (FR l D cid m_Q_response X 115) (FR l D cid m_Q_response X 114)) := by
  refine SS.cons (so_aload_n hX d_Q_response_103 rfl) ?_
  refine SS.cons (so_getf (C := R_Q) (T := T_Q) hX d_Q_response_104 in_Q rfl (by decide) k_503) ?_
  refine SS.cons (so_iload hX d_Q_response_107) ?_
  refine SS.cons (so_iald hX d_Q_response_109) ?_
  refine SS.cons (so_iload_n hX d_Q_response_110 rfl) ?_
  exact st_icmp_eq hX d_Q_response_111 (by decide)
theorem b_Q_response_114 {l : Launch} {D : va_G} {cid : Nat → ClassId} {X : CT} {Post : PT} (hX : OK l D cid m_Q_response X Post) : SS l D cid m_Q_response X 114 [] (t_ret Post) := by
  exact st_ret hX d_Q_response_114 rfl
theorem b_Q_response_115 {l : Launch} {D : va_G} {cid : Nat → ClassId} {X : CT} {Post : PT} (hX : OK l D cid m_Q_response X Post) : SS l D cid m_Q_response X 115 [o_aload 0, o_getf 4 6, o_iload 1, o_push (.int 0), o_ast, o_aload 0, o_getf 4 7, o_iload 1, o_iload 3, o_ast, o_aload 0, o_getf 4 8, o_iload 1, o_iload 3, o_ast, o_aload 0, o_push (.int 70), o_iload 4, o_bin (fun x y => x + y), o_iload 1, o_callV l D cid m_Q_copy 4 2, o_aload 0, o_getf 4 9, o_iload 1, o_aload 0, o_getf 4 20, o_iload 4, o_ald 0, o_ast, o_aload 0, o_iload 1, o_callV l D cid m_Q_forget 4 1] (t_ret Post) := by
  refine SS.cons (so_aload_n hX d_Q_response_115 rfl) ?_
  refine SS.cons (so_getf (C := R_Q) (T := T_Q) hX d_Q_response_116 in_Q rfl (by decide) k_491) ?_
  refine SS.cons (so_iload_n hX d_Q_response_119 rfl) ?_
  refine SS.cons (so_iconst hX d_Q_response_120 (by decide)) ?_
  refine SS.cons (so_iast hX d_Q_response_121) ?_
  refine SS.cons (so_aload_n hX d_Q_response_122 rfl) ?_
  refine SS.cons (so_getf (C := R_Q) (T := T_Q) hX d_Q_response_123 in_Q rfl (by decide) k_492) ?_
  refine SS.cons (so_iload_n hX d_Q_response_126 rfl) ?_
  refine SS.cons (so_iload_n hX d_Q_response_127 rfl) ?_
  refine SS.cons (so_iast hX d_Q_response_128) ?_
  refine SS.cons (so_aload_n hX d_Q_response_129 rfl) ?_
  refine SS.cons (so_getf (C := R_Q) (T := T_Q) hX d_Q_response_130 in_Q rfl (by decide) k_493) ?_
  refine SS.cons (so_iload_n hX d_Q_response_133 rfl) ?_
  refine SS.cons (so_iload_n hX d_Q_response_134 rfl) ?_
  refine SS.cons (so_iast hX d_Q_response_135) ?_
  refine SS.cons (so_aload_n hX d_Q_response_136 rfl) ?_
  refine SS.cons (so_bipush hX d_Q_response_137 (by decide)) ?_
  refine SS.cons (so_iload hX d_Q_response_139) ?_
  refine SS.cons (so_iadd hX d_Q_response_141) ?_
  refine SS.cons (so_iload_n hX d_Q_response_142 rfl) ?_
  refine SS.cons (so_callV (M' := m_Q_copy) (T := T_Q) hX d_Q_response_143 rfl k_598 k_595 k_597 k_24 k_48 pf_Q_copy (by decide) (by decide +kernel) ⟨by decide, by decide⟩) ?_
  refine SS.cons (so_aload_n hX d_Q_response_146 rfl) ?_
  refine SS.cons (so_getf (C := R_Q) (T := T_Q) hX d_Q_response_147 in_Q rfl (by decide) k_494) ?_
  refine SS.cons (so_iload_n hX d_Q_response_150 rfl) ?_
  refine SS.cons (so_aload_n hX d_Q_response_151 rfl) ?_
  refine SS.cons (so_getf (C := R_Q) (T := T_Q) hX d_Q_response_152 in_Q rfl (by decide) k_505) ?_
  refine SS.cons (so_iload hX d_Q_response_155) ?_
  refine SS.cons (so_iald hX d_Q_response_157) ?_
  refine SS.cons (so_iast hX d_Q_response_158) ?_
  refine SS.cons (so_aload_n hX d_Q_response_159 rfl) ?_
  refine SS.cons (so_iload_n hX d_Q_response_160 rfl) ?_
  refine SS.cons (so_callV (M' := m_Q_forget) (T := T_Q) hX d_Q_response_161 rfl k_642 k_639 k_641 k_35 k_48 pf_Q_forget (by decide) (by decide +kernel) ⟨by decide, by decide⟩) ?_
  exact st_ret hX d_Q_response_164 rfl
abbrev m_Q_act : MT := (⟨"GroupLogModel", "act", "(II)V"⟩, prog_6_method_18_code, 3, (none : Option FieldType), { frames := 5, cells := 0, slots := 0, locals := 120 })
theorem pf_Q_act : plainFor m_Q_act.1 = true := by decide +kernel
theorem d_Q_act_0 : decode prog_6_method_18_code 0 = .ok (.aload_n 0, 1) := by decide +kernel
theorem d_Q_act_1 : decode prog_6_method_18_code 1 = .ok (.getfield 74, 3) := by decide +kernel
theorem d_Q_act_4 : decode prog_6_method_18_code 4 = .ok (.bipush 64, 2) := by decide +kernel
theorem d_Q_act_6 : decode prog_6_method_18_code 6 = .ok (.iaload, 1) := by decide +kernel
theorem d_Q_act_7 : decode prog_6_method_18_code 7 = .ok (.tableswitch 124 1 7 #[41, 50, 59, 78, 86, 95, 104], 41) := by decide +kernel
theorem d_Q_act_48 : decode prog_6_method_18_code 48 = .ok (.aload_n 0, 1) := by decide +kernel
theorem d_Q_act_49 : decode prog_6_method_18_code 49 = .ok (.iload_n 1, 1) := by decide +kernel
theorem d_Q_act_50 : decode prog_6_method_18_code 50 = .ok (.iload_n 2, 1) := by decide +kernel
theorem d_Q_act_51 : decode prog_6_method_18_code 51 = .ok (.invokevirtual 141, 3) := by decide +kernel
theorem d_Q_act_54 : decode prog_6_method_18_code 54 = .ok (.goto 83, 3) := by decide +kernel
theorem d_Q_act_57 : decode prog_6_method_18_code 57 = .ok (.aload_n 0, 1) := by decide +kernel
theorem d_Q_act_58 : decode prog_6_method_18_code 58 = .ok (.iload_n 1, 1) := by decide +kernel
theorem d_Q_act_59 : decode prog_6_method_18_code 59 = .ok (.iload_n 2, 1) := by decide +kernel
theorem d_Q_act_60 : decode prog_6_method_18_code 60 = .ok (.invokevirtual 144, 3) := by decide +kernel
theorem d_Q_act_63 : decode prog_6_method_18_code 63 = .ok (.goto 74, 3) := by decide +kernel
theorem d_Q_act_66 : decode prog_6_method_18_code 66 = .ok (.aload_n 0, 1) := by decide +kernel
theorem d_Q_act_67 : decode prog_6_method_18_code 67 = .ok (.getfield 22, 3) := by decide +kernel
theorem d_Q_act_70 : decode prog_6_method_18_code 70 = .ok (.iload_n 1, 1) := by decide +kernel
theorem d_Q_act_71 : decode prog_6_method_18_code 71 = .ok (.iaload, 1) := by decide +kernel
theorem d_Q_act_72 : decode prog_6_method_18_code 72 = .ok (.ifCond .ne 65, 3) := by decide +kernel
theorem d_Q_act_75 : decode prog_6_method_18_code 75 = .ok (.aload_n 0, 1) := by decide +kernel
theorem d_Q_act_76 : decode prog_6_method_18_code 76 = .ok (.iload_n 1, 1) := by decide +kernel
theorem d_Q_act_77 : decode prog_6_method_18_code 77 = .ok (.iload_n 2, 1) := by decide +kernel
theorem d_Q_act_78 : decode prog_6_method_18_code 78 = .ok (.iconst 4, 1) := by decide +kernel
theorem d_Q_act_79 : decode prog_6_method_18_code 79 = .ok (.invokevirtual 120, 3) := by decide +kernel
theorem d_Q_act_82 : decode prog_6_method_18_code 82 = .ok (.goto 55, 3) := by decide +kernel
theorem d_Q_act_85 : decode prog_6_method_18_code 85 = .ok (.aload_n 0, 1) := by decide +kernel
theorem d_Q_act_86 : decode prog_6_method_18_code 86 = .ok (.iload_n 1, 1) := by decide +kernel
theorem d_Q_act_87 : decode prog_6_method_18_code 87 = .ok (.invokevirtual 147, 3) := by decide +kernel
theorem d_Q_act_90 : decode prog_6_method_18_code 90 = .ok (.goto 47, 3) := by decide +kernel
theorem d_Q_act_93 : decode prog_6_method_18_code 93 = .ok (.aload_n 0, 1) := by decide +kernel
theorem d_Q_act_94 : decode prog_6_method_18_code 94 = .ok (.iload_n 1, 1) := by decide +kernel
theorem d_Q_act_95 : decode prog_6_method_18_code 95 = .ok (.iload_n 2, 1) := by decide +kernel
theorem d_Q_act_96 : decode prog_6_method_18_code 96 = .ok (.invokevirtual 150, 3) := by decide +kernel
theorem d_Q_act_99 : decode prog_6_method_18_code 99 = .ok (.goto 38, 3) := by decide +kernel
theorem d_Q_act_102 : decode prog_6_method_18_code 102 = .ok (.aload_n 0, 1) := by decide +kernel
theorem d_Q_act_103 : decode prog_6_method_18_code 103 = .ok (.iload_n 1, 1) := by decide +kernel
theorem d_Q_act_104 : decode prog_6_method_18_code 104 = .ok (.iload_n 2, 1) := by decide +kernel
theorem d_Q_act_105 : decode prog_6_method_18_code 105 = .ok (.invokevirtual 153, 3) := by decide +kernel
theorem d_Q_act_108 : decode prog_6_method_18_code 108 = .ok (.goto 29, 3) := by decide +kernel
theorem d_Q_act_111 : decode prog_6_method_18_code 111 = .ok (.aload_n 0, 1) := by decide +kernel
theorem d_Q_act_112 : decode prog_6_method_18_code 112 = .ok (.getfield 22, 3) := by decide +kernel
theorem d_Q_act_115 : decode prog_6_method_18_code 115 = .ok (.iload_n 1, 1) := by decide +kernel
theorem d_Q_act_116 : decode prog_6_method_18_code 116 = .ok (.iaload, 1) := by decide +kernel
theorem d_Q_act_117 : decode prog_6_method_18_code 117 = .ok (.ifCond .ne 20, 3) := by decide +kernel
theorem d_Q_act_120 : decode prog_6_method_18_code 120 = .ok (.aload_n 0, 1) := by decide +kernel
theorem d_Q_act_121 : decode prog_6_method_18_code 121 = .ok (.iload_n 1, 1) := by decide +kernel
theorem d_Q_act_122 : decode prog_6_method_18_code 122 = .ok (.iload_n 2, 1) := by decide +kernel
theorem d_Q_act_123 : decode prog_6_method_18_code 123 = .ok (.bipush 8, 2) := by decide +kernel
theorem d_Q_act_125 : decode prog_6_method_18_code 125 = .ok (.invokevirtual 120, 3) := by decide +kernel
theorem d_Q_act_128 : decode prog_6_method_18_code 128 = .ok (.goto 9, 3) := by decide +kernel
theorem d_Q_act_131 : decode prog_6_method_18_code 131 = .ok (.aload_n 0, 1) := by decide +kernel
theorem d_Q_act_132 : decode prog_6_method_18_code 132 = .ok (.iload_n 1, 1) := by decide +kernel
theorem d_Q_act_133 : decode prog_6_method_18_code 133 = .ok (.iload_n 2, 1) := by decide +kernel
theorem d_Q_act_134 : decode prog_6_method_18_code 134 = .ok (.invokevirtual 156, 3) := by decide +kernel
theorem d_Q_act_137 : decode prog_6_method_18_code 137 = .ok (.return_, 1) := by decide +kernel
theorem b_Q_act_0 {l : Launch} {D : va_G} {cid : Nat → ClassId} {X : CT} {Post : PT} (hX : OK l D cid m_Q_act X Post) : SS l D cid m_Q_act X 0 [o_aload 0, o_getf 4 23, o_push (.int 64), o_ald 0] (t_sw 1 7 [FR l D cid m_Q_act X 48, FR l D cid m_Q_act X 57, FR l D cid m_Q_act X 66, FR l D cid m_Q_act X 85, FR l D cid m_Q_act X 93, FR l D cid m_Q_act X 102, FR l D cid m_Q_act X 111] (FR l D cid m_Q_act X 131)) := by
  refine SS.cons (so_aload_n hX d_Q_act_0 rfl) ?_
  refine SS.cons (so_getf (C := R_Q) (T := T_Q) hX d_Q_act_1 in_Q rfl (by decide) k_508) ?_
  refine SS.cons (so_bipush hX d_Q_act_4 (by decide)) ?_
  refine SS.cons (so_iald hX d_Q_act_6) ?_
  exact st_sw (tgts := [48, 57, 66, 85, 93, 102, 111]) hX d_Q_act_7 (by decide) (by decide) (by decide)
theorem b_Q_act_48 {l : Launch} {D : va_G} {cid : Nat → ClassId} {X : CT} {Post : PT} (hX : OK l D cid m_Q_act X Post) : SS l D cid m_Q_act X 48 [o_aload 0, o_iload 1, o_iload 2, o_callV l D cid m_Q_prepare 4 2] (FR l D cid m_Q_act X 137) := by
  refine SS.cons (so_aload_n hX d_Q_act_48 rfl) ?_
  refine SS.cons (so_iload_n hX d_Q_act_49 rfl) ?_
  refine SS.cons (so_iload_n hX d_Q_act_50 rfl) ?_
  refine SS.cons (so_callV (M' := m_Q_prepare) (T := T_Q) hX d_Q_act_51 rfl k_610 k_607 k_609 k_27 k_48 pf_Q_prepare (by decide) (by decide +kernel) ⟨by decide, by decide⟩) ?_
  exact so_goto hX d_Q_act_54 (by decide)
theorem b_Q_act_57 {l : Launch} {D : va_G} {cid : Nat → ClassId} {X : CT} {Post : PT} (hX : OK l D cid m_Q_act X Post) : SS l D cid m_Q_act X 57 [o_aload 0, o_iload 1, o_iload 2, o_callV l D cid m_Q_ok 4 2] (FR l D cid m_Q_act X 137) := by
  refine SS.cons (so_aload_n hX d_Q_act_57 rfl) ?_
  refine SS.cons (so_iload_n hX d_Q_act_58 rfl) ?_
  refine SS.cons (so_iload_n hX d_Q_act_59 rfl) ?_
  refine SS.cons (so_callV (M' := m_Q_ok) (T := T_Q) hX d_Q_act_60 rfl k_622 k_619 k_621 k_30 k_48 pf_Q_ok (by decide) (by decide +kernel) ⟨by decide, by decide⟩) ?_
  exact so_goto hX d_Q_act_63 (by decide)
theorem b_Q_act_66 {l : Launch} {D : va_G} {cid : Nat → ClassId} {X : CT} {Post : PT} (hX : OK l D cid m_Q_act X Post) : SS l D cid m_Q_act X 66 [o_aload 0, o_getf 4 6, o_iload 1, o_ald 0] (t_if (fun x => ¬ x = 0) (FR l D cid m_Q_act X 137) (FR l D cid m_Q_act X 75)) := by
  refine SS.cons (so_aload_n hX d_Q_act_66 rfl) ?_
  refine SS.cons (so_getf (C := R_Q) (T := T_Q) hX d_Q_act_67 in_Q rfl (by decide) k_491) ?_
  refine SS.cons (so_iload_n hX d_Q_act_70 rfl) ?_
  refine SS.cons (so_iald hX d_Q_act_71) ?_
  exact st_if_ne hX d_Q_act_72 (by decide)
theorem b_Q_act_75 {l : Launch} {D : va_G} {cid : Nat → ClassId} {X : CT} {Post : PT} (hX : OK l D cid m_Q_act X Post) : SS l D cid m_Q_act X 75 [o_aload 0, o_iload 1, o_iload 2, o_push (.int 4), o_callV l D cid m_Q_send 4 3] (FR l D cid m_Q_act X 137) := by
  refine SS.cons (so_aload_n hX d_Q_act_75 rfl) ?_
  refine SS.cons (so_iload_n hX d_Q_act_76 rfl) ?_
  refine SS.cons (so_iload_n hX d_Q_act_77 rfl) ?_
  refine SS.cons (so_iconst hX d_Q_act_78 (by decide)) ?_
  refine SS.cons (so_callV (M' := m_Q_send) (T := T_Q) hX d_Q_act_79 rfl k_614 k_611 k_613 k_28 k_48 pf_Q_send (by decide) (by decide +kernel) ⟨by decide, by decide⟩) ?_
  exact so_goto hX d_Q_act_82 (by decide)
theorem b_Q_act_85 {l : Launch} {D : va_G} {cid : Nat → ClassId} {X : CT} {Post : PT} (hX : OK l D cid m_Q_act X Post) : SS l D cid m_Q_act X 85 [o_aload 0, o_iload 1, o_callV l D cid m_Q_state 4 1] (FR l D cid m_Q_act X 137) := by
  refine SS.cons (so_aload_n hX d_Q_act_85 rfl) ?_
  refine SS.cons (so_iload_n hX d_Q_act_86 rfl) ?_
  refine SS.cons (so_callV (M' := m_Q_state) (T := T_Q) hX d_Q_act_87 rfl k_638 k_635 k_637 k_34 k_48 pf_Q_state (by decide) (by decide +kernel) ⟨by decide, by decide⟩) ?_
  exact so_goto hX d_Q_act_90 (by decide)
theorem b_Q_act_93 {l : Launch} {D : va_G} {cid : Nat → ClassId} {X : CT} {Post : PT} (hX : OK l D cid m_Q_act X Post) : SS l D cid m_Q_act X 93 [o_aload 0, o_iload 1, o_iload 2, o_callV l D cid m_Q_change 4 2] (FR l D cid m_Q_act X 137) := by
  refine SS.cons (so_aload_n hX d_Q_act_93 rfl) ?_
  refine SS.cons (so_iload_n hX d_Q_act_94 rfl) ?_
  refine SS.cons (so_iload_n hX d_Q_act_95 rfl) ?_
  refine SS.cons (so_callV (M' := m_Q_change) (T := T_Q) hX d_Q_act_96 rfl k_646 k_643 k_645 k_36 k_48 pf_Q_change (by decide) (by decide +kernel) ⟨by decide, by decide⟩) ?_
  exact so_goto hX d_Q_act_99 (by decide)
theorem b_Q_act_102 {l : Launch} {D : va_G} {cid : Nat → ClassId} {X : CT} {Post : PT} (hX : OK l D cid m_Q_act X Post) : SS l D cid m_Q_act X 102 [o_aload 0, o_iload 1, o_iload 2, o_callV l D cid m_Q_paper 4 2] (FR l D cid m_Q_act X 137) := by
  refine SS.cons (so_aload_n hX d_Q_act_102 rfl) ?_
  refine SS.cons (so_iload_n hX d_Q_act_103 rfl) ?_
  refine SS.cons (so_iload_n hX d_Q_act_104 rfl) ?_
  refine SS.cons (so_callV (M' := m_Q_paper) (T := T_Q) hX d_Q_act_105 rfl k_658 k_655 k_657 k_39 k_48 pf_Q_paper (by decide) (by decide +kernel) ⟨by decide, by decide⟩) ?_
  exact so_goto hX d_Q_act_108 (by decide)
theorem b_Q_act_111 {l : Launch} {D : va_G} {cid : Nat → ClassId} {X : CT} {Post : PT} (hX : OK l D cid m_Q_act X Post) : SS l D cid m_Q_act X 111 [o_aload 0, o_getf 4 6, o_iload 1, o_ald 0] (t_if (fun x => ¬ x = 0) (FR l D cid m_Q_act X 137) (FR l D cid m_Q_act X 120)) := by
  refine SS.cons (so_aload_n hX d_Q_act_111 rfl) ?_
  refine SS.cons (so_getf (C := R_Q) (T := T_Q) hX d_Q_act_112 in_Q rfl (by decide) k_491) ?_
  refine SS.cons (so_iload_n hX d_Q_act_115 rfl) ?_
  refine SS.cons (so_iald hX d_Q_act_116) ?_
  exact st_if_ne hX d_Q_act_117 (by decide)
theorem b_Q_act_120 {l : Launch} {D : va_G} {cid : Nat → ClassId} {X : CT} {Post : PT} (hX : OK l D cid m_Q_act X Post) : SS l D cid m_Q_act X 120 [o_aload 0, o_iload 1, o_iload 2, o_push (.int 8), o_callV l D cid m_Q_send 4 3] (FR l D cid m_Q_act X 137) := by
  refine SS.cons (so_aload_n hX d_Q_act_120 rfl) ?_
  refine SS.cons (so_iload_n hX d_Q_act_121 rfl) ?_
  refine SS.cons (so_iload_n hX d_Q_act_122 rfl) ?_
  refine SS.cons (so_bipush hX d_Q_act_123 (by decide)) ?_
  refine SS.cons (so_callV (M' := m_Q_send) (T := T_Q) hX d_Q_act_125 rfl k_614 k_611 k_613 k_28 k_48 pf_Q_send (by decide) (by decide +kernel) ⟨by decide, by decide⟩) ?_
  exact so_goto hX d_Q_act_128 (by decide)
theorem b_Q_act_131 {l : Launch} {D : va_G} {cid : Nat → ClassId} {X : CT} {Post : PT} (hX : OK l D cid m_Q_act X Post) : SS l D cid m_Q_act X 131 [o_aload 0, o_iload 1, o_iload 2, o_callV l D cid m_Q_response 4 2] (FR l D cid m_Q_act X 137) := by
  refine SS.cons (so_aload_n hX d_Q_act_131 rfl) ?_
  refine SS.cons (so_iload_n hX d_Q_act_132 rfl) ?_
  refine SS.cons (so_iload_n hX d_Q_act_133 rfl) ?_
  refine SS.cons (so_callV (M' := m_Q_response) (T := T_Q) hX d_Q_act_134 rfl k_666 k_663 k_665 k_41 k_48 pf_Q_response (by decide) (by decide +kernel) ⟨by decide, by decide⟩) ?_
  exact SS.fall
theorem b_Q_act_137 {l : Launch} {D : va_G} {cid : Nat → ClassId} {X : CT} {Post : PT} (hX : OK l D cid m_Q_act X Post) : SS l D cid m_Q_act X 137 [] (t_ret Post) := by
  exact st_ret hX d_Q_act_137 rfl
abbrev m_Q_receive : MT := (⟨"GroupLogModel", "receive", "(I)I"⟩, prog_6_method_16_code, 6, (some FieldType.int), { frames := 6, cells := 0, slots := 0, locals := 142 })
theorem pf_Q_receive : plainFor m_Q_receive.1 = true := by decide +kernel
theorem d_Q_receive_0 : decode prog_6_method_16_code 0 = .ok (.aload_n 0, 1) := by decide +kernel
theorem d_Q_receive_1 : decode prog_6_method_16_code 1 = .ok (.getfield 71, 3) := by decide +kernel
theorem d_Q_receive_4 : decode prog_6_method_16_code 4 = .ok (.iload_n 1, 1) := by decide +kernel
theorem d_Q_receive_5 : decode prog_6_method_16_code 5 = .ok (.iaload, 1) := by decide +kernel
theorem d_Q_receive_6 : decode prog_6_method_16_code 6 = .ok (.istore_n 2, 1) := by decide +kernel
theorem d_Q_receive_7 : decode prog_6_method_16_code 7 = .ok (.aload_n 0, 1) := by decide +kernel
theorem d_Q_receive_8 : decode prog_6_method_16_code 8 = .ok (.getfield 68, 3) := by decide +kernel
theorem d_Q_receive_11 : decode prog_6_method_16_code 11 = .ok (.iload_n 1, 1) := by decide +kernel
theorem d_Q_receive_12 : decode prog_6_method_16_code 12 = .ok (.iaload, 1) := by decide +kernel
theorem d_Q_receive_13 : decode prog_6_method_16_code 13 = .ok (.istore_n 3, 1) := by decide +kernel
theorem d_Q_receive_14 : decode prog_6_method_16_code 14 = .ok (.aload_n 0, 1) := by decide +kernel
theorem d_Q_receive_15 : decode prog_6_method_16_code 15 = .ok (.getfield 74, 3) := by decide +kernel
theorem d_Q_receive_18 : decode prog_6_method_16_code 18 = .ok (.iload_n 1, 1) := by decide +kernel
theorem d_Q_receive_19 : decode prog_6_method_16_code 19 = .ok (.iaload, 1) := by decide +kernel
theorem d_Q_receive_20 : decode prog_6_method_16_code 20 = .ok (.bipush 8, 2) := by decide +kernel
theorem d_Q_receive_22 : decode prog_6_method_16_code 22 = .ok (.if_icmp .ne 7, 3) := by decide +kernel
theorem d_Q_receive_25 : decode prog_6_method_16_code 25 = .ok (.iconst 1, 1) := by decide +kernel
theorem d_Q_receive_26 : decode prog_6_method_16_code 26 = .ok (.goto 4, 3) := by decide +kernel
theorem d_Q_receive_29 : decode prog_6_method_16_code 29 = .ok (.iconst 0, 1) := by decide +kernel
theorem d_Q_receive_30 : decode prog_6_method_16_code 30 = .ok (.istore 4, 2) := by decide +kernel
theorem d_Q_receive_32 : decode prog_6_method_16_code 32 = .ok (.aload_n 0, 1) := by decide +kernel
theorem d_Q_receive_33 : decode prog_6_method_16_code 33 = .ok (.getfield 22, 3) := by decide +kernel
theorem d_Q_receive_36 : decode prog_6_method_16_code 36 = .ok (.iload_n 2, 1) := by decide +kernel
theorem d_Q_receive_37 : decode prog_6_method_16_code 37 = .ok (.iaload, 1) := by decide +kernel
theorem d_Q_receive_38 : decode prog_6_method_16_code 38 = .ok (.iconst 3, 1) := by decide +kernel
theorem d_Q_receive_39 : decode prog_6_method_16_code 39 = .ok (.if_icmp .eq 23, 3) := by decide +kernel
theorem d_Q_receive_42 : decode prog_6_method_16_code 42 = .ok (.iload 4, 2) := by decide +kernel
theorem d_Q_receive_44 : decode prog_6_method_16_code 44 = .ok (.aload_n 0, 1) := by decide +kernel
theorem d_Q_receive_45 : decode prog_6_method_16_code 45 = .ok (.getfield 22, 3) := by decide +kernel
theorem d_Q_receive_48 : decode prog_6_method_16_code 48 = .ok (.iload_n 2, 1) := by decide +kernel
theorem d_Q_receive_49 : decode prog_6_method_16_code 49 = .ok (.iaload, 1) := by decide +kernel
theorem d_Q_receive_50 : decode prog_6_method_16_code 50 = .ok (.iconst 2, 1) := by decide +kernel
theorem d_Q_receive_51 : decode prog_6_method_16_code 51 = .ok (.if_icmp .ne 7, 3) := by decide +kernel
theorem d_Q_receive_54 : decode prog_6_method_16_code 54 = .ok (.iconst 1, 1) := by decide +kernel
theorem d_Q_receive_55 : decode prog_6_method_16_code 55 = .ok (.goto 4, 3) := by decide +kernel
theorem d_Q_receive_58 : decode prog_6_method_16_code 58 = .ok (.iconst 0, 1) := by decide +kernel
theorem d_Q_receive_59 : decode prog_6_method_16_code 59 = .ok (.if_icmp .eq 5, 3) := by decide +kernel
theorem d_Q_receive_62 : decode prog_6_method_16_code 62 = .ok (.iconst 0, 1) := by decide +kernel
theorem d_Q_receive_63 : decode prog_6_method_16_code 63 = .ok (.ireturn, 1) := by decide +kernel
theorem d_Q_receive_64 : decode prog_6_method_16_code 64 = .ok (.aload_n 0, 1) := by decide +kernel
theorem d_Q_receive_65 : decode prog_6_method_16_code 65 = .ok (.getfield 86, 3) := by decide +kernel
theorem d_Q_receive_68 : decode prog_6_method_16_code 68 = .ok (.iconst 5, 1) := by decide +kernel
theorem d_Q_receive_69 : decode prog_6_method_16_code 69 = .ok (.iload_n 1, 1) := by decide +kernel
theorem d_Q_receive_70 : decode prog_6_method_16_code 70 = .ok (.imul, 1) := by decide +kernel
theorem d_Q_receive_71 : decode prog_6_method_16_code 71 = .ok (.iload_n 3, 1) := by decide +kernel
theorem d_Q_receive_72 : decode prog_6_method_16_code 72 = .ok (.iadd, 1) := by decide +kernel
theorem d_Q_receive_73 : decode prog_6_method_16_code 73 = .ok (.iaload, 1) := by decide +kernel
theorem d_Q_receive_74 : decode prog_6_method_16_code 74 = .ok (.aload_n 0, 1) := by decide +kernel
theorem d_Q_receive_75 : decode prog_6_method_16_code 75 = .ok (.getfield 34, 3) := by decide +kernel
theorem d_Q_receive_78 : decode prog_6_method_16_code 78 = .ok (.iconst 5, 1) := by decide +kernel
theorem d_Q_receive_79 : decode prog_6_method_16_code 79 = .ok (.iload_n 2, 1) := by decide +kernel
theorem d_Q_receive_80 : decode prog_6_method_16_code 80 = .ok (.imul, 1) := by decide +kernel
theorem d_Q_receive_81 : decode prog_6_method_16_code 81 = .ok (.iload_n 3, 1) := by decide +kernel
theorem d_Q_receive_82 : decode prog_6_method_16_code 82 = .ok (.iadd, 1) := by decide +kernel
theorem d_Q_receive_83 : decode prog_6_method_16_code 83 = .ok (.iaload, 1) := by decide +kernel
theorem d_Q_receive_84 : decode prog_6_method_16_code 84 = .ok (.if_icmp .lt 31, 3) := by decide +kernel
theorem d_Q_receive_87 : decode prog_6_method_16_code 87 = .ok (.iload 4, 2) := by decide +kernel
theorem d_Q_receive_89 : decode prog_6_method_16_code 89 = .ok (.ifCond .eq 28, 3) := by decide +kernel
theorem d_Q_receive_92 : decode prog_6_method_16_code 92 = .ok (.aload_n 0, 1) := by decide +kernel
theorem d_Q_receive_93 : decode prog_6_method_16_code 93 = .ok (.getfield 86, 3) := by decide +kernel
theorem d_Q_receive_96 : decode prog_6_method_16_code 96 = .ok (.iconst 5, 1) := by decide +kernel
theorem d_Q_receive_97 : decode prog_6_method_16_code 97 = .ok (.iload_n 1, 1) := by decide +kernel
theorem d_Q_receive_98 : decode prog_6_method_16_code 98 = .ok (.imul, 1) := by decide +kernel
theorem d_Q_receive_99 : decode prog_6_method_16_code 99 = .ok (.iload_n 2, 1) := by decide +kernel
theorem d_Q_receive_100 : decode prog_6_method_16_code 100 = .ok (.iadd, 1) := by decide +kernel
theorem d_Q_receive_101 : decode prog_6_method_16_code 101 = .ok (.iaload, 1) := by decide +kernel
theorem d_Q_receive_102 : decode prog_6_method_16_code 102 = .ok (.aload_n 0, 1) := by decide +kernel
theorem d_Q_receive_103 : decode prog_6_method_16_code 103 = .ok (.getfield 34, 3) := by decide +kernel
theorem d_Q_receive_106 : decode prog_6_method_16_code 106 = .ok (.iconst 5, 1) := by decide +kernel
theorem d_Q_receive_107 : decode prog_6_method_16_code 107 = .ok (.iload_n 2, 1) := by decide +kernel
theorem d_Q_receive_108 : decode prog_6_method_16_code 108 = .ok (.imul, 1) := by decide +kernel
theorem d_Q_receive_109 : decode prog_6_method_16_code 109 = .ok (.iload_n 2, 1) := by decide +kernel
theorem d_Q_receive_110 : decode prog_6_method_16_code 110 = .ok (.iadd, 1) := by decide +kernel
theorem d_Q_receive_111 : decode prog_6_method_16_code 111 = .ok (.iaload, 1) := by decide +kernel
theorem d_Q_receive_112 : decode prog_6_method_16_code 112 = .ok (.if_icmp .eq 5, 3) := by decide +kernel
theorem d_Q_receive_115 : decode prog_6_method_16_code 115 = .ok (.iconst 1, 1) := by decide +kernel
theorem d_Q_receive_116 : decode prog_6_method_16_code 116 = .ok (.ireturn, 1) := by decide +kernel
theorem d_Q_receive_117 : decode prog_6_method_16_code 117 = .ok (.aload_n 0, 1) := by decide +kernel
theorem d_Q_receive_118 : decode prog_6_method_16_code 118 = .ok (.getfield 68, 3) := by decide +kernel
theorem d_Q_receive_121 : decode prog_6_method_16_code 121 = .ok (.bipush 64, 2) := by decide +kernel
theorem d_Q_receive_123 : decode prog_6_method_16_code 123 = .ok (.iload_n 3, 1) := by decide +kernel
theorem d_Q_receive_124 : decode prog_6_method_16_code 124 = .ok (.iastore, 1) := by decide +kernel
theorem d_Q_receive_125 : decode prog_6_method_16_code 125 = .ok (.aload_n 0, 1) := by decide +kernel
theorem d_Q_receive_126 : decode prog_6_method_16_code 126 = .ok (.getfield 74, 3) := by decide +kernel
theorem d_Q_receive_129 : decode prog_6_method_16_code 129 = .ok (.bipush 64, 2) := by decide +kernel
theorem d_Q_receive_131 : decode prog_6_method_16_code 131 = .ok (.aload_n 0, 1) := by decide +kernel
theorem d_Q_receive_132 : decode prog_6_method_16_code 132 = .ok (.getfield 74, 3) := by decide +kernel
theorem d_Q_receive_135 : decode prog_6_method_16_code 135 = .ok (.iload_n 1, 1) := by decide +kernel
theorem d_Q_receive_136 : decode prog_6_method_16_code 136 = .ok (.iaload, 1) := by decide +kernel
theorem d_Q_receive_137 : decode prog_6_method_16_code 137 = .ok (.iastore, 1) := by decide +kernel
theorem d_Q_receive_138 : decode prog_6_method_16_code 138 = .ok (.aload_n 0, 1) := by decide +kernel
theorem d_Q_receive_139 : decode prog_6_method_16_code 139 = .ok (.getfield 77, 3) := by decide +kernel
theorem d_Q_receive_142 : decode prog_6_method_16_code 142 = .ok (.bipush 64, 2) := by decide +kernel
theorem d_Q_receive_144 : decode prog_6_method_16_code 144 = .ok (.aload_n 0, 1) := by decide +kernel
theorem d_Q_receive_145 : decode prog_6_method_16_code 145 = .ok (.getfield 77, 3) := by decide +kernel
theorem d_Q_receive_148 : decode prog_6_method_16_code 148 = .ok (.iload_n 1, 1) := by decide +kernel
theorem d_Q_receive_149 : decode prog_6_method_16_code 149 = .ok (.iaload, 1) := by decide +kernel
theorem d_Q_receive_150 : decode prog_6_method_16_code 150 = .ok (.iastore, 1) := by decide +kernel
theorem d_Q_receive_151 : decode prog_6_method_16_code 151 = .ok (.aload_n 0, 1) := by decide +kernel
theorem d_Q_receive_152 : decode prog_6_method_16_code 152 = .ok (.getfield 80, 3) := by decide +kernel
theorem d_Q_receive_155 : decode prog_6_method_16_code 155 = .ok (.bipush 64, 2) := by decide +kernel
theorem d_Q_receive_157 : decode prog_6_method_16_code 157 = .ok (.aload_n 0, 1) := by decide +kernel
theorem d_Q_receive_158 : decode prog_6_method_16_code 158 = .ok (.getfield 80, 3) := by decide +kernel
theorem d_Q_receive_161 : decode prog_6_method_16_code 161 = .ok (.iload_n 1, 1) := by decide +kernel
theorem d_Q_receive_162 : decode prog_6_method_16_code 162 = .ok (.iaload, 1) := by decide +kernel
theorem d_Q_receive_163 : decode prog_6_method_16_code 163 = .ok (.iastore, 1) := by decide +kernel
theorem d_Q_receive_164 : decode prog_6_method_16_code 164 = .ok (.aload_n 0, 1) := by decide +kernel
theorem d_Q_receive_165 : decode prog_6_method_16_code 165 = .ok (.getfield 83, 3) := by decide +kernel
theorem d_Q_receive_168 : decode prog_6_method_16_code 168 = .ok (.bipush 64, 2) := by decide +kernel
theorem d_Q_receive_170 : decode prog_6_method_16_code 170 = .ok (.aload_n 0, 1) := by decide +kernel
theorem d_Q_receive_171 : decode prog_6_method_16_code 171 = .ok (.getfield 83, 3) := by decide +kernel
theorem d_Q_receive_174 : decode prog_6_method_16_code 174 = .ok (.iload_n 1, 1) := by decide +kernel
theorem d_Q_receive_175 : decode prog_6_method_16_code 175 = .ok (.iaload, 1) := by decide +kernel
theorem d_Q_receive_176 : decode prog_6_method_16_code 176 = .ok (.iastore, 1) := by decide +kernel
theorem d_Q_receive_177 : decode prog_6_method_16_code 177 = .ok (.iconst 0, 1) := by decide +kernel
theorem d_Q_receive_178 : decode prog_6_method_16_code 178 = .ok (.istore 5, 2) := by decide +kernel
theorem d_Q_receive_180 : decode prog_6_method_16_code 180 = .ok (.iload 5, 2) := by decide +kernel
theorem d_Q_receive_182 : decode prog_6_method_16_code 182 = .ok (.iconst 5, 1) := by decide +kernel
theorem d_Q_receive_183 : decode prog_6_method_16_code 183 = .ok (.if_icmp .ge 31, 3) := by decide +kernel
theorem d_Q_receive_186 : decode prog_6_method_16_code 186 = .ok (.aload_n 0, 1) := by decide +kernel
theorem d_Q_receive_187 : decode prog_6_method_16_code 187 = .ok (.getfield 86, 3) := by decide +kernel
theorem d_Q_receive_190 : decode prog_6_method_16_code 190 = .ok (.sipush 320, 3) := by decide +kernel
theorem d_Q_receive_193 : decode prog_6_method_16_code 193 = .ok (.iload 5, 2) := by decide +kernel
theorem d_Q_receive_195 : decode prog_6_method_16_code 195 = .ok (.iadd, 1) := by decide +kernel
theorem d_Q_receive_196 : decode prog_6_method_16_code 196 = .ok (.aload_n 0, 1) := by decide +kernel
theorem d_Q_receive_197 : decode prog_6_method_16_code 197 = .ok (.getfield 86, 3) := by decide +kernel
theorem d_Q_receive_200 : decode prog_6_method_16_code 200 = .ok (.iconst 5, 1) := by decide +kernel
theorem d_Q_receive_201 : decode prog_6_method_16_code 201 = .ok (.iload_n 1, 1) := by decide +kernel
theorem d_Q_receive_202 : decode prog_6_method_16_code 202 = .ok (.imul, 1) := by decide +kernel
theorem d_Q_receive_203 : decode prog_6_method_16_code 203 = .ok (.iload 5, 2) := by decide +kernel
theorem d_Q_receive_205 : decode prog_6_method_16_code 205 = .ok (.iadd, 1) := by decide +kernel
theorem d_Q_receive_206 : decode prog_6_method_16_code 206 = .ok (.iaload, 1) := by decide +kernel
theorem d_Q_receive_207 : decode prog_6_method_16_code 207 = .ok (.iastore, 1) := by decide +kernel
theorem d_Q_receive_208 : decode prog_6_method_16_code 208 = .ok (.iinc 5 1, 3) := by decide +kernel
theorem d_Q_receive_211 : decode prog_6_method_16_code 211 = .ok (.goto (-31), 3) := by decide +kernel
theorem d_Q_receive_214 : decode prog_6_method_16_code 214 = .ok (.aload_n 0, 1) := by decide +kernel
theorem d_Q_receive_215 : decode prog_6_method_16_code 215 = .ok (.iconst 5, 1) := by decide +kernel
theorem d_Q_receive_216 : decode prog_6_method_16_code 216 = .ok (.iload_n 1, 1) := by decide +kernel
theorem d_Q_receive_217 : decode prog_6_method_16_code 217 = .ok (.iadd, 1) := by decide +kernel
theorem d_Q_receive_218 : decode prog_6_method_16_code 218 = .ok (.bipush 69, 2) := by decide +kernel
theorem d_Q_receive_220 : decode prog_6_method_16_code 220 = .ok (.invokevirtual 116, 3) := by decide +kernel
theorem d_Q_receive_223 : decode prog_6_method_16_code 223 = .ok (.aload_n 0, 1) := by decide +kernel
theorem d_Q_receive_224 : decode prog_6_method_16_code 224 = .ok (.iload_n 2, 1) := by decide +kernel
theorem d_Q_receive_225 : decode prog_6_method_16_code 225 = .ok (.invokevirtual 135, 3) := by decide +kernel
theorem d_Q_receive_228 : decode prog_6_method_16_code 228 = .ok (.aload_n 0, 1) := by decide +kernel
theorem d_Q_receive_229 : decode prog_6_method_16_code 229 = .ok (.iload_n 2, 1) := by decide +kernel
theorem d_Q_receive_230 : decode prog_6_method_16_code 230 = .ok (.iload_n 3, 1) := by decide +kernel
theorem d_Q_receive_231 : decode prog_6_method_16_code 231 = .ok (.invokevirtual 138, 3) := by decide +kernel
theorem d_Q_receive_234 : decode prog_6_method_16_code 234 = .ok (.iconst 2, 1) := by decide +kernel
theorem d_Q_receive_235 : decode prog_6_method_16_code 235 = .ok (.ireturn, 1) := by decide +kernel
theorem b_Q_receive_0 {l : Launch} {D : va_G} {cid : Nat → ClassId} {X : CT} {Post : PT} (hX : OK l D cid m_Q_receive X Post) : SS l D cid m_Q_receive X 0 [o_aload 0, o_getf 4 22, o_iload 1, o_ald 0, o_istore 2, o_aload 0, o_getf 4 21, o_iload 1, o_ald 0, o_istore 3, o_aload 0, o_getf 4 23, o_iload 1, o_ald 0, o_push (.int 8)] (t_cmp (fun x y => ¬ x = y) (FR l D cid m_Q_receive X 29) (FR l D cid m_Q_receive X 25)) := by
  refine SS.cons (so_aload_n hX d_Q_receive_0 rfl) ?_
  refine SS.cons (so_getf (C := R_Q) (T := T_Q) hX d_Q_receive_1 in_Q rfl (by decide) k_507) ?_
  refine SS.cons (so_iload_n hX d_Q_receive_4 rfl) ?_
  refine SS.cons (so_iald hX d_Q_receive_5) ?_
  refine SS.cons (so_istore_n hX d_Q_receive_6 rfl (by decide)) ?_
  refine SS.cons (so_aload_n hX d_Q_receive_7 rfl) ?_
  refine SS.cons (so_getf (C := R_Q) (T := T_Q) hX d_Q_receive_8 in_Q rfl (by decide) k_506) ?_
  refine SS.cons (so_iload_n hX d_Q_receive_11 rfl) ?_
  refine SS.cons (so_iald hX d_Q_receive_12) ?_
  refine SS.cons (so_istore_n hX d_Q_receive_13 rfl (by decide)) ?_
  refine SS.cons (so_aload_n hX d_Q_receive_14 rfl) ?_
  refine SS.cons (so_getf (C := R_Q) (T := T_Q) hX d_Q_receive_15 in_Q rfl (by decide) k_508) ?_
  refine SS.cons (so_iload_n hX d_Q_receive_18 rfl) ?_
  refine SS.cons (so_iald hX d_Q_receive_19) ?_
  refine SS.cons (so_bipush hX d_Q_receive_20 (by decide)) ?_
  exact st_icmp_ne hX d_Q_receive_22 (by decide)
theorem b_Q_receive_25 {l : Launch} {D : va_G} {cid : Nat → ClassId} {X : CT} {Post : PT} (hX : OK l D cid m_Q_receive X Post) : SS l D cid m_Q_receive X 25 [o_push (.int 1)] (FR l D cid m_Q_receive X 30) := by
  refine SS.cons (so_iconst hX d_Q_receive_25 (by decide)) ?_
  exact so_goto hX d_Q_receive_26 (by decide)
theorem b_Q_receive_29 {l : Launch} {D : va_G} {cid : Nat → ClassId} {X : CT} {Post : PT} (hX : OK l D cid m_Q_receive X Post) : SS l D cid m_Q_receive X 29 [o_push (.int 0)] (FR l D cid m_Q_receive X 30) := by
  refine SS.cons (so_iconst hX d_Q_receive_29 (by decide)) ?_
  exact SS.fall
theorem b_Q_receive_30 {l : Launch} {D : va_G} {cid : Nat → ClassId} {X : CT} {Post : PT} (hX : OK l D cid m_Q_receive X Post) : SS l D cid m_Q_receive X 30 [o_istore 4, o_aload 0, o_getf 4 6, o_iload 2, o_ald 0, o_push (.int 3)] (t_cmp (fun x y => x = y) (FR l D cid m_Q_receive X 62) (FR l D cid m_Q_receive X 42)) := by
  refine SS.cons (so_istore hX d_Q_receive_30 (by decide)) ?_
  refine SS.cons (so_aload_n hX d_Q_receive_32 rfl) ?_
  refine SS.cons (so_getf (C := R_Q) (T := T_Q) hX d_Q_receive_33 in_Q rfl (by decide) k_491) ?_
  refine SS.cons (so_iload_n hX d_Q_receive_36 rfl) ?_
  refine SS.cons (so_iald hX d_Q_receive_37) ?_
  refine SS.cons (so_iconst hX d_Q_receive_38 (by decide)) ?_
  exact st_icmp_eq hX d_Q_receive_39 (by decide)
theorem b_Q_receive_42 {l : Launch} {D : va_G} {cid : Nat → ClassId} {X : CT} {Post : PT} (hX : OK l D cid m_Q_receive X Post) : SS l D cid m_Q_receive X 42 [o_iload 4, o_aload 0, o_getf 4 6, o_iload 2, o_ald 0, o_push (.int 2)] (t_cmp (fun x y => ¬ x = y) (FR l D cid m_Q_receive X 58) (FR l D cid m_Q_receive X 54)) := by
  refine SS.cons (so_iload hX d_Q_receive_42) ?_
  refine SS.cons (so_aload_n hX d_Q_receive_44 rfl) ?_
  refine SS.cons (so_getf (C := R_Q) (T := T_Q) hX d_Q_receive_45 in_Q rfl (by decide) k_491) ?_
  refine SS.cons (so_iload_n hX d_Q_receive_48 rfl) ?_
  refine SS.cons (so_iald hX d_Q_receive_49) ?_
  refine SS.cons (so_iconst hX d_Q_receive_50 (by decide)) ?_
  exact st_icmp_ne hX d_Q_receive_51 (by decide)
theorem b_Q_receive_54 {l : Launch} {D : va_G} {cid : Nat → ClassId} {X : CT} {Post : PT} (hX : OK l D cid m_Q_receive X Post) : SS l D cid m_Q_receive X 54 [o_push (.int 1)] (FR l D cid m_Q_receive X 59) := by
  refine SS.cons (so_iconst hX d_Q_receive_54 (by decide)) ?_
  exact so_goto hX d_Q_receive_55 (by decide)
theorem b_Q_receive_58 {l : Launch} {D : va_G} {cid : Nat → ClassId} {X : CT} {Post : PT} (hX : OK l D cid m_Q_receive X Post) : SS l D cid m_Q_receive X 58 [o_push (.int 0)] (FR l D cid m_Q_receive X 59) := by
  refine SS.cons (so_iconst hX d_Q_receive_58 (by decide)) ?_
  exact SS.fall
theorem b_Q_receive_59 {l : Launch} {D : va_G} {cid : Nat → ClassId} {X : CT} {Post : PT} (hX : OK l D cid m_Q_receive X Post) : SS l D cid m_Q_receive X 59 [] (t_cmp (fun x y => x = y) (FR l D cid m_Q_receive X 64) (FR l D cid m_Q_receive X 62)) := by
  exact st_icmp_eq hX d_Q_receive_59 (by decide)
theorem b_Q_receive_62 {l : Launch} {D : va_G} {cid : Nat → ClassId} {X : CT} {Post : PT} (hX : OK l D cid m_Q_receive X Post) : SS l D cid m_Q_receive X 62 [o_push (.int 0)] (t_iret Post) := by
  refine SS.cons (so_iconst hX d_Q_receive_62 (by decide)) ?_
  exact st_iret hX d_Q_receive_63 rfl
theorem b_Q_receive_64 {l : Launch} {D : va_G} {cid : Nat → ClassId} {X : CT} {Post : PT} (hX : OK l D cid m_Q_receive X Post) : SS l D cid m_Q_receive X 64 [o_aload 0, o_getf 4 27, o_push (.int 5), o_iload 1, o_bin (fun x y => x * y), o_iload 3, o_bin (fun x y => x + y), o_ald 0, o_aload 0, o_getf 4 10, o_push (.int 5), o_iload 2, o_bin (fun x y => x * y), o_iload 3, o_bin (fun x y => x + y), o_ald 0] (t_cmp (fun x y => x < y) (FR l D cid m_Q_receive X 115) (FR l D cid m_Q_receive X 87)) := by
  refine SS.cons (so_aload_n hX d_Q_receive_64 rfl) ?_
  refine SS.cons (so_getf (C := R_Q) (T := T_Q) hX d_Q_receive_65 in_Q rfl (by decide) k_512) ?_
  refine SS.cons (so_iconst hX d_Q_receive_68 (by decide)) ?_
  refine SS.cons (so_iload_n hX d_Q_receive_69 rfl) ?_
  refine SS.cons (so_imul hX d_Q_receive_70) ?_
  refine SS.cons (so_iload_n hX d_Q_receive_71 rfl) ?_
  refine SS.cons (so_iadd hX d_Q_receive_72) ?_
  refine SS.cons (so_iald hX d_Q_receive_73) ?_
  refine SS.cons (so_aload_n hX d_Q_receive_74 rfl) ?_
  refine SS.cons (so_getf (C := R_Q) (T := T_Q) hX d_Q_receive_75 in_Q rfl (by decide) k_495) ?_
  refine SS.cons (so_iconst hX d_Q_receive_78 (by decide)) ?_
  refine SS.cons (so_iload_n hX d_Q_receive_79 rfl) ?_
  refine SS.cons (so_imul hX d_Q_receive_80) ?_
  refine SS.cons (so_iload_n hX d_Q_receive_81 rfl) ?_
  refine SS.cons (so_iadd hX d_Q_receive_82) ?_
  refine SS.cons (so_iald hX d_Q_receive_83) ?_
  exact st_icmp_lt hX d_Q_receive_84 (by decide)
theorem b_Q_receive_87 {l : Launch} {D : va_G} {cid : Nat → ClassId} {X : CT} {Post : PT} (hX : OK l D cid m_Q_receive X Post) : SS l D cid m_Q_receive X 87 [o_iload 4] (t_if (fun x => x = 0) (FR l D cid m_Q_receive X 117) (FR l D cid m_Q_receive X 92)) := by
  refine SS.cons (so_iload hX d_Q_receive_87) ?_
  exact st_if_eq hX d_Q_receive_89 (by decide)
theorem b_Q_receive_92 {l : Launch} {D : va_G} {cid : Nat → ClassId} {X : CT} {Post : PT} (hX : OK l D cid m_Q_receive X Post) : SS l D cid m_Q_receive X 92 [o_aload 0, o_getf 4 27, o_push (.int 5), o_iload 1, o_bin (fun x y => x * y), o_iload 2, o_bin (fun x y => x + y), o_ald 0, o_aload 0, o_getf 4 10, o_push (.int 5), o_iload 2, o_bin (fun x y => x * y), o_iload 2, o_bin (fun x y => x + y), o_ald 0] (t_cmp (fun x y => x = y) (FR l D cid m_Q_receive X 117) (FR l D cid m_Q_receive X 115)) := by
  refine SS.cons (so_aload_n hX d_Q_receive_92 rfl) ?_
  refine SS.cons (so_getf (C := R_Q) (T := T_Q) hX d_Q_receive_93 in_Q rfl (by decide) k_512) ?_
  refine SS.cons (so_iconst hX d_Q_receive_96 (by decide)) ?_
  refine SS.cons (so_iload_n hX d_Q_receive_97 rfl) ?_
  refine SS.cons (so_imul hX d_Q_receive_98) ?_
  refine SS.cons (so_iload_n hX d_Q_receive_99 rfl) ?_
  refine SS.cons (so_iadd hX d_Q_receive_100) ?_
  refine SS.cons (so_iald hX d_Q_receive_101) ?_
  refine SS.cons (so_aload_n hX d_Q_receive_102 rfl) ?_
  refine SS.cons (so_getf (C := R_Q) (T := T_Q) hX d_Q_receive_103 in_Q rfl (by decide) k_495) ?_
  refine SS.cons (so_iconst hX d_Q_receive_106 (by decide)) ?_
  refine SS.cons (so_iload_n hX d_Q_receive_107 rfl) ?_
  refine SS.cons (so_imul hX d_Q_receive_108) ?_
  refine SS.cons (so_iload_n hX d_Q_receive_109 rfl) ?_
  refine SS.cons (so_iadd hX d_Q_receive_110) ?_
  refine SS.cons (so_iald hX d_Q_receive_111) ?_
  exact st_icmp_eq hX d_Q_receive_112 (by decide)
theorem b_Q_receive_115 {l : Launch} {D : va_G} {cid : Nat → ClassId} {X : CT} {Post : PT} (hX : OK l D cid m_Q_receive X Post) : SS l D cid m_Q_receive X 115 [o_push (.int 1)] (t_iret Post) := by
  refine SS.cons (so_iconst hX d_Q_receive_115 (by decide)) ?_
  exact st_iret hX d_Q_receive_116 rfl
theorem b_Q_receive_117 {l : Launch} {D : va_G} {cid : Nat → ClassId} {X : CT} {Post : PT} (hX : OK l D cid m_Q_receive X Post) : SS l D cid m_Q_receive X 117 [o_aload 0, o_getf 4 21, o_push (.int 64), o_iload 3, o_ast, o_aload 0, o_getf 4 23, o_push (.int 64), o_aload 0, o_getf 4 23, o_iload 1, o_ald 0, o_ast, o_aload 0, o_getf 4 24, o_push (.int 64), o_aload 0, o_getf 4 24, o_iload 1, o_ald 0, o_ast, o_aload 0, o_getf 4 25, o_push (.int 64), o_aload 0, o_getf 4 25, o_iload 1, o_ald 0, o_ast, o_aload 0, o_getf 4 26, o_push (.int 64), o_aload 0, o_getf 4 26, o_iload 1, o_ald 0, o_ast, o_push (.int 0), o_istore 5] (FR l D cid m_Q_receive X 180) := by
  refine SS.cons (so_aload_n hX d_Q_receive_117 rfl) ?_
  refine SS.cons (so_getf (C := R_Q) (T := T_Q) hX d_Q_receive_118 in_Q rfl (by decide) k_506) ?_
  refine SS.cons (so_bipush hX d_Q_receive_121 (by decide)) ?_
  refine SS.cons (so_iload_n hX d_Q_receive_123 rfl) ?_
  refine SS.cons (so_iast hX d_Q_receive_124) ?_
  refine SS.cons (so_aload_n hX d_Q_receive_125 rfl) ?_
  refine SS.cons (so_getf (C := R_Q) (T := T_Q) hX d_Q_receive_126 in_Q rfl (by decide) k_508) ?_
  refine SS.cons (so_bipush hX d_Q_receive_129 (by decide)) ?_
  refine SS.cons (so_aload_n hX d_Q_receive_131 rfl) ?_
  refine SS.cons (so_getf (C := R_Q) (T := T_Q) hX d_Q_receive_132 in_Q rfl (by decide) k_508) ?_
  refine SS.cons (so_iload_n hX d_Q_receive_135 rfl) ?_
  refine SS.cons (so_iald hX d_Q_receive_136) ?_
  refine SS.cons (so_iast hX d_Q_receive_137) ?_
  refine SS.cons (so_aload_n hX d_Q_receive_138 rfl) ?_
  refine SS.cons (so_getf (C := R_Q) (T := T_Q) hX d_Q_receive_139 in_Q rfl (by decide) k_509) ?_
  refine SS.cons (so_bipush hX d_Q_receive_142 (by decide)) ?_
  refine SS.cons (so_aload_n hX d_Q_receive_144 rfl) ?_
  refine SS.cons (so_getf (C := R_Q) (T := T_Q) hX d_Q_receive_145 in_Q rfl (by decide) k_509) ?_
  refine SS.cons (so_iload_n hX d_Q_receive_148 rfl) ?_
  refine SS.cons (so_iald hX d_Q_receive_149) ?_
  refine SS.cons (so_iast hX d_Q_receive_150) ?_
  refine SS.cons (so_aload_n hX d_Q_receive_151 rfl) ?_
  refine SS.cons (so_getf (C := R_Q) (T := T_Q) hX d_Q_receive_152 in_Q rfl (by decide) k_510) ?_
  refine SS.cons (so_bipush hX d_Q_receive_155 (by decide)) ?_
  refine SS.cons (so_aload_n hX d_Q_receive_157 rfl) ?_
  refine SS.cons (so_getf (C := R_Q) (T := T_Q) hX d_Q_receive_158 in_Q rfl (by decide) k_510) ?_
  refine SS.cons (so_iload_n hX d_Q_receive_161 rfl) ?_
  refine SS.cons (so_iald hX d_Q_receive_162) ?_
  refine SS.cons (so_iast hX d_Q_receive_163) ?_
  refine SS.cons (so_aload_n hX d_Q_receive_164 rfl) ?_
  refine SS.cons (so_getf (C := R_Q) (T := T_Q) hX d_Q_receive_165 in_Q rfl (by decide) k_511) ?_
  refine SS.cons (so_bipush hX d_Q_receive_168 (by decide)) ?_
  refine SS.cons (so_aload_n hX d_Q_receive_170 rfl) ?_
  refine SS.cons (so_getf (C := R_Q) (T := T_Q) hX d_Q_receive_171 in_Q rfl (by decide) k_511) ?_
  refine SS.cons (so_iload_n hX d_Q_receive_174 rfl) ?_
  refine SS.cons (so_iald hX d_Q_receive_175) ?_
  refine SS.cons (so_iast hX d_Q_receive_176) ?_
  refine SS.cons (so_iconst hX d_Q_receive_177 (by decide)) ?_
  refine SS.cons (so_istore hX d_Q_receive_178 (by decide)) ?_
  exact SS.fall
theorem b_Q_receive_180 {l : Launch} {D : va_G} {cid : Nat → ClassId} {X : CT} {Post : PT} (hX : OK l D cid m_Q_receive X Post) : SS l D cid m_Q_receive X 180 [o_iload 5, o_push (.int 5)] (t_cmp (fun x y => y ≤ x) (FR l D cid m_Q_receive X 214) (FR l D cid m_Q_receive X 186)) := by
  refine SS.cons (so_iload hX d_Q_receive_180) ?_
  refine SS.cons (so_iconst hX d_Q_receive_182 (by decide)) ?_
  exact st_icmp_ge hX d_Q_receive_183 (by decide)
theorem b_Q_receive_186 {l : Launch} {D : va_G} {cid : Nat → ClassId} {X : CT} {Post : PT} (hX : OK l D cid m_Q_receive X Post) : SS l D cid m_Q_receive X 186 [o_aload 0, o_getf 4 27, o_push (.int 320), o_iload 5, o_bin (fun x y => x + y), o_aload 0, o_getf 4 27, o_push (.int 5), o_iload 1, o_bin (fun x y => x * y), o_iload 5, o_bin (fun x y => x + y), o_ald 0, o_ast, o_iinc 5 1] (FR l D cid m_Q_receive X 180) := by
  refine SS.cons (so_aload_n hX d_Q_receive_186 rfl) ?_
  refine SS.cons (so_getf (C := R_Q) (T := T_Q) hX d_Q_receive_187 in_Q rfl (by decide) k_512) ?_
  refine SS.cons (so_sipush hX d_Q_receive_190 (by decide)) ?_
  refine SS.cons (so_iload hX d_Q_receive_193) ?_
  refine SS.cons (so_iadd hX d_Q_receive_195) ?_
  refine SS.cons (so_aload_n hX d_Q_receive_196 rfl) ?_
  refine SS.cons (so_getf (C := R_Q) (T := T_Q) hX d_Q_receive_197 in_Q rfl (by decide) k_512) ?_
  refine SS.cons (so_iconst hX d_Q_receive_200 (by decide)) ?_
  refine SS.cons (so_iload_n hX d_Q_receive_201 rfl) ?_
  refine SS.cons (so_imul hX d_Q_receive_202) ?_
  refine SS.cons (so_iload hX d_Q_receive_203) ?_
  refine SS.cons (so_iadd hX d_Q_receive_205) ?_
  refine SS.cons (so_iald hX d_Q_receive_206) ?_
  refine SS.cons (so_iast hX d_Q_receive_207) ?_
  refine SS.cons (so_iinc hX d_Q_receive_208 (by decide) (by decide)) ?_
  exact so_goto hX d_Q_receive_211 (by decide)
theorem b_Q_receive_214 {l : Launch} {D : va_G} {cid : Nat → ClassId} {X : CT} {Post : PT} (hX : OK l D cid m_Q_receive X Post) : SS l D cid m_Q_receive X 214 [o_aload 0, o_push (.int 5), o_iload 1, o_bin (fun x y => x + y), o_push (.int 69), o_callV l D cid m_Q_copy 4 2, o_aload 0, o_iload 2, o_callV l D cid m_Q_learn 4 1, o_aload 0, o_iload 2, o_iload 3, o_callV l D cid m_Q_act 4 2, o_push (.int 2)] (t_iret Post) := by
  refine SS.cons (so_aload_n hX d_Q_receive_214 rfl) ?_
  refine SS.cons (so_iconst hX d_Q_receive_215 (by decide)) ?_
  refine SS.cons (so_iload_n hX d_Q_receive_216 rfl) ?_
  refine SS.cons (so_iadd hX d_Q_receive_217) ?_
  refine SS.cons (so_bipush hX d_Q_receive_218 (by decide)) ?_
  refine SS.cons (so_callV (M' := m_Q_copy) (T := T_Q) hX d_Q_receive_220 rfl k_598 k_595 k_597 k_24 k_48 pf_Q_copy (by decide) (by decide +kernel) ⟨by decide, by decide⟩) ?_
  refine SS.cons (so_aload_n hX d_Q_receive_223 rfl) ?_
  refine SS.cons (so_iload_n hX d_Q_receive_224 rfl) ?_
  refine SS.cons (so_callV (M' := m_Q_learn) (T := T_Q) hX d_Q_receive_225 rfl k_602 k_599 k_601 k_25 k_48 pf_Q_learn (by decide) (by decide +kernel) ⟨by decide, by decide⟩) ?_
  refine SS.cons (so_aload_n hX d_Q_receive_228 rfl) ?_
  refine SS.cons (so_iload_n hX d_Q_receive_229 rfl) ?_
  refine SS.cons (so_iload_n hX d_Q_receive_230 rfl) ?_
  refine SS.cons (so_callV (M' := m_Q_act) (T := T_Q) hX d_Q_receive_231 rfl k_606 k_603 k_605 k_26 k_48 pf_Q_act (by decide) (by decide +kernel) ⟨by decide, by decide⟩) ?_
  refine SS.cons (so_iconst hX d_Q_receive_234 (by decide)) ?_
  exact st_iret hX d_Q_receive_235 rfl
abbrev m_Q_deliver : MT := (⟨"GroupLogModel", "deliver", "(I)I"⟩, prog_6_method_14_code, 2, (some FieldType.int), { frames := 7, cells := 0, slots := 0, locals := 167 })
theorem pf_Q_deliver : plainFor m_Q_deliver.1 = true := by decide +kernel
theorem d_Q_deliver_0 : decode prog_6_method_14_code 0 = .ok (.aload_n 0, 1) := by decide +kernel
theorem d_Q_deliver_1 : decode prog_6_method_14_code 1 = .ok (.iload_n 1, 1) := by decide +kernel
theorem d_Q_deliver_2 : decode prog_6_method_14_code 2 = .ok (.invokevirtual 127, 3) := by decide +kernel
theorem d_Q_deliver_5 : decode prog_6_method_14_code 5 = .ok (.ifCond .eq 14, 3) := by decide +kernel
theorem d_Q_deliver_8 : decode prog_6_method_14_code 8 = .ok (.aload_n 0, 1) := by decide +kernel
theorem d_Q_deliver_9 : decode prog_6_method_14_code 9 = .ok (.iload_n 1, 1) := by decide +kernel
theorem d_Q_deliver_10 : decode prog_6_method_14_code 10 = .ok (.bipush 63, 2) := by decide +kernel
theorem d_Q_deliver_12 : decode prog_6_method_14_code 12 = .ok (.iand, 1) := by decide +kernel
theorem d_Q_deliver_13 : decode prog_6_method_14_code 13 = .ok (.invokevirtual 131, 3) := by decide +kernel
theorem d_Q_deliver_16 : decode prog_6_method_14_code 16 = .ok (.goto 4, 3) := by decide +kernel
theorem d_Q_deliver_19 : decode prog_6_method_14_code 19 = .ok (.iconst (-1), 1) := by decide +kernel
theorem d_Q_deliver_20 : decode prog_6_method_14_code 20 = .ok (.ireturn, 1) := by decide +kernel
theorem b_Q_deliver_0 {l : Launch} {D : va_G} {cid : Nat → ClassId} {X : CT} {Post : PT} (hX : OK l D cid m_Q_deliver X Post) : SS l D cid m_Q_deliver X 0 [o_aload 0, o_iload 1, o_callV l D cid m_Q_there 4 1] (t_if (fun x => x = 0) (FR l D cid m_Q_deliver X 19) (FR l D cid m_Q_deliver X 8)) := by
  refine SS.cons (so_aload_n hX d_Q_deliver_0 rfl) ?_
  refine SS.cons (so_iload_n hX d_Q_deliver_1 rfl) ?_
  refine SS.cons (so_callV (M' := m_Q_there) (T := T_Q) hX d_Q_deliver_2 rfl k_590 k_587 k_589 k_22 k_48 pf_Q_there (by decide) (by decide +kernel) ⟨by decide, by decide⟩) ?_
  exact st_if_eq hX d_Q_deliver_5 (by decide)
theorem b_Q_deliver_8 {l : Launch} {D : va_G} {cid : Nat → ClassId} {X : CT} {Post : PT} (hX : OK l D cid m_Q_deliver X Post) : SS l D cid m_Q_deliver X 8 [o_aload 0, o_iload 1, o_push (.int 63), o_bin (fun x y => x &&& y), o_callV l D cid m_Q_receive 4 1] (FR l D cid m_Q_deliver X 20) := by
  refine SS.cons (so_aload_n hX d_Q_deliver_8 rfl) ?_
  refine SS.cons (so_iload_n hX d_Q_deliver_9 rfl) ?_
  refine SS.cons (so_bipush hX d_Q_deliver_10 (by decide)) ?_
  refine SS.cons (so_iand hX d_Q_deliver_12) ?_
  refine SS.cons (so_callV (M' := m_Q_receive) (T := T_Q) hX d_Q_deliver_13 rfl k_594 k_591 k_593 k_23 k_48 pf_Q_receive (by decide) (by decide +kernel) ⟨by decide, by decide⟩) ?_
  exact so_goto hX d_Q_deliver_16 (by decide)
theorem b_Q_deliver_19 {l : Launch} {D : va_G} {cid : Nat → ClassId} {X : CT} {Post : PT} (hX : OK l D cid m_Q_deliver X Post) : SS l D cid m_Q_deliver X 19 [o_push (.int (-1))] (FR l D cid m_Q_deliver X 20) := by
  refine SS.cons (so_iconst hX d_Q_deliver_19 (by decide)) ?_
  exact SS.fall
theorem b_Q_deliver_20 {l : Launch} {D : va_G} {cid : Nat → ClassId} {X : CT} {Post : PT} (hX : OK l D cid m_Q_deliver X Post) : SS l D cid m_Q_deliver X 20 [] (t_iret Post) := by
  exact st_iret hX d_Q_deliver_20 rfl
abbrev m_Q_next : MT := (⟨"GroupLogModel", "next", "()I"⟩, prog_6_method_15_code, 2, (some FieldType.int), { frames := 7, cells := 0, slots := 0, locals := 167 })
theorem pf_Q_next : plainFor m_Q_next.1 = true := by decide +kernel
theorem d_Q_next_0 : decode prog_6_method_15_code 0 = .ok (.aload_n 0, 1) := by decide +kernel
theorem d_Q_next_1 : decode prog_6_method_15_code 1 = .ok (.getfield 89, 3) := by decide +kernel
theorem d_Q_next_4 : decode prog_6_method_15_code 4 = .ok (.iconst 1, 1) := by decide +kernel
theorem d_Q_next_5 : decode prog_6_method_15_code 5 = .ok (.iadd, 1) := by decide +kernel
theorem d_Q_next_6 : decode prog_6_method_15_code 6 = .ok (.aload_n 0, 1) := by decide +kernel
theorem d_Q_next_7 : decode prog_6_method_15_code 7 = .ok (.getfield 113, 3) := by decide +kernel
theorem d_Q_next_10 : decode prog_6_method_15_code 10 = .ok (.bipush 64, 2) := by decide +kernel
theorem d_Q_next_12 : decode prog_6_method_15_code 12 = .ok (.isub, 1) := by decide +kernel
theorem d_Q_next_13 : decode prog_6_method_15_code 13 = .ok (.if_icmp .ge 13, 3) := by decide +kernel
theorem d_Q_next_16 : decode prog_6_method_15_code 16 = .ok (.aload_n 0, 1) := by decide +kernel
theorem d_Q_next_17 : decode prog_6_method_15_code 17 = .ok (.getfield 113, 3) := by decide +kernel
theorem d_Q_next_20 : decode prog_6_method_15_code 20 = .ok (.bipush 64, 2) := by decide +kernel
theorem d_Q_next_22 : decode prog_6_method_15_code 22 = .ok (.isub, 1) := by decide +kernel
theorem d_Q_next_23 : decode prog_6_method_15_code 23 = .ok (.goto 9, 3) := by decide +kernel
theorem d_Q_next_26 : decode prog_6_method_15_code 26 = .ok (.aload_n 0, 1) := by decide +kernel
theorem d_Q_next_27 : decode prog_6_method_15_code 27 = .ok (.getfield 89, 3) := by decide +kernel
theorem d_Q_next_30 : decode prog_6_method_15_code 30 = .ok (.iconst 1, 1) := by decide +kernel
theorem d_Q_next_31 : decode prog_6_method_15_code 31 = .ok (.iadd, 1) := by decide +kernel
theorem d_Q_next_32 : decode prog_6_method_15_code 32 = .ok (.istore_n 1, 1) := by decide +kernel
theorem d_Q_next_33 : decode prog_6_method_15_code 33 = .ok (.iload_n 1, 1) := by decide +kernel
theorem d_Q_next_34 : decode prog_6_method_15_code 34 = .ok (.aload_n 0, 1) := by decide +kernel
theorem d_Q_next_35 : decode prog_6_method_15_code 35 = .ok (.getfield 113, 3) := by decide +kernel
theorem d_Q_next_38 : decode prog_6_method_15_code 38 = .ok (.if_icmp .lt 5, 3) := by decide +kernel
theorem d_Q_next_41 : decode prog_6_method_15_code 41 = .ok (.iconst (-1), 1) := by decide +kernel
theorem d_Q_next_42 : decode prog_6_method_15_code 42 = .ok (.ireturn, 1) := by decide +kernel
theorem d_Q_next_43 : decode prog_6_method_15_code 43 = .ok (.aload_n 0, 1) := by decide +kernel
theorem d_Q_next_44 : decode prog_6_method_15_code 44 = .ok (.iload_n 1, 1) := by decide +kernel
theorem d_Q_next_45 : decode prog_6_method_15_code 45 = .ok (.putfield 89, 3) := by decide +kernel
theorem d_Q_next_48 : decode prog_6_method_15_code 48 = .ok (.aload_n 0, 1) := by decide +kernel
theorem d_Q_next_49 : decode prog_6_method_15_code 49 = .ok (.iload_n 1, 1) := by decide +kernel
theorem d_Q_next_50 : decode prog_6_method_15_code 50 = .ok (.bipush 63, 2) := by decide +kernel
theorem d_Q_next_52 : decode prog_6_method_15_code 52 = .ok (.iand, 1) := by decide +kernel
theorem d_Q_next_53 : decode prog_6_method_15_code 53 = .ok (.invokevirtual 131, 3) := by decide +kernel
theorem d_Q_next_56 : decode prog_6_method_15_code 56 = .ok (.ireturn, 1) := by decide +kernel
theorem b_Q_next_0 {l : Launch} {D : va_G} {cid : Nat → ClassId} {X : CT} {Post : PT} (hX : OK l D cid m_Q_next X Post) : SS l D cid m_Q_next X 0 [o_aload 0, o_getf 4 29, o_push (.int 1), o_bin (fun x y => x + y), o_aload 0, o_getf 4 28, o_push (.int 64), o_bin (fun x y => x - y)] (t_cmp (fun x y => y ≤ x) (FR l D cid m_Q_next X 26) (FR l D cid m_Q_next X 16)) := by
  refine SS.cons (so_aload_n hX d_Q_next_0 rfl) ?_
  refine SS.cons (so_getf (C := R_Q) (T := T_Q) hX d_Q_next_1 in_Q rfl (by decide) k_514) ?_
  refine SS.cons (so_iconst hX d_Q_next_4 (by decide)) ?_
  refine SS.cons (so_iadd hX d_Q_next_5) ?_
  refine SS.cons (so_aload_n hX d_Q_next_6 rfl) ?_
  refine SS.cons (so_getf (C := R_Q) (T := T_Q) hX d_Q_next_7 in_Q rfl (by decide) k_513) ?_
  refine SS.cons (so_bipush hX d_Q_next_10 (by decide)) ?_
  refine SS.cons (so_isub hX d_Q_next_12) ?_
  exact st_icmp_ge hX d_Q_next_13 (by decide)
theorem b_Q_next_16 {l : Launch} {D : va_G} {cid : Nat → ClassId} {X : CT} {Post : PT} (hX : OK l D cid m_Q_next X Post) : SS l D cid m_Q_next X 16 [o_aload 0, o_getf 4 28, o_push (.int 64), o_bin (fun x y => x - y)] (FR l D cid m_Q_next X 32) := by
  refine SS.cons (so_aload_n hX d_Q_next_16 rfl) ?_
  refine SS.cons (so_getf (C := R_Q) (T := T_Q) hX d_Q_next_17 in_Q rfl (by decide) k_513) ?_
  refine SS.cons (so_bipush hX d_Q_next_20 (by decide)) ?_
  refine SS.cons (so_isub hX d_Q_next_22) ?_
  exact so_goto hX d_Q_next_23 (by decide)
theorem b_Q_next_26 {l : Launch} {D : va_G} {cid : Nat → ClassId} {X : CT} {Post : PT} (hX : OK l D cid m_Q_next X Post) : SS l D cid m_Q_next X 26 [o_aload 0, o_getf 4 29, o_push (.int 1), o_bin (fun x y => x + y)] (FR l D cid m_Q_next X 32) := by
  refine SS.cons (so_aload_n hX d_Q_next_26 rfl) ?_
  refine SS.cons (so_getf (C := R_Q) (T := T_Q) hX d_Q_next_27 in_Q rfl (by decide) k_514) ?_
  refine SS.cons (so_iconst hX d_Q_next_30 (by decide)) ?_
  refine SS.cons (so_iadd hX d_Q_next_31) ?_
  exact SS.fall
theorem b_Q_next_32 {l : Launch} {D : va_G} {cid : Nat → ClassId} {X : CT} {Post : PT} (hX : OK l D cid m_Q_next X Post) : SS l D cid m_Q_next X 32 [o_istore 1, o_iload 1, o_aload 0, o_getf 4 28] (t_cmp (fun x y => x < y) (FR l D cid m_Q_next X 43) (FR l D cid m_Q_next X 41)) := by
  refine SS.cons (so_istore_n hX d_Q_next_32 rfl (by decide)) ?_
  refine SS.cons (so_iload_n hX d_Q_next_33 rfl) ?_
  refine SS.cons (so_aload_n hX d_Q_next_34 rfl) ?_
  refine SS.cons (so_getf (C := R_Q) (T := T_Q) hX d_Q_next_35 in_Q rfl (by decide) k_513) ?_
  exact st_icmp_lt hX d_Q_next_38 (by decide)
theorem b_Q_next_41 {l : Launch} {D : va_G} {cid : Nat → ClassId} {X : CT} {Post : PT} (hX : OK l D cid m_Q_next X Post) : SS l D cid m_Q_next X 41 [o_push (.int (-1))] (t_iret Post) := by
  refine SS.cons (so_iconst hX d_Q_next_41 (by decide)) ?_
  exact st_iret hX d_Q_next_42 rfl
theorem b_Q_next_43 {l : Launch} {D : va_G} {cid : Nat → ClassId} {X : CT} {Post : PT} (hX : OK l D cid m_Q_next X Post) : SS l D cid m_Q_next X 43 [o_aload 0, o_iload 1, o_put okI 4 29, o_aload 0, o_iload 1, o_push (.int 63), o_bin (fun x y => x &&& y), o_callV l D cid m_Q_receive 4 1] (t_iret Post) := by
  refine SS.cons (so_aload_n hX d_Q_next_43 rfl) ?_
  refine SS.cons (so_iload_n hX d_Q_next_44 rfl) ?_
  refine SS.cons (so_put (C := R_Q) (T := T_Q) ok_I hX d_Q_next_45 in_Q ty_Q nm_Q rfl (by decide) k_514 rfl rfl) ?_
  refine SS.cons (so_aload_n hX d_Q_next_48 rfl) ?_
  refine SS.cons (so_iload_n hX d_Q_next_49 rfl) ?_
  refine SS.cons (so_bipush hX d_Q_next_50 (by decide)) ?_
  refine SS.cons (so_iand hX d_Q_next_52) ?_
  refine SS.cons (so_callV (M' := m_Q_receive) (T := T_Q) hX d_Q_next_53 rfl k_594 k_591 k_593 k_23 k_48 pf_Q_receive (by decide) (by decide +kernel) ⟨by decide, by decide⟩) ?_
  exact st_iret hX d_Q_next_56 rfl
abbrev m_Q_request : MT := (⟨"GroupLogModel", "request", "(IIII)I"⟩, prog_6_method_26_code, 7, (some FieldType.int), { frames := 3, cells := 0, slots := 0, locals := 71 })
theorem pf_Q_request : plainFor m_Q_request.1 = true := by decide +kernel
theorem d_Q_request_0 : decode prog_6_method_26_code 0 = .ok (.aload_n 0, 1) := by decide +kernel
theorem d_Q_request_1 : decode prog_6_method_26_code 1 = .ok (.iload_n 1, 1) := by decide +kernel
theorem d_Q_request_2 : decode prog_6_method_26_code 2 = .ok (.invokevirtual 175, 3) := by decide +kernel
theorem d_Q_request_5 : decode prog_6_method_26_code 5 = .ok (.ifCond .eq 17, 3) := by decide +kernel
theorem d_Q_request_8 : decode prog_6_method_26_code 8 = .ok (.iload_n 2, 1) := by decide +kernel
theorem d_Q_request_9 : decode prog_6_method_26_code 9 = .ok (.ifCond .lt 13, 3) := by decide +kernel
theorem d_Q_request_12 : decode prog_6_method_26_code 12 = .ok (.iload_n 2, 1) := by decide +kernel
theorem d_Q_request_13 : decode prog_6_method_26_code 13 = .ok (.iconst 3, 1) := by decide +kernel
theorem d_Q_request_14 : decode prog_6_method_26_code 14 = .ok (.if_icmp .gt 8, 3) := by decide +kernel
theorem d_Q_request_17 : decode prog_6_method_26_code 17 = .ok (.iload_n 3, 1) := by decide +kernel
theorem d_Q_request_18 : decode prog_6_method_26_code 18 = .ok (.iconst 1, 1) := by decide +kernel
theorem d_Q_request_19 : decode prog_6_method_26_code 19 = .ok (.if_icmp .ge 5, 3) := by decide +kernel
theorem d_Q_request_22 : decode prog_6_method_26_code 22 = .ok (.iconst (-1), 1) := by decide +kernel
theorem d_Q_request_23 : decode prog_6_method_26_code 23 = .ok (.ireturn, 1) := by decide +kernel
theorem d_Q_request_24 : decode prog_6_method_26_code 24 = .ok (.aload_n 0, 1) := by decide +kernel
theorem d_Q_request_25 : decode prog_6_method_26_code 25 = .ok (.iload_n 1, 1) := by decide +kernel
theorem d_Q_request_26 : decode prog_6_method_26_code 26 = .ok (.invokevirtual 163, 3) := by decide +kernel
theorem d_Q_request_29 : decode prog_6_method_26_code 29 = .ok (.ifCond .ne 6, 3) := by decide +kernel
theorem d_Q_request_32 : decode prog_6_method_26_code 32 = .ok (.bipush (-2), 2) := by decide +kernel
theorem d_Q_request_34 : decode prog_6_method_26_code 34 = .ok (.ireturn, 1) := by decide +kernel
theorem d_Q_request_35 : decode prog_6_method_26_code 35 = .ok (.iconst (-1), 1) := by decide +kernel
theorem d_Q_request_36 : decode prog_6_method_26_code 36 = .ok (.istore 5, 2) := by decide +kernel
theorem d_Q_request_38 : decode prog_6_method_26_code 38 = .ok (.iconst 0, 1) := by decide +kernel
theorem d_Q_request_39 : decode prog_6_method_26_code 39 = .ok (.istore 6, 2) := by decide +kernel
theorem d_Q_request_41 : decode prog_6_method_26_code 41 = .ok (.iload 6, 2) := by decide +kernel
theorem d_Q_request_43 : decode prog_6_method_26_code 43 = .ok (.aload_n 0, 1) := by decide +kernel
theorem d_Q_request_44 : decode prog_6_method_26_code 44 = .ok (.getfield 7, 3) := by decide +kernel
theorem d_Q_request_47 : decode prog_6_method_26_code 47 = .ok (.iload_n 1, 1) := by decide +kernel
theorem d_Q_request_48 : decode prog_6_method_26_code 48 = .ok (.iaload, 1) := by decide +kernel
theorem d_Q_request_49 : decode prog_6_method_26_code 49 = .ok (.if_icmp .ge 80, 3) := by decide +kernel
theorem d_Q_request_52 : decode prog_6_method_26_code 52 = .ok (.aload_n 0, 1) := by decide +kernel
theorem d_Q_request_53 : decode prog_6_method_26_code 53 = .ok (.getfield 13, 3) := by decide +kernel
theorem d_Q_request_56 : decode prog_6_method_26_code 56 = .ok (.bipush 24, 2) := by decide +kernel
theorem d_Q_request_58 : decode prog_6_method_26_code 58 = .ok (.iload_n 1, 1) := by decide +kernel
theorem d_Q_request_59 : decode prog_6_method_26_code 59 = .ok (.imul, 1) := by decide +kernel
theorem d_Q_request_60 : decode prog_6_method_26_code 60 = .ok (.iload 6, 2) := by decide +kernel
theorem d_Q_request_62 : decode prog_6_method_26_code 62 = .ok (.iadd, 1) := by decide +kernel
theorem d_Q_request_63 : decode prog_6_method_26_code 63 = .ok (.iaload, 1) := by decide +kernel
theorem d_Q_request_64 : decode prog_6_method_26_code 64 = .ok (.iload_n 2, 1) := by decide +kernel
theorem d_Q_request_65 : decode prog_6_method_26_code 65 = .ok (.if_icmp .ne 22, 3) := by decide +kernel
theorem d_Q_request_68 : decode prog_6_method_26_code 68 = .ok (.aload_n 0, 1) := by decide +kernel
theorem d_Q_request_69 : decode prog_6_method_26_code 69 = .ok (.getfield 16, 3) := by decide +kernel
theorem d_Q_request_72 : decode prog_6_method_26_code 72 = .ok (.bipush 24, 2) := by decide +kernel
theorem d_Q_request_74 : decode prog_6_method_26_code 74 = .ok (.iload_n 1, 1) := by decide +kernel
theorem d_Q_request_75 : decode prog_6_method_26_code 75 = .ok (.imul, 1) := by decide +kernel
theorem d_Q_request_76 : decode prog_6_method_26_code 76 = .ok (.iload 6, 2) := by decide +kernel
theorem d_Q_request_78 : decode prog_6_method_26_code 78 = .ok (.iadd, 1) := by decide +kernel
theorem d_Q_request_79 : decode prog_6_method_26_code 79 = .ok (.iaload, 1) := by decide +kernel
theorem d_Q_request_80 : decode prog_6_method_26_code 80 = .ok (.iload_n 3, 1) := by decide +kernel
theorem d_Q_request_81 : decode prog_6_method_26_code 81 = .ok (.if_icmp .le 6, 3) := by decide +kernel
theorem d_Q_request_84 : decode prog_6_method_26_code 84 = .ok (.bipush (-3), 2) := by decide +kernel
theorem d_Q_request_86 : decode prog_6_method_26_code 86 = .ok (.ireturn, 1) := by decide +kernel
theorem d_Q_request_87 : decode prog_6_method_26_code 87 = .ok (.aload_n 0, 1) := by decide +kernel
theorem d_Q_request_88 : decode prog_6_method_26_code 88 = .ok (.getfield 13, 3) := by decide +kernel
theorem d_Q_request_91 : decode prog_6_method_26_code 91 = .ok (.bipush 24, 2) := by decide +kernel
theorem d_Q_request_93 : decode prog_6_method_26_code 93 = .ok (.iload_n 1, 1) := by decide +kernel
theorem d_Q_request_94 : decode prog_6_method_26_code 94 = .ok (.imul, 1) := by decide +kernel
theorem d_Q_request_95 : decode prog_6_method_26_code 95 = .ok (.iload 6, 2) := by decide +kernel
theorem d_Q_request_97 : decode prog_6_method_26_code 97 = .ok (.iadd, 1) := by decide +kernel
theorem d_Q_request_98 : decode prog_6_method_26_code 98 = .ok (.iaload, 1) := by decide +kernel
theorem d_Q_request_99 : decode prog_6_method_26_code 99 = .ok (.iload_n 2, 1) := by decide +kernel
theorem d_Q_request_100 : decode prog_6_method_26_code 100 = .ok (.if_icmp .ne 23, 3) := by decide +kernel
theorem d_Q_request_103 : decode prog_6_method_26_code 103 = .ok (.aload_n 0, 1) := by decide +kernel
theorem d_Q_request_104 : decode prog_6_method_26_code 104 = .ok (.getfield 16, 3) := by decide +kernel
theorem d_Q_request_107 : decode prog_6_method_26_code 107 = .ok (.bipush 24, 2) := by decide +kernel
theorem d_Q_request_109 : decode prog_6_method_26_code 109 = .ok (.iload_n 1, 1) := by decide +kernel
theorem d_Q_request_110 : decode prog_6_method_26_code 110 = .ok (.imul, 1) := by decide +kernel
theorem d_Q_request_111 : decode prog_6_method_26_code 111 = .ok (.iload 6, 2) := by decide +kernel
theorem d_Q_request_113 : decode prog_6_method_26_code 113 = .ok (.iadd, 1) := by decide +kernel
theorem d_Q_request_114 : decode prog_6_method_26_code 114 = .ok (.iaload, 1) := by decide +kernel
theorem d_Q_request_115 : decode prog_6_method_26_code 115 = .ok (.iload_n 3, 1) := by decide +kernel
theorem d_Q_request_116 : decode prog_6_method_26_code 116 = .ok (.if_icmp .ne 7, 3) := by decide +kernel
theorem d_Q_request_119 : decode prog_6_method_26_code 119 = .ok (.iload 6, 2) := by decide +kernel
theorem d_Q_request_121 : decode prog_6_method_26_code 121 = .ok (.istore 5, 2) := by decide +kernel
theorem d_Q_request_123 : decode prog_6_method_26_code 123 = .ok (.iinc 6 1, 3) := by decide +kernel
theorem d_Q_request_126 : decode prog_6_method_26_code 126 = .ok (.goto (-85), 3) := by decide +kernel
theorem d_Q_request_129 : decode prog_6_method_26_code 129 = .ok (.iload 5, 2) := by decide +kernel
theorem d_Q_request_131 : decode prog_6_method_26_code 131 = .ok (.ifCond .lt 23, 3) := by decide +kernel
theorem d_Q_request_134 : decode prog_6_method_26_code 134 = .ok (.iload 5, 2) := by decide +kernel
theorem d_Q_request_136 : decode prog_6_method_26_code 136 = .ok (.aload_n 0, 1) := by decide +kernel
theorem d_Q_request_137 : decode prog_6_method_26_code 137 = .ok (.getfield 31, 3) := by decide +kernel
theorem d_Q_request_140 : decode prog_6_method_26_code 140 = .ok (.iload_n 1, 1) := by decide +kernel
theorem d_Q_request_141 : decode prog_6_method_26_code 141 = .ok (.iaload, 1) := by decide +kernel
theorem d_Q_request_142 : decode prog_6_method_26_code 142 = .ok (.if_icmp .ge 12, 3) := by decide +kernel
theorem d_Q_request_145 : decode prog_6_method_26_code 145 = .ok (.aload_n 0, 1) := by decide +kernel
theorem d_Q_request_146 : decode prog_6_method_26_code 146 = .ok (.iload_n 1, 1) := by decide +kernel
theorem d_Q_request_147 : decode prog_6_method_26_code 147 = .ok (.iload 5, 2) := by decide +kernel
theorem d_Q_request_149 : decode prog_6_method_26_code 149 = .ok (.invokevirtual 166, 3) := by decide +kernel
theorem d_Q_request_152 : decode prog_6_method_26_code 152 = .ok (.iconst 1, 1) := by decide +kernel
theorem d_Q_request_153 : decode prog_6_method_26_code 153 = .ok (.ireturn, 1) := by decide +kernel
theorem d_Q_request_154 : decode prog_6_method_26_code 154 = .ok (.iload 5, 2) := by decide +kernel
theorem d_Q_request_156 : decode prog_6_method_26_code 156 = .ok (.ifCond .lt 5, 3) := by decide +kernel
theorem d_Q_request_159 : decode prog_6_method_26_code 159 = .ok (.iconst 2, 1) := by decide +kernel
theorem d_Q_request_160 : decode prog_6_method_26_code 160 = .ok (.ireturn, 1) := by decide +kernel
theorem d_Q_request_161 : decode prog_6_method_26_code 161 = .ok (.aload_n 0, 1) := by decide +kernel
theorem d_Q_request_162 : decode prog_6_method_26_code 162 = .ok (.getfield 7, 3) := by decide +kernel
theorem d_Q_request_165 : decode prog_6_method_26_code 165 = .ok (.iload_n 1, 1) := by decide +kernel
theorem d_Q_request_166 : decode prog_6_method_26_code 166 = .ok (.iaload, 1) := by decide +kernel
theorem d_Q_request_167 : decode prog_6_method_26_code 167 = .ok (.bipush 24, 2) := by decide +kernel
theorem d_Q_request_169 : decode prog_6_method_26_code 169 = .ok (.if_icmp .ne 6, 3) := by decide +kernel
theorem d_Q_request_172 : decode prog_6_method_26_code 172 = .ok (.bipush (-4), 2) := by decide +kernel
theorem d_Q_request_174 : decode prog_6_method_26_code 174 = .ok (.ireturn, 1) := by decide +kernel
theorem d_Q_request_175 : decode prog_6_method_26_code 175 = .ok (.aload_n 0, 1) := by decide +kernel
theorem d_Q_request_176 : decode prog_6_method_26_code 176 = .ok (.iload_n 1, 1) := by decide +kernel
theorem d_Q_request_177 : decode prog_6_method_26_code 177 = .ok (.iload_n 2, 1) := by decide +kernel
theorem d_Q_request_178 : decode prog_6_method_26_code 178 = .ok (.iload_n 3, 1) := by decide +kernel
theorem d_Q_request_179 : decode prog_6_method_26_code 179 = .ok (.iload 4, 2) := by decide +kernel
theorem d_Q_request_181 : decode prog_6_method_26_code 181 = .ok (.invokevirtual 159, 3) := by decide +kernel
theorem d_Q_request_184 : decode prog_6_method_26_code 184 = .ok (.aload_n 0, 1) := by decide +kernel
theorem d_Q_request_185 : decode prog_6_method_26_code 185 = .ok (.iload_n 1, 1) := by decide +kernel
theorem d_Q_request_186 : decode prog_6_method_26_code 186 = .ok (.iconst 1, 1) := by decide +kernel
theorem d_Q_request_187 : decode prog_6_method_26_code 187 = .ok (.invokevirtual 124, 3) := by decide +kernel
theorem d_Q_request_190 : decode prog_6_method_26_code 190 = .ok (.iconst 0, 1) := by decide +kernel
theorem d_Q_request_191 : decode prog_6_method_26_code 191 = .ok (.ireturn, 1) := by decide +kernel
theorem b_Q_request_0 {l : Launch} {D : va_G} {cid : Nat → ClassId} {X : CT} {Post : PT} (hX : OK l D cid m_Q_request X Post) : SS l D cid m_Q_request X 0 [o_aload 0, o_iload 1, o_callV l D cid m_Q_isReplica 4 1] (t_if (fun x => x = 0) (FR l D cid m_Q_request X 22) (FR l D cid m_Q_request X 8)) := by
  refine SS.cons (so_aload_n hX d_Q_request_0 rfl) ?_
  refine SS.cons (so_iload_n hX d_Q_request_1 rfl) ?_
  refine SS.cons (so_callV (M' := m_Q_isReplica) (T := T_Q) hX d_Q_request_2 rfl k_678 k_675 k_677 k_42 k_48 pf_Q_isReplica (by decide) (by decide +kernel) ⟨by decide, by decide⟩) ?_
  exact st_if_eq hX d_Q_request_5 (by decide)
theorem b_Q_request_8 {l : Launch} {D : va_G} {cid : Nat → ClassId} {X : CT} {Post : PT} (hX : OK l D cid m_Q_request X Post) : SS l D cid m_Q_request X 8 [o_iload 2] (t_if (fun x => x < 0) (FR l D cid m_Q_request X 22) (FR l D cid m_Q_request X 12)) := by
  refine SS.cons (so_iload_n hX d_Q_request_8 rfl) ?_
  exact st_if_lt hX d_Q_request_9 (by decide)
theorem b_Q_request_12 {l : Launch} {D : va_G} {cid : Nat → ClassId} {X : CT} {Post : PT} (hX : OK l D cid m_Q_request X Post) : SS l D cid m_Q_request X 12 [o_iload 2, o_push (.int 3)] (t_cmp (fun x y => y < x) (FR l D cid m_Q_request X 22) (FR l D cid m_Q_request X 17)) := by
  refine SS.cons (so_iload_n hX d_Q_request_12 rfl) ?_
  refine SS.cons (so_iconst hX d_Q_request_13 (by decide)) ?_
  exact st_icmp_gt hX d_Q_request_14 (by decide)
theorem b_Q_request_17 {l : Launch} {D : va_G} {cid : Nat → ClassId} {X : CT} {Post : PT} (hX : OK l D cid m_Q_request X Post) : SS l D cid m_Q_request X 17 [o_iload 3, o_push (.int 1)] (t_cmp (fun x y => y ≤ x) (FR l D cid m_Q_request X 24) (FR l D cid m_Q_request X 22)) := by
  refine SS.cons (so_iload_n hX d_Q_request_17 rfl) ?_
  refine SS.cons (so_iconst hX d_Q_request_18 (by decide)) ?_
  exact st_icmp_ge hX d_Q_request_19 (by decide)
theorem b_Q_request_22 {l : Launch} {D : va_G} {cid : Nat → ClassId} {X : CT} {Post : PT} (hX : OK l D cid m_Q_request X Post) : SS l D cid m_Q_request X 22 [o_push (.int (-1))] (t_iret Post) := by
  refine SS.cons (so_iconst hX d_Q_request_22 (by decide)) ?_
  exact st_iret hX d_Q_request_23 rfl
theorem b_Q_request_24 {l : Launch} {D : va_G} {cid : Nat → ClassId} {X : CT} {Post : PT} (hX : OK l D cid m_Q_request X Post) : SS l D cid m_Q_request X 24 [o_aload 0, o_iload 1, o_callV l D cid m_Q_leads 4 1] (t_if (fun x => ¬ x = 0) (FR l D cid m_Q_request X 35) (FR l D cid m_Q_request X 32)) := by
  refine SS.cons (so_aload_n hX d_Q_request_24 rfl) ?_
  refine SS.cons (so_iload_n hX d_Q_request_25 rfl) ?_
  refine SS.cons (so_callV (M' := m_Q_leads) (T := T_Q) hX d_Q_request_26 rfl k_626 k_623 k_625 k_31 k_48 pf_Q_leads (by decide) (by decide +kernel) ⟨by decide, by decide⟩) ?_
  exact st_if_ne hX d_Q_request_29 (by decide)
theorem b_Q_request_32 {l : Launch} {D : va_G} {cid : Nat → ClassId} {X : CT} {Post : PT} (hX : OK l D cid m_Q_request X Post) : SS l D cid m_Q_request X 32 [o_push (.int (-2))] (t_iret Post) := by
  refine SS.cons (so_bipush hX d_Q_request_32 (by decide)) ?_
  exact st_iret hX d_Q_request_34 rfl
theorem b_Q_request_35 {l : Launch} {D : va_G} {cid : Nat → ClassId} {X : CT} {Post : PT} (hX : OK l D cid m_Q_request X Post) : SS l D cid m_Q_request X 35 [o_push (.int (-1)), o_istore 5, o_push (.int 0), o_istore 6] (FR l D cid m_Q_request X 41) := by
  refine SS.cons (so_iconst hX d_Q_request_35 (by decide)) ?_
  refine SS.cons (so_istore hX d_Q_request_36 (by decide)) ?_
  refine SS.cons (so_iconst hX d_Q_request_38 (by decide)) ?_
  refine SS.cons (so_istore hX d_Q_request_39 (by decide)) ?_
  exact SS.fall
theorem b_Q_request_41 {l : Launch} {D : va_G} {cid : Nat → ClassId} {X : CT} {Post : PT} (hX : OK l D cid m_Q_request X Post) : SS l D cid m_Q_request X 41 [o_iload 6, o_aload 0, o_getf 4 2, o_iload 1, o_ald 0] (t_cmp (fun x y => y ≤ x) (FR l D cid m_Q_request X 129) (FR l D cid m_Q_request X 52)) := by
  refine SS.cons (so_iload hX d_Q_request_41) ?_
  refine SS.cons (so_aload_n hX d_Q_request_43 rfl) ?_
  refine SS.cons (so_getf (C := R_Q) (T := T_Q) hX d_Q_request_44 in_Q rfl (by decide) k_487) ?_
  refine SS.cons (so_iload_n hX d_Q_request_47 rfl) ?_
  refine SS.cons (so_iald hX d_Q_request_48) ?_
  exact st_icmp_ge hX d_Q_request_49 (by decide)
theorem b_Q_request_52 {l : Launch} {D : va_G} {cid : Nat → ClassId} {X : CT} {Post : PT} (hX : OK l D cid m_Q_request X Post) : SS l D cid m_Q_request X 52 [o_aload 0, o_getf 4 3, o_push (.int 24), o_iload 1, o_bin (fun x y => x * y), o_iload 6, o_bin (fun x y => x + y), o_ald 0, o_iload 2] (t_cmp (fun x y => ¬ x = y) (FR l D cid m_Q_request X 87) (FR l D cid m_Q_request X 68)) := by
  refine SS.cons (so_aload_n hX d_Q_request_52 rfl) ?_
  refine SS.cons (so_getf (C := R_Q) (T := T_Q) hX d_Q_request_53 in_Q rfl (by decide) k_488) ?_
  refine SS.cons (so_bipush hX d_Q_request_56 (by decide)) ?_
  refine SS.cons (so_iload_n hX d_Q_request_58 rfl) ?_
  refine SS.cons (so_imul hX d_Q_request_59) ?_
  refine SS.cons (so_iload hX d_Q_request_60) ?_
  refine SS.cons (so_iadd hX d_Q_request_62) ?_
  refine SS.cons (so_iald hX d_Q_request_63) ?_
  refine SS.cons (so_iload_n hX d_Q_request_64 rfl) ?_
  exact st_icmp_ne hX d_Q_request_65 (by decide)
theorem b_Q_request_68 {l : Launch} {D : va_G} {cid : Nat → ClassId} {X : CT} {Post : PT} (hX : OK l D cid m_Q_request X Post) : SS l D cid m_Q_request X 68 [o_aload 0, o_getf 4 4, o_push (.int 24), o_iload 1, o_bin (fun x y => x * y), o_iload 6, o_bin (fun x y => x + y), o_ald 0, o_iload 3] (t_cmp (fun x y => x ≤ y) (FR l D cid m_Q_request X 87) (FR l D cid m_Q_request X 84)) := by
  refine SS.cons (so_aload_n hX d_Q_request_68 rfl) ?_
  refine SS.cons (so_getf (C := R_Q) (T := T_Q) hX d_Q_request_69 in_Q rfl (by decide) k_489) ?_
  refine SS.cons (so_bipush hX d_Q_request_72 (by decide)) ?_
  refine SS.cons (so_iload_n hX d_Q_request_74 rfl) ?_
  refine SS.cons (so_imul hX d_Q_request_75) ?_
  refine SS.cons (so_iload hX d_Q_request_76) ?_
  refine SS.cons (so_iadd hX d_Q_request_78) ?_
  refine SS.cons (so_iald hX d_Q_request_79) ?_
  refine SS.cons (so_iload_n hX d_Q_request_80 rfl) ?_
  exact st_icmp_le hX d_Q_request_81 (by decide)
theorem b_Q_request_84 {l : Launch} {D : va_G} {cid : Nat → ClassId} {X : CT} {Post : PT} (hX : OK l D cid m_Q_request X Post) : SS l D cid m_Q_request X 84 [o_push (.int (-3))] (t_iret Post) := by
  refine SS.cons (so_bipush hX d_Q_request_84 (by decide)) ?_
  exact st_iret hX d_Q_request_86 rfl
theorem b_Q_request_87 {l : Launch} {D : va_G} {cid : Nat → ClassId} {X : CT} {Post : PT} (hX : OK l D cid m_Q_request X Post) : SS l D cid m_Q_request X 87 [o_aload 0, o_getf 4 3, o_push (.int 24), o_iload 1, o_bin (fun x y => x * y), o_iload 6, o_bin (fun x y => x + y), o_ald 0, o_iload 2] (t_cmp (fun x y => ¬ x = y) (FR l D cid m_Q_request X 123) (FR l D cid m_Q_request X 103)) := by
  refine SS.cons (so_aload_n hX d_Q_request_87 rfl) ?_
  refine SS.cons (so_getf (C := R_Q) (T := T_Q) hX d_Q_request_88 in_Q rfl (by decide) k_488) ?_
  refine SS.cons (so_bipush hX d_Q_request_91 (by decide)) ?_
  refine SS.cons (so_iload_n hX d_Q_request_93 rfl) ?_
  refine SS.cons (so_imul hX d_Q_request_94) ?_
  refine SS.cons (so_iload hX d_Q_request_95) ?_
  refine SS.cons (so_iadd hX d_Q_request_97) ?_
  refine SS.cons (so_iald hX d_Q_request_98) ?_
  refine SS.cons (so_iload_n hX d_Q_request_99 rfl) ?_
  exact st_icmp_ne hX d_Q_request_100 (by decide)
theorem b_Q_request_103 {l : Launch} {D : va_G} {cid : Nat → ClassId} {X : CT} {Post : PT} (hX : OK l D cid m_Q_request X Post) : SS l D cid m_Q_request X 103 [o_aload 0, o_getf 4 4, o_push (.int 24), o_iload 1, o_bin (fun x y => x * y), o_iload 6, o_bin (fun x y => x + y), o_ald 0, o_iload 3] (t_cmp (fun x y => ¬ x = y) (FR l D cid m_Q_request X 123) (FR l D cid m_Q_request X 119)) := by
  refine SS.cons (so_aload_n hX d_Q_request_103 rfl) ?_
  refine SS.cons (so_getf (C := R_Q) (T := T_Q) hX d_Q_request_104 in_Q rfl (by decide) k_489) ?_
  refine SS.cons (so_bipush hX d_Q_request_107 (by decide)) ?_
  refine SS.cons (so_iload_n hX d_Q_request_109 rfl) ?_
  refine SS.cons (so_imul hX d_Q_request_110) ?_
  refine SS.cons (so_iload hX d_Q_request_111) ?_
  refine SS.cons (so_iadd hX d_Q_request_113) ?_
  refine SS.cons (so_iald hX d_Q_request_114) ?_
  refine SS.cons (so_iload_n hX d_Q_request_115 rfl) ?_
  exact st_icmp_ne hX d_Q_request_116 (by decide)
theorem b_Q_request_119 {l : Launch} {D : va_G} {cid : Nat → ClassId} {X : CT} {Post : PT} (hX : OK l D cid m_Q_request X Post) : SS l D cid m_Q_request X 119 [o_iload 6, o_istore 5] (FR l D cid m_Q_request X 123) := by
  refine SS.cons (so_iload hX d_Q_request_119) ?_
  refine SS.cons (so_istore hX d_Q_request_121 (by decide)) ?_
  exact SS.fall
theorem b_Q_request_123 {l : Launch} {D : va_G} {cid : Nat → ClassId} {X : CT} {Post : PT} (hX : OK l D cid m_Q_request X Post) : SS l D cid m_Q_request X 123 [o_iinc 6 1] (FR l D cid m_Q_request X 41) := by
  refine SS.cons (so_iinc hX d_Q_request_123 (by decide) (by decide)) ?_
  exact so_goto hX d_Q_request_126 (by decide)
theorem b_Q_request_129 {l : Launch} {D : va_G} {cid : Nat → ClassId} {X : CT} {Post : PT} (hX : OK l D cid m_Q_request X Post) : SS l D cid m_Q_request X 129 [o_iload 5] (t_if (fun x => x < 0) (FR l D cid m_Q_request X 154) (FR l D cid m_Q_request X 134)) := by
  refine SS.cons (so_iload hX d_Q_request_129) ?_
  exact st_if_lt hX d_Q_request_131 (by decide)
theorem b_Q_request_134 {l : Launch} {D : va_G} {cid : Nat → ClassId} {X : CT} {Post : PT} (hX : OK l D cid m_Q_request X Post) : SS l D cid m_Q_request X 134 [o_iload 5, o_aload 0, o_getf 4 9, o_iload 1, o_ald 0] (t_cmp (fun x y => y ≤ x) (FR l D cid m_Q_request X 154) (FR l D cid m_Q_request X 145)) := by
  refine SS.cons (so_iload hX d_Q_request_134) ?_
  refine SS.cons (so_aload_n hX d_Q_request_136 rfl) ?_
  refine SS.cons (so_getf (C := R_Q) (T := T_Q) hX d_Q_request_137 in_Q rfl (by decide) k_494) ?_
  refine SS.cons (so_iload_n hX d_Q_request_140 rfl) ?_
  refine SS.cons (so_iald hX d_Q_request_141) ?_
  exact st_icmp_ge hX d_Q_request_142 (by decide)
theorem b_Q_request_145 {l : Launch} {D : va_G} {cid : Nat → ClassId} {X : CT} {Post : PT} (hX : OK l D cid m_Q_request X Post) : SS l D cid m_Q_request X 145 [o_aload 0, o_iload 1, o_iload 5, o_callV l D cid m_Q_answerTo 4 2, o_push (.int 1)] (t_iret Post) := by
  refine SS.cons (so_aload_n hX d_Q_request_145 rfl) ?_
  refine SS.cons (so_iload_n hX d_Q_request_146 rfl) ?_
  refine SS.cons (so_iload hX d_Q_request_147) ?_
  refine SS.cons (so_callV (M' := m_Q_answerTo) (T := T_Q) hX d_Q_request_149 rfl k_630 k_627 k_629 k_32 k_48 pf_Q_answerTo (by decide) (by decide +kernel) ⟨by decide, by decide⟩) ?_
  refine SS.cons (so_iconst hX d_Q_request_152 (by decide)) ?_
  exact st_iret hX d_Q_request_153 rfl
theorem b_Q_request_154 {l : Launch} {D : va_G} {cid : Nat → ClassId} {X : CT} {Post : PT} (hX : OK l D cid m_Q_request X Post) : SS l D cid m_Q_request X 154 [o_iload 5] (t_if (fun x => x < 0) (FR l D cid m_Q_request X 161) (FR l D cid m_Q_request X 159)) := by
  refine SS.cons (so_iload hX d_Q_request_154) ?_
  exact st_if_lt hX d_Q_request_156 (by decide)
theorem b_Q_request_159 {l : Launch} {D : va_G} {cid : Nat → ClassId} {X : CT} {Post : PT} (hX : OK l D cid m_Q_request X Post) : SS l D cid m_Q_request X 159 [o_push (.int 2)] (t_iret Post) := by
  refine SS.cons (so_iconst hX d_Q_request_159 (by decide)) ?_
  exact st_iret hX d_Q_request_160 rfl
theorem b_Q_request_161 {l : Launch} {D : va_G} {cid : Nat → ClassId} {X : CT} {Post : PT} (hX : OK l D cid m_Q_request X Post) : SS l D cid m_Q_request X 161 [o_aload 0, o_getf 4 2, o_iload 1, o_ald 0, o_push (.int 24)] (t_cmp (fun x y => ¬ x = y) (FR l D cid m_Q_request X 175) (FR l D cid m_Q_request X 172)) := by
  refine SS.cons (so_aload_n hX d_Q_request_161 rfl) ?_
  refine SS.cons (so_getf (C := R_Q) (T := T_Q) hX d_Q_request_162 in_Q rfl (by decide) k_487) ?_
  refine SS.cons (so_iload_n hX d_Q_request_165 rfl) ?_
  refine SS.cons (so_iald hX d_Q_request_166) ?_
  refine SS.cons (so_bipush hX d_Q_request_167 (by decide)) ?_
  exact st_icmp_ne hX d_Q_request_169 (by decide)
theorem b_Q_request_172 {l : Launch} {D : va_G} {cid : Nat → ClassId} {X : CT} {Post : PT} (hX : OK l D cid m_Q_request X Post) : SS l D cid m_Q_request X 172 [o_push (.int (-4))] (t_iret Post) := by
  refine SS.cons (so_bipush hX d_Q_request_172 (by decide)) ?_
  exact st_iret hX d_Q_request_174 rfl
theorem b_Q_request_175 {l : Launch} {D : va_G} {cid : Nat → ClassId} {X : CT} {Post : PT} (hX : OK l D cid m_Q_request X Post) : SS l D cid m_Q_request X 175 [o_aload 0, o_iload 1, o_iload 2, o_iload 3, o_iload 4, o_callV l D cid m_Q_append 4 4, o_aload 0, o_iload 1, o_push (.int 1), o_callV l D cid m_Q_sendAll 4 2, o_push (.int 0)] (t_iret Post) := by
  refine SS.cons (so_aload_n hX d_Q_request_175 rfl) ?_
  refine SS.cons (so_iload_n hX d_Q_request_176 rfl) ?_
  refine SS.cons (so_iload_n hX d_Q_request_177 rfl) ?_
  refine SS.cons (so_iload_n hX d_Q_request_178 rfl) ?_
  refine SS.cons (so_iload hX d_Q_request_179) ?_
  refine SS.cons (so_callV (M' := m_Q_append) (T := T_Q) hX d_Q_request_181 rfl k_618 k_615 k_617 k_29 k_48 pf_Q_append (by decide) (by decide +kernel) ⟨by decide, by decide⟩) ?_
  refine SS.cons (so_aload_n hX d_Q_request_184 rfl) ?_
  refine SS.cons (so_iload_n hX d_Q_request_185 rfl) ?_
  refine SS.cons (so_iconst hX d_Q_request_186 (by decide)) ?_
  refine SS.cons (so_callV (M' := m_Q_sendAll) (T := T_Q) hX d_Q_request_187 rfl k_654 k_651 k_653 k_38 k_48 pf_Q_sendAll (by decide) (by decide +kernel) ⟨by decide, by decide⟩) ?_
  refine SS.cons (so_iconst hX d_Q_request_190 (by decide)) ?_
  exact st_iret hX d_Q_request_191 rfl
abbrev m_Q_remind : MT := (⟨"GroupLogModel", "remind", "(I)Z"⟩, prog_6_method_27_code, 2, (some FieldType.boolean), { frames := 3, cells := 0, slots := 0, locals := 71 })
theorem pf_Q_remind : plainFor m_Q_remind.1 = true := by decide +kernel
theorem d_Q_remind_0 : decode prog_6_method_27_code 0 = .ok (.aload_n 0, 1) := by decide +kernel
theorem d_Q_remind_1 : decode prog_6_method_27_code 1 = .ok (.iload_n 1, 1) := by decide +kernel
theorem d_Q_remind_2 : decode prog_6_method_27_code 2 = .ok (.invokevirtual 175, 3) := by decide +kernel
theorem d_Q_remind_5 : decode prog_6_method_27_code 5 = .ok (.ifCond .eq 11, 3) := by decide +kernel
theorem d_Q_remind_8 : decode prog_6_method_27_code 8 = .ok (.aload_n 0, 1) := by decide +kernel
theorem d_Q_remind_9 : decode prog_6_method_27_code 9 = .ok (.iload_n 1, 1) := by decide +kernel
theorem d_Q_remind_10 : decode prog_6_method_27_code 10 = .ok (.invokevirtual 163, 3) := by decide +kernel
theorem d_Q_remind_13 : decode prog_6_method_27_code 13 = .ok (.ifCond .ne 5, 3) := by decide +kernel
theorem d_Q_remind_16 : decode prog_6_method_27_code 16 = .ok (.iconst 0, 1) := by decide +kernel
theorem d_Q_remind_17 : decode prog_6_method_27_code 17 = .ok (.ireturn, 1) := by decide +kernel
theorem d_Q_remind_18 : decode prog_6_method_27_code 18 = .ok (.aload_n 0, 1) := by decide +kernel
theorem d_Q_remind_19 : decode prog_6_method_27_code 19 = .ok (.iload_n 1, 1) := by decide +kernel
theorem d_Q_remind_20 : decode prog_6_method_27_code 20 = .ok (.iconst 1, 1) := by decide +kernel
theorem d_Q_remind_21 : decode prog_6_method_27_code 21 = .ok (.invokevirtual 124, 3) := by decide +kernel
theorem d_Q_remind_24 : decode prog_6_method_27_code 24 = .ok (.iconst 1, 1) := by decide +kernel
theorem d_Q_remind_25 : decode prog_6_method_27_code 25 = .ok (.ireturn, 1) := by decide +kernel
theorem b_Q_remind_0 {l : Launch} {D : va_G} {cid : Nat → ClassId} {X : CT} {Post : PT} (hX : OK l D cid m_Q_remind X Post) : SS l D cid m_Q_remind X 0 [o_aload 0, o_iload 1, o_callV l D cid m_Q_isReplica 4 1] (t_if (fun x => x = 0) (FR l D cid m_Q_remind X 16) (FR l D cid m_Q_remind X 8)) := by
  refine SS.cons (so_aload_n hX d_Q_remind_0 rfl) ?_
  refine SS.cons (so_iload_n hX d_Q_remind_1 rfl) ?_
  refine SS.cons (so_callV (M' := m_Q_isReplica) (T := T_Q) hX d_Q_remind_2 rfl k_678 k_675 k_677 k_42 k_48 pf_Q_isReplica (by decide) (by decide +kernel) ⟨by decide, by decide⟩) ?_
  exact st_if_eq hX d_Q_remind_5 (by decide)
theorem b_Q_remind_8 {l : Launch} {D : va_G} {cid : Nat → ClassId} {X : CT} {Post : PT} (hX : OK l D cid m_Q_remind X Post) : SS l D cid m_Q_remind X 8 [o_aload 0, o_iload 1, o_callV l D cid m_Q_leads 4 1] (t_if (fun x => ¬ x = 0) (FR l D cid m_Q_remind X 18) (FR l D cid m_Q_remind X 16)) := by
  refine SS.cons (so_aload_n hX d_Q_remind_8 rfl) ?_
  refine SS.cons (so_iload_n hX d_Q_remind_9 rfl) ?_
  refine SS.cons (so_callV (M' := m_Q_leads) (T := T_Q) hX d_Q_remind_10 rfl k_626 k_623 k_625 k_31 k_48 pf_Q_leads (by decide) (by decide +kernel) ⟨by decide, by decide⟩) ?_
  exact st_if_ne hX d_Q_remind_13 (by decide)
theorem b_Q_remind_16 {l : Launch} {D : va_G} {cid : Nat → ClassId} {X : CT} {Post : PT} (hX : OK l D cid m_Q_remind X Post) : SS l D cid m_Q_remind X 16 [o_push (.int 0)] (t_zret Post) := by
  refine SS.cons (so_iconst hX d_Q_remind_16 (by decide)) ?_
  exact st_zret hX d_Q_remind_17 rfl
theorem b_Q_remind_18 {l : Launch} {D : va_G} {cid : Nat → ClassId} {X : CT} {Post : PT} (hX : OK l D cid m_Q_remind X Post) : SS l D cid m_Q_remind X 18 [o_aload 0, o_iload 1, o_push (.int 1), o_callV l D cid m_Q_sendAll 4 2, o_push (.int 1)] (t_zret Post) := by
  refine SS.cons (so_aload_n hX d_Q_remind_18 rfl) ?_
  refine SS.cons (so_iload_n hX d_Q_remind_19 rfl) ?_
  refine SS.cons (so_iconst hX d_Q_remind_20 (by decide)) ?_
  refine SS.cons (so_callV (M' := m_Q_sendAll) (T := T_Q) hX d_Q_remind_21 rfl k_654 k_651 k_653 k_38 k_48 pf_Q_sendAll (by decide) (by decide +kernel) ⟨by decide, by decide⟩) ?_
  refine SS.cons (so_iconst hX d_Q_remind_24 (by decide)) ?_
  exact st_zret hX d_Q_remind_25 rfl
abbrev m_Q_suspect : MT := (⟨"GroupLogModel", "suspect", "(I)Z"⟩, prog_6_method_28_code, 2, (some FieldType.boolean), { frames := 4, cells := 0, slots := 0, locals := 93 })
theorem pf_Q_suspect : plainFor m_Q_suspect.1 = true := by decide +kernel
theorem d_Q_suspect_0 : decode prog_6_method_28_code 0 = .ok (.aload_n 0, 1) := by decide +kernel
theorem d_Q_suspect_1 : decode prog_6_method_28_code 1 = .ok (.iload_n 1, 1) := by decide +kernel
theorem d_Q_suspect_2 : decode prog_6_method_28_code 2 = .ok (.invokevirtual 175, 3) := by decide +kernel
theorem d_Q_suspect_5 : decode prog_6_method_28_code 5 = .ok (.ifCond .eq 13, 3) := by decide +kernel
theorem d_Q_suspect_8 : decode prog_6_method_28_code 8 = .ok (.aload_n 0, 1) := by decide +kernel
theorem d_Q_suspect_9 : decode prog_6_method_28_code 9 = .ok (.getfield 22, 3) := by decide +kernel
theorem d_Q_suspect_12 : decode prog_6_method_28_code 12 = .ok (.iload_n 1, 1) := by decide +kernel
theorem d_Q_suspect_13 : decode prog_6_method_28_code 13 = .ok (.iaload, 1) := by decide +kernel
theorem d_Q_suspect_14 : decode prog_6_method_28_code 14 = .ok (.iconst 1, 1) := by decide +kernel
theorem d_Q_suspect_15 : decode prog_6_method_28_code 15 = .ok (.if_icmp .le 5, 3) := by decide +kernel
theorem d_Q_suspect_18 : decode prog_6_method_28_code 18 = .ok (.iconst 0, 1) := by decide +kernel
theorem d_Q_suspect_19 : decode prog_6_method_28_code 19 = .ok (.ireturn, 1) := by decide +kernel
theorem d_Q_suspect_20 : decode prog_6_method_28_code 20 = .ok (.aload_n 0, 1) := by decide +kernel
theorem d_Q_suspect_21 : decode prog_6_method_28_code 21 = .ok (.iload_n 1, 1) := by decide +kernel
theorem d_Q_suspect_22 : decode prog_6_method_28_code 22 = .ok (.aload_n 0, 1) := by decide +kernel
theorem d_Q_suspect_23 : decode prog_6_method_28_code 23 = .ok (.getfield 25, 3) := by decide +kernel
theorem d_Q_suspect_26 : decode prog_6_method_28_code 26 = .ok (.iload_n 1, 1) := by decide +kernel
theorem d_Q_suspect_27 : decode prog_6_method_28_code 27 = .ok (.iaload, 1) := by decide +kernel
theorem d_Q_suspect_28 : decode prog_6_method_28_code 28 = .ok (.iconst 1, 1) := by decide +kernel
theorem d_Q_suspect_29 : decode prog_6_method_28_code 29 = .ok (.iadd, 1) := by decide +kernel
theorem d_Q_suspect_30 : decode prog_6_method_28_code 30 = .ok (.invokevirtual 169, 3) := by decide +kernel
theorem d_Q_suspect_33 : decode prog_6_method_28_code 33 = .ok (.iconst 1, 1) := by decide +kernel
theorem d_Q_suspect_34 : decode prog_6_method_28_code 34 = .ok (.ireturn, 1) := by decide +kernel
theorem b_Q_suspect_0 {l : Launch} {D : va_G} {cid : Nat → ClassId} {X : CT} {Post : PT} (hX : OK l D cid m_Q_suspect X Post) : SS l D cid m_Q_suspect X 0 [o_aload 0, o_iload 1, o_callV l D cid m_Q_isReplica 4 1] (t_if (fun x => x = 0) (FR l D cid m_Q_suspect X 18) (FR l D cid m_Q_suspect X 8)) := by
  refine SS.cons (so_aload_n hX d_Q_suspect_0 rfl) ?_
  refine SS.cons (so_iload_n hX d_Q_suspect_1 rfl) ?_
  refine SS.cons (so_callV (M' := m_Q_isReplica) (T := T_Q) hX d_Q_suspect_2 rfl k_678 k_675 k_677 k_42 k_48 pf_Q_isReplica (by decide) (by decide +kernel) ⟨by decide, by decide⟩) ?_
  exact st_if_eq hX d_Q_suspect_5 (by decide)
theorem b_Q_suspect_8 {l : Launch} {D : va_G} {cid : Nat → ClassId} {X : CT} {Post : PT} (hX : OK l D cid m_Q_suspect X Post) : SS l D cid m_Q_suspect X 8 [o_aload 0, o_getf 4 6, o_iload 1, o_ald 0, o_push (.int 1)] (t_cmp (fun x y => x ≤ y) (FR l D cid m_Q_suspect X 20) (FR l D cid m_Q_suspect X 18)) := by
  refine SS.cons (so_aload_n hX d_Q_suspect_8 rfl) ?_
  refine SS.cons (so_getf (C := R_Q) (T := T_Q) hX d_Q_suspect_9 in_Q rfl (by decide) k_491) ?_
  refine SS.cons (so_iload_n hX d_Q_suspect_12 rfl) ?_
  refine SS.cons (so_iald hX d_Q_suspect_13) ?_
  refine SS.cons (so_iconst hX d_Q_suspect_14 (by decide)) ?_
  exact st_icmp_le hX d_Q_suspect_15 (by decide)
theorem b_Q_suspect_18 {l : Launch} {D : va_G} {cid : Nat → ClassId} {X : CT} {Post : PT} (hX : OK l D cid m_Q_suspect X Post) : SS l D cid m_Q_suspect X 18 [o_push (.int 0)] (t_zret Post) := by
  refine SS.cons (so_iconst hX d_Q_suspect_18 (by decide)) ?_
  exact st_zret hX d_Q_suspect_19 rfl
theorem b_Q_suspect_20 {l : Launch} {D : va_G} {cid : Nat → ClassId} {X : CT} {Post : PT} (hX : OK l D cid m_Q_suspect X Post) : SS l D cid m_Q_suspect X 20 [o_aload 0, o_iload 1, o_aload 0, o_getf 4 7, o_iload 1, o_ald 0, o_push (.int 1), o_bin (fun x y => x + y), o_callV l D cid m_Q_start 4 2, o_push (.int 1)] (t_zret Post) := by
  refine SS.cons (so_aload_n hX d_Q_suspect_20 rfl) ?_
  refine SS.cons (so_iload_n hX d_Q_suspect_21 rfl) ?_
  refine SS.cons (so_aload_n hX d_Q_suspect_22 rfl) ?_
  refine SS.cons (so_getf (C := R_Q) (T := T_Q) hX d_Q_suspect_23 in_Q rfl (by decide) k_492) ?_
  refine SS.cons (so_iload_n hX d_Q_suspect_26 rfl) ?_
  refine SS.cons (so_iald hX d_Q_suspect_27) ?_
  refine SS.cons (so_iconst hX d_Q_suspect_28 (by decide)) ?_
  refine SS.cons (so_iadd hX d_Q_suspect_29) ?_
  refine SS.cons (so_callV (M' := m_Q_start) (T := T_Q) hX d_Q_suspect_30 rfl k_650 k_647 k_649 k_37 k_48 pf_Q_start (by decide) (by decide +kernel) ⟨by decide, by decide⟩) ?_
  refine SS.cons (so_iconst hX d_Q_suspect_33 (by decide)) ?_
  exact st_zret hX d_Q_suspect_34 rfl
abbrev m_Q_crash : MT := (⟨"GroupLogModel", "crash", "(I)Z"⟩, prog_6_method_29_code, 4, (some FieldType.boolean), { frames := 2, cells := 0, slots := 0, locals := 44 })
theorem pf_Q_crash : plainFor m_Q_crash.1 = true := by decide +kernel
theorem d_Q_crash_0 : decode prog_6_method_29_code 0 = .ok (.aload_n 0, 1) := by decide +kernel
theorem d_Q_crash_1 : decode prog_6_method_29_code 1 = .ok (.iload_n 1, 1) := by decide +kernel
theorem d_Q_crash_2 : decode prog_6_method_29_code 2 = .ok (.invokevirtual 175, 3) := by decide +kernel
theorem d_Q_crash_5 : decode prog_6_method_29_code 5 = .ok (.ifCond .eq 13, 3) := by decide +kernel
theorem d_Q_crash_8 : decode prog_6_method_29_code 8 = .ok (.aload_n 0, 1) := by decide +kernel
theorem d_Q_crash_9 : decode prog_6_method_29_code 9 = .ok (.getfield 22, 3) := by decide +kernel
theorem d_Q_crash_12 : decode prog_6_method_29_code 12 = .ok (.iload_n 1, 1) := by decide +kernel
theorem d_Q_crash_13 : decode prog_6_method_29_code 13 = .ok (.iaload, 1) := by decide +kernel
theorem d_Q_crash_14 : decode prog_6_method_29_code 14 = .ok (.iconst 3, 1) := by decide +kernel
theorem d_Q_crash_15 : decode prog_6_method_29_code 15 = .ok (.if_icmp .ne 5, 3) := by decide +kernel
theorem d_Q_crash_18 : decode prog_6_method_29_code 18 = .ok (.iconst 0, 1) := by decide +kernel
theorem d_Q_crash_19 : decode prog_6_method_29_code 19 = .ok (.ireturn, 1) := by decide +kernel
theorem d_Q_crash_20 : decode prog_6_method_29_code 20 = .ok (.iconst 0, 1) := by decide +kernel
theorem d_Q_crash_21 : decode prog_6_method_29_code 21 = .ok (.istore_n 2, 1) := by decide +kernel
theorem d_Q_crash_22 : decode prog_6_method_29_code 22 = .ok (.iconst 0, 1) := by decide +kernel
theorem d_Q_crash_23 : decode prog_6_method_29_code 23 = .ok (.istore_n 3, 1) := by decide +kernel
theorem d_Q_crash_24 : decode prog_6_method_29_code 24 = .ok (.iload_n 3, 1) := by decide +kernel
theorem d_Q_crash_25 : decode prog_6_method_29_code 25 = .ok (.aload_n 0, 1) := by decide +kernel
theorem d_Q_crash_26 : decode prog_6_method_29_code 26 = .ok (.getfield 99, 3) := by decide +kernel
theorem d_Q_crash_29 : decode prog_6_method_29_code 29 = .ok (.if_icmp .ge 32, 3) := by decide +kernel
theorem d_Q_crash_32 : decode prog_6_method_29_code 32 = .ok (.iload_n 3, 1) := by decide +kernel
theorem d_Q_crash_33 : decode prog_6_method_29_code 33 = .ok (.iload_n 1, 1) := by decide +kernel
theorem d_Q_crash_34 : decode prog_6_method_29_code 34 = .ok (.if_icmp .eq 19, 3) := by decide +kernel
theorem d_Q_crash_37 : decode prog_6_method_29_code 37 = .ok (.aload_n 0, 1) := by decide +kernel
theorem d_Q_crash_38 : decode prog_6_method_29_code 38 = .ok (.getfield 22, 3) := by decide +kernel
theorem d_Q_crash_41 : decode prog_6_method_29_code 41 = .ok (.iload_n 3, 1) := by decide +kernel
theorem d_Q_crash_42 : decode prog_6_method_29_code 42 = .ok (.iaload, 1) := by decide +kernel
theorem d_Q_crash_43 : decode prog_6_method_29_code 43 = .ok (.iconst 2, 1) := by decide +kernel
theorem d_Q_crash_44 : decode prog_6_method_29_code 44 = .ok (.if_icmp .lt 9, 3) := by decide +kernel
theorem d_Q_crash_47 : decode prog_6_method_29_code 47 = .ok (.iload_n 2, 1) := by decide +kernel
theorem d_Q_crash_48 : decode prog_6_method_29_code 48 = .ok (.iconst 1, 1) := by decide +kernel
theorem d_Q_crash_49 : decode prog_6_method_29_code 49 = .ok (.iadd, 1) := by decide +kernel
theorem d_Q_crash_50 : decode prog_6_method_29_code 50 = .ok (.goto 4, 3) := by decide +kernel
theorem d_Q_crash_53 : decode prog_6_method_29_code 53 = .ok (.iload_n 2, 1) := by decide +kernel
theorem d_Q_crash_54 : decode prog_6_method_29_code 54 = .ok (.istore_n 2, 1) := by decide +kernel
theorem d_Q_crash_55 : decode prog_6_method_29_code 55 = .ok (.iinc 3 1, 3) := by decide +kernel
theorem d_Q_crash_58 : decode prog_6_method_29_code 58 = .ok (.goto (-34), 3) := by decide +kernel
theorem d_Q_crash_61 : decode prog_6_method_29_code 61 = .ok (.iload_n 2, 1) := by decide +kernel
theorem d_Q_crash_62 : decode prog_6_method_29_code 62 = .ok (.aload_n 0, 1) := by decide +kernel
theorem d_Q_crash_63 : decode prog_6_method_29_code 63 = .ok (.getfield 102, 3) := by decide +kernel
theorem d_Q_crash_66 : decode prog_6_method_29_code 66 = .ok (.if_icmp .lt 5, 3) := by decide +kernel
theorem d_Q_crash_69 : decode prog_6_method_29_code 69 = .ok (.iconst 0, 1) := by decide +kernel
theorem d_Q_crash_70 : decode prog_6_method_29_code 70 = .ok (.ireturn, 1) := by decide +kernel
theorem d_Q_crash_71 : decode prog_6_method_29_code 71 = .ok (.aload_n 0, 1) := by decide +kernel
theorem d_Q_crash_72 : decode prog_6_method_29_code 72 = .ok (.iload_n 1, 1) := by decide +kernel
theorem d_Q_crash_73 : decode prog_6_method_29_code 73 = .ok (.invokevirtual 178, 3) := by decide +kernel
theorem d_Q_crash_76 : decode prog_6_method_29_code 76 = .ok (.aload_n 0, 1) := by decide +kernel
theorem d_Q_crash_77 : decode prog_6_method_29_code 77 = .ok (.getfield 22, 3) := by decide +kernel
theorem d_Q_crash_80 : decode prog_6_method_29_code 80 = .ok (.iload_n 1, 1) := by decide +kernel
theorem d_Q_crash_81 : decode prog_6_method_29_code 81 = .ok (.iconst 3, 1) := by decide +kernel
theorem d_Q_crash_82 : decode prog_6_method_29_code 82 = .ok (.iastore, 1) := by decide +kernel
theorem d_Q_crash_83 : decode prog_6_method_29_code 83 = .ok (.iconst 1, 1) := by decide +kernel
theorem d_Q_crash_84 : decode prog_6_method_29_code 84 = .ok (.ireturn, 1) := by decide +kernel
theorem b_Q_crash_0 {l : Launch} {D : va_G} {cid : Nat → ClassId} {X : CT} {Post : PT} (hX : OK l D cid m_Q_crash X Post) : SS l D cid m_Q_crash X 0 [o_aload 0, o_iload 1, o_callV l D cid m_Q_isReplica 4 1] (t_if (fun x => x = 0) (FR l D cid m_Q_crash X 18) (FR l D cid m_Q_crash X 8)) := by
  refine SS.cons (so_aload_n hX d_Q_crash_0 rfl) ?_
  refine SS.cons (so_iload_n hX d_Q_crash_1 rfl) ?_
  refine SS.cons (so_callV (M' := m_Q_isReplica) (T := T_Q) hX d_Q_crash_2 rfl k_678 k_675 k_677 k_42 k_48 pf_Q_isReplica (by decide) (by decide +kernel) ⟨by decide, by decide⟩) ?_
  exact st_if_eq hX d_Q_crash_5 (by decide)
theorem b_Q_crash_8 {l : Launch} {D : va_G} {cid : Nat → ClassId} {X : CT} {Post : PT} (hX : OK l D cid m_Q_crash X Post) : SS l D cid m_Q_crash X 8 [o_aload 0, o_getf 4 6, o_iload 1, o_ald 0, o_push (.int 3)] (t_cmp (fun x y => ¬ x = y) (FR l D cid m_Q_crash X 20) (FR l D cid m_Q_crash X 18)) := by
  refine SS.cons (so_aload_n hX d_Q_crash_8 rfl) ?_
  refine SS.cons (so_getf (C := R_Q) (T := T_Q) hX d_Q_crash_9 in_Q rfl (by decide) k_491) ?_
  refine SS.cons (so_iload_n hX d_Q_crash_12 rfl) ?_
  refine SS.cons (so_iald hX d_Q_crash_13) ?_
  refine SS.cons (so_iconst hX d_Q_crash_14 (by decide)) ?_
  exact st_icmp_ne hX d_Q_crash_15 (by decide)
theorem b_Q_crash_18 {l : Launch} {D : va_G} {cid : Nat → ClassId} {X : CT} {Post : PT} (hX : OK l D cid m_Q_crash X Post) : SS l D cid m_Q_crash X 18 [o_push (.int 0)] (t_zret Post) := by
  refine SS.cons (so_iconst hX d_Q_crash_18 (by decide)) ?_
  exact st_zret hX d_Q_crash_19 rfl
theorem b_Q_crash_20 {l : Launch} {D : va_G} {cid : Nat → ClassId} {X : CT} {Post : PT} (hX : OK l D cid m_Q_crash X Post) : SS l D cid m_Q_crash X 20 [o_push (.int 0), o_istore 2, o_push (.int 0), o_istore 3] (FR l D cid m_Q_crash X 24) := by
  refine SS.cons (so_iconst hX d_Q_crash_20 (by decide)) ?_
  refine SS.cons (so_istore_n hX d_Q_crash_21 rfl (by decide)) ?_
  refine SS.cons (so_iconst hX d_Q_crash_22 (by decide)) ?_
  refine SS.cons (so_istore_n hX d_Q_crash_23 rfl (by decide)) ?_
  exact SS.fall
theorem b_Q_crash_24 {l : Launch} {D : va_G} {cid : Nat → ClassId} {X : CT} {Post : PT} (hX : OK l D cid m_Q_crash X Post) : SS l D cid m_Q_crash X 24 [o_iload 3, o_aload 0, o_getf 4 0] (t_cmp (fun x y => y ≤ x) (FR l D cid m_Q_crash X 61) (FR l D cid m_Q_crash X 32)) := by
  refine SS.cons (so_iload_n hX d_Q_crash_24 rfl) ?_
  refine SS.cons (so_aload_n hX d_Q_crash_25 rfl) ?_
  refine SS.cons (so_getf (C := R_Q) (T := T_Q) hX d_Q_crash_26 in_Q rfl (by decide) k_485) ?_
  exact st_icmp_ge hX d_Q_crash_29 (by decide)
theorem b_Q_crash_32 {l : Launch} {D : va_G} {cid : Nat → ClassId} {X : CT} {Post : PT} (hX : OK l D cid m_Q_crash X Post) : SS l D cid m_Q_crash X 32 [o_iload 3, o_iload 1] (t_cmp (fun x y => x = y) (FR l D cid m_Q_crash X 53) (FR l D cid m_Q_crash X 37)) := by
  refine SS.cons (so_iload_n hX d_Q_crash_32 rfl) ?_
  refine SS.cons (so_iload_n hX d_Q_crash_33 rfl) ?_
  exact st_icmp_eq hX d_Q_crash_34 (by decide)
theorem b_Q_crash_37 {l : Launch} {D : va_G} {cid : Nat → ClassId} {X : CT} {Post : PT} (hX : OK l D cid m_Q_crash X Post) : SS l D cid m_Q_crash X 37 [o_aload 0, o_getf 4 6, o_iload 3, o_ald 0, o_push (.int 2)] (t_cmp (fun x y => x < y) (FR l D cid m_Q_crash X 53) (FR l D cid m_Q_crash X 47)) := by
  refine SS.cons (so_aload_n hX d_Q_crash_37 rfl) ?_
  refine SS.cons (so_getf (C := R_Q) (T := T_Q) hX d_Q_crash_38 in_Q rfl (by decide) k_491) ?_
  refine SS.cons (so_iload_n hX d_Q_crash_41 rfl) ?_
  refine SS.cons (so_iald hX d_Q_crash_42) ?_
  refine SS.cons (so_iconst hX d_Q_crash_43 (by decide)) ?_
  exact st_icmp_lt hX d_Q_crash_44 (by decide)
theorem b_Q_crash_47 {l : Launch} {D : va_G} {cid : Nat → ClassId} {X : CT} {Post : PT} (hX : OK l D cid m_Q_crash X Post) : SS l D cid m_Q_crash X 47 [o_iload 2, o_push (.int 1), o_bin (fun x y => x + y)] (FR l D cid m_Q_crash X 54) := by
  refine SS.cons (so_iload_n hX d_Q_crash_47 rfl) ?_
  refine SS.cons (so_iconst hX d_Q_crash_48 (by decide)) ?_
  refine SS.cons (so_iadd hX d_Q_crash_49) ?_
  exact so_goto hX d_Q_crash_50 (by decide)
theorem b_Q_crash_53 {l : Launch} {D : va_G} {cid : Nat → ClassId} {X : CT} {Post : PT} (hX : OK l D cid m_Q_crash X Post) : SS l D cid m_Q_crash X 53 [o_iload 2] (FR l D cid m_Q_crash X 54) := by
  refine SS.cons (so_iload_n hX d_Q_crash_53 rfl) ?_
  exact SS.fall
theorem b_Q_crash_54 {l : Launch} {D : va_G} {cid : Nat → ClassId} {X : CT} {Post : PT} (hX : OK l D cid m_Q_crash X Post) : SS l D cid m_Q_crash X 54 [o_istore 2, o_iinc 3 1] (FR l D cid m_Q_crash X 24) := by
  refine SS.cons (so_istore_n hX d_Q_crash_54 rfl (by decide)) ?_
  refine SS.cons (so_iinc hX d_Q_crash_55 (by decide) (by decide)) ?_
  exact so_goto hX d_Q_crash_58 (by decide)
theorem b_Q_crash_61 {l : Launch} {D : va_G} {cid : Nat → ClassId} {X : CT} {Post : PT} (hX : OK l D cid m_Q_crash X Post) : SS l D cid m_Q_crash X 61 [o_iload 2, o_aload 0, o_getf 4 1] (t_cmp (fun x y => x < y) (FR l D cid m_Q_crash X 71) (FR l D cid m_Q_crash X 69)) := by
  refine SS.cons (so_iload_n hX d_Q_crash_61 rfl) ?_
  refine SS.cons (so_aload_n hX d_Q_crash_62 rfl) ?_
  refine SS.cons (so_getf (C := R_Q) (T := T_Q) hX d_Q_crash_63 in_Q rfl (by decide) k_486) ?_
  exact st_icmp_lt hX d_Q_crash_66 (by decide)
theorem b_Q_crash_69 {l : Launch} {D : va_G} {cid : Nat → ClassId} {X : CT} {Post : PT} (hX : OK l D cid m_Q_crash X Post) : SS l D cid m_Q_crash X 69 [o_push (.int 0)] (t_zret Post) := by
  refine SS.cons (so_iconst hX d_Q_crash_69 (by decide)) ?_
  exact st_zret hX d_Q_crash_70 rfl
theorem b_Q_crash_71 {l : Launch} {D : va_G} {cid : Nat → ClassId} {X : CT} {Post : PT} (hX : OK l D cid m_Q_crash X Post) : SS l D cid m_Q_crash X 71 [o_aload 0, o_iload 1, o_callV l D cid m_Q_fresh 4 1, o_aload 0, o_getf 4 6, o_iload 1, o_push (.int 3), o_ast, o_push (.int 1)] (t_zret Post) := by
  refine SS.cons (so_aload_n hX d_Q_crash_71 rfl) ?_
  refine SS.cons (so_iload_n hX d_Q_crash_72 rfl) ?_
  refine SS.cons (so_callV (M' := m_Q_fresh) (T := T_Q) hX d_Q_crash_73 rfl k_694 k_691 k_693 k_43 k_48 pf_Q_fresh (by decide) (by decide +kernel) ⟨by decide, by decide⟩) ?_
  refine SS.cons (so_aload_n hX d_Q_crash_76 rfl) ?_
  refine SS.cons (so_getf (C := R_Q) (T := T_Q) hX d_Q_crash_77 in_Q rfl (by decide) k_491) ?_
  refine SS.cons (so_iload_n hX d_Q_crash_80 rfl) ?_
  refine SS.cons (so_iconst hX d_Q_crash_81 (by decide)) ?_
  refine SS.cons (so_iast hX d_Q_crash_82) ?_
  refine SS.cons (so_iconst hX d_Q_crash_83 (by decide)) ?_
  exact st_zret hX d_Q_crash_84 rfl
abbrev m_Q_recover : MT := (⟨"GroupLogModel", "recover", "(II)Z"⟩, prog_6_method_30_code, 3, (some FieldType.boolean), { frames := 3, cells := 0, slots := 0, locals := 71 })
theorem pf_Q_recover : plainFor m_Q_recover.1 = true := by decide +kernel
theorem d_Q_recover_0 : decode prog_6_method_30_code 0 = .ok (.aload_n 0, 1) := by decide +kernel
theorem d_Q_recover_1 : decode prog_6_method_30_code 1 = .ok (.iload_n 1, 1) := by decide +kernel
theorem d_Q_recover_2 : decode prog_6_method_30_code 2 = .ok (.invokevirtual 175, 3) := by decide +kernel
theorem d_Q_recover_5 : decode prog_6_method_30_code 5 = .ok (.ifCond .eq 23, 3) := by decide +kernel
theorem d_Q_recover_8 : decode prog_6_method_30_code 8 = .ok (.aload_n 0, 1) := by decide +kernel
theorem d_Q_recover_9 : decode prog_6_method_30_code 9 = .ok (.getfield 22, 3) := by decide +kernel
theorem d_Q_recover_12 : decode prog_6_method_30_code 12 = .ok (.iload_n 1, 1) := by decide +kernel
theorem d_Q_recover_13 : decode prog_6_method_30_code 13 = .ok (.iaload, 1) := by decide +kernel
theorem d_Q_recover_14 : decode prog_6_method_30_code 14 = .ok (.iconst 2, 1) := by decide +kernel
theorem d_Q_recover_15 : decode prog_6_method_30_code 15 = .ok (.if_icmp .lt 13, 3) := by decide +kernel
theorem d_Q_recover_18 : decode prog_6_method_30_code 18 = .ok (.iload_n 2, 1) := by decide +kernel
theorem d_Q_recover_19 : decode prog_6_method_30_code 19 = .ok (.aload_n 0, 1) := by decide +kernel
theorem d_Q_recover_20 : decode prog_6_method_30_code 20 = .ok (.getfield 44, 3) := by decide +kernel
theorem d_Q_recover_23 : decode prog_6_method_30_code 23 = .ok (.iload_n 1, 1) := by decide +kernel
theorem d_Q_recover_24 : decode prog_6_method_30_code 24 = .ok (.iaload, 1) := by decide +kernel
theorem d_Q_recover_25 : decode prog_6_method_30_code 25 = .ok (.if_icmp .gt 5, 3) := by decide +kernel
theorem d_Q_recover_28 : decode prog_6_method_30_code 28 = .ok (.iconst 0, 1) := by decide +kernel
theorem d_Q_recover_29 : decode prog_6_method_30_code 29 = .ok (.ireturn, 1) := by decide +kernel
theorem d_Q_recover_30 : decode prog_6_method_30_code 30 = .ok (.aload_n 0, 1) := by decide +kernel
theorem d_Q_recover_31 : decode prog_6_method_30_code 31 = .ok (.getfield 44, 3) := by decide +kernel
theorem d_Q_recover_34 : decode prog_6_method_30_code 34 = .ok (.iload_n 1, 1) := by decide +kernel
theorem d_Q_recover_35 : decode prog_6_method_30_code 35 = .ok (.iload_n 2, 1) := by decide +kernel
theorem d_Q_recover_36 : decode prog_6_method_30_code 36 = .ok (.iastore, 1) := by decide +kernel
theorem d_Q_recover_37 : decode prog_6_method_30_code 37 = .ok (.aload_n 0, 1) := by decide +kernel
theorem d_Q_recover_38 : decode prog_6_method_30_code 38 = .ok (.iload_n 1, 1) := by decide +kernel
theorem d_Q_recover_39 : decode prog_6_method_30_code 39 = .ok (.invokevirtual 178, 3) := by decide +kernel
theorem d_Q_recover_42 : decode prog_6_method_30_code 42 = .ok (.aload_n 0, 1) := by decide +kernel
theorem d_Q_recover_43 : decode prog_6_method_30_code 43 = .ok (.getfield 22, 3) := by decide +kernel
theorem d_Q_recover_46 : decode prog_6_method_30_code 46 = .ok (.iload_n 1, 1) := by decide +kernel
theorem d_Q_recover_47 : decode prog_6_method_30_code 47 = .ok (.iconst 2, 1) := by decide +kernel
theorem d_Q_recover_48 : decode prog_6_method_30_code 48 = .ok (.iastore, 1) := by decide +kernel
theorem d_Q_recover_49 : decode prog_6_method_30_code 49 = .ok (.aload_n 0, 1) := by decide +kernel
theorem d_Q_recover_50 : decode prog_6_method_30_code 50 = .ok (.getfield 34, 3) := by decide +kernel
theorem d_Q_recover_53 : decode prog_6_method_30_code 53 = .ok (.bipush 6, 2) := by decide +kernel
theorem d_Q_recover_55 : decode prog_6_method_30_code 55 = .ok (.iload_n 1, 1) := by decide +kernel
theorem d_Q_recover_56 : decode prog_6_method_30_code 56 = .ok (.imul, 1) := by decide +kernel
theorem d_Q_recover_57 : decode prog_6_method_30_code 57 = .ok (.iload_n 2, 1) := by decide +kernel
theorem d_Q_recover_58 : decode prog_6_method_30_code 58 = .ok (.iastore, 1) := by decide +kernel
theorem d_Q_recover_59 : decode prog_6_method_30_code 59 = .ok (.aload_n 0, 1) := by decide +kernel
theorem d_Q_recover_60 : decode prog_6_method_30_code 60 = .ok (.iload_n 1, 1) := by decide +kernel
theorem d_Q_recover_61 : decode prog_6_method_30_code 61 = .ok (.bipush 7, 2) := by decide +kernel
theorem d_Q_recover_63 : decode prog_6_method_30_code 63 = .ok (.invokevirtual 124, 3) := by decide +kernel
theorem d_Q_recover_66 : decode prog_6_method_30_code 66 = .ok (.iconst 1, 1) := by decide +kernel
theorem d_Q_recover_67 : decode prog_6_method_30_code 67 = .ok (.ireturn, 1) := by decide +kernel
theorem b_Q_recover_0 {l : Launch} {D : va_G} {cid : Nat → ClassId} {X : CT} {Post : PT} (hX : OK l D cid m_Q_recover X Post) : SS l D cid m_Q_recover X 0 [o_aload 0, o_iload 1, o_callV l D cid m_Q_isReplica 4 1] (t_if (fun x => x = 0) (FR l D cid m_Q_recover X 28) (FR l D cid m_Q_recover X 8)) := by
  refine SS.cons (so_aload_n hX d_Q_recover_0 rfl) ?_
  refine SS.cons (so_iload_n hX d_Q_recover_1 rfl) ?_
  refine SS.cons (so_callV (M' := m_Q_isReplica) (T := T_Q) hX d_Q_recover_2 rfl k_678 k_675 k_677 k_42 k_48 pf_Q_isReplica (by decide) (by decide +kernel) ⟨by decide, by decide⟩) ?_
  exact st_if_eq hX d_Q_recover_5 (by decide)
theorem b_Q_recover_8 {l : Launch} {D : va_G} {cid : Nat → ClassId} {X : CT} {Post : PT} (hX : OK l D cid m_Q_recover X Post) : SS l D cid m_Q_recover X 8 [o_aload 0, o_getf 4 6, o_iload 1, o_ald 0, o_push (.int 2)] (t_cmp (fun x y => x < y) (FR l D cid m_Q_recover X 28) (FR l D cid m_Q_recover X 18)) := by
  refine SS.cons (so_aload_n hX d_Q_recover_8 rfl) ?_
  refine SS.cons (so_getf (C := R_Q) (T := T_Q) hX d_Q_recover_9 in_Q rfl (by decide) k_491) ?_
  refine SS.cons (so_iload_n hX d_Q_recover_12 rfl) ?_
  refine SS.cons (so_iald hX d_Q_recover_13) ?_
  refine SS.cons (so_iconst hX d_Q_recover_14 (by decide)) ?_
  exact st_icmp_lt hX d_Q_recover_15 (by decide)
theorem b_Q_recover_18 {l : Launch} {D : va_G} {cid : Nat → ClassId} {X : CT} {Post : PT} (hX : OK l D cid m_Q_recover X Post) : SS l D cid m_Q_recover X 18 [o_iload 2, o_aload 0, o_getf 4 13, o_iload 1, o_ald 0] (t_cmp (fun x y => y < x) (FR l D cid m_Q_recover X 30) (FR l D cid m_Q_recover X 28)) := by
  refine SS.cons (so_iload_n hX d_Q_recover_18 rfl) ?_
  refine SS.cons (so_aload_n hX d_Q_recover_19 rfl) ?_
  refine SS.cons (so_getf (C := R_Q) (T := T_Q) hX d_Q_recover_20 in_Q rfl (by decide) k_498) ?_
  refine SS.cons (so_iload_n hX d_Q_recover_23 rfl) ?_
  refine SS.cons (so_iald hX d_Q_recover_24) ?_
  exact st_icmp_gt hX d_Q_recover_25 (by decide)
theorem b_Q_recover_28 {l : Launch} {D : va_G} {cid : Nat → ClassId} {X : CT} {Post : PT} (hX : OK l D cid m_Q_recover X Post) : SS l D cid m_Q_recover X 28 [o_push (.int 0)] (t_zret Post) := by
  refine SS.cons (so_iconst hX d_Q_recover_28 (by decide)) ?_
  exact st_zret hX d_Q_recover_29 rfl
theorem b_Q_recover_30 {l : Launch} {D : va_G} {cid : Nat → ClassId} {X : CT} {Post : PT} (hX : OK l D cid m_Q_recover X Post) : SS l D cid m_Q_recover X 30 [o_aload 0, o_getf 4 13, o_iload 1, o_iload 2, o_ast, o_aload 0, o_iload 1, o_callV l D cid m_Q_fresh 4 1, o_aload 0, o_getf 4 6, o_iload 1, o_push (.int 2), o_ast, o_aload 0, o_getf 4 10, o_push (.int 6), o_iload 1, o_bin (fun x y => x * y), o_iload 2, o_ast, o_aload 0, o_iload 1, o_push (.int 7), o_callV l D cid m_Q_sendAll 4 2, o_push (.int 1)] (t_zret Post) := by
  refine SS.cons (so_aload_n hX d_Q_recover_30 rfl) ?_
  refine SS.cons (so_getf (C := R_Q) (T := T_Q) hX d_Q_recover_31 in_Q rfl (by decide) k_498) ?_
  refine SS.cons (so_iload_n hX d_Q_recover_34 rfl) ?_
  refine SS.cons (so_iload_n hX d_Q_recover_35 rfl) ?_
  refine SS.cons (so_iast hX d_Q_recover_36) ?_
  refine SS.cons (so_aload_n hX d_Q_recover_37 rfl) ?_
  refine SS.cons (so_iload_n hX d_Q_recover_38 rfl) ?_
  refine SS.cons (so_callV (M' := m_Q_fresh) (T := T_Q) hX d_Q_recover_39 rfl k_694 k_691 k_693 k_43 k_48 pf_Q_fresh (by decide) (by decide +kernel) ⟨by decide, by decide⟩) ?_
  refine SS.cons (so_aload_n hX d_Q_recover_42 rfl) ?_
  refine SS.cons (so_getf (C := R_Q) (T := T_Q) hX d_Q_recover_43 in_Q rfl (by decide) k_491) ?_
  refine SS.cons (so_iload_n hX d_Q_recover_46 rfl) ?_
  refine SS.cons (so_iconst hX d_Q_recover_47 (by decide)) ?_
  refine SS.cons (so_iast hX d_Q_recover_48) ?_
  refine SS.cons (so_aload_n hX d_Q_recover_49 rfl) ?_
  refine SS.cons (so_getf (C := R_Q) (T := T_Q) hX d_Q_recover_50 in_Q rfl (by decide) k_495) ?_
  refine SS.cons (so_bipush hX d_Q_recover_53 (by decide)) ?_
  refine SS.cons (so_iload_n hX d_Q_recover_55 rfl) ?_
  refine SS.cons (so_imul hX d_Q_recover_56) ?_
  refine SS.cons (so_iload_n hX d_Q_recover_57 rfl) ?_
  refine SS.cons (so_iast hX d_Q_recover_58) ?_
  refine SS.cons (so_aload_n hX d_Q_recover_59 rfl) ?_
  refine SS.cons (so_iload_n hX d_Q_recover_60 rfl) ?_
  refine SS.cons (so_bipush hX d_Q_recover_61 (by decide)) ?_
  refine SS.cons (so_callV (M' := m_Q_sendAll) (T := T_Q) hX d_Q_recover_63 rfl k_654 k_651 k_653 k_38 k_48 pf_Q_sendAll (by decide) (by decide +kernel) ⟨by decide, by decide⟩) ?_
  refine SS.cons (so_iconst hX d_Q_recover_66 (by decide)) ?_
  exact st_zret hX d_Q_recover_67 rfl
abbrev m_Q_status : MT := (⟨"GroupLogModel", "status", "(I)I"⟩, prog_6_method_31_code, 2, (some FieldType.int), { frames := 1, cells := 0, slots := 0, locals := 21 })
theorem pf_Q_status : plainFor m_Q_status.1 = true := by decide +kernel
theorem d_Q_status_0 : decode prog_6_method_31_code 0 = .ok (.aload_n 0, 1) := by decide +kernel
theorem d_Q_status_1 : decode prog_6_method_31_code 1 = .ok (.iload_n 1, 1) := by decide +kernel
theorem d_Q_status_2 : decode prog_6_method_31_code 2 = .ok (.invokevirtual 175, 3) := by decide +kernel
theorem d_Q_status_5 : decode prog_6_method_31_code 5 = .ok (.ifCond .eq 12, 3) := by decide +kernel
theorem d_Q_status_8 : decode prog_6_method_31_code 8 = .ok (.aload_n 0, 1) := by decide +kernel
theorem d_Q_status_9 : decode prog_6_method_31_code 9 = .ok (.getfield 22, 3) := by decide +kernel
theorem d_Q_status_12 : decode prog_6_method_31_code 12 = .ok (.iload_n 1, 1) := by decide +kernel
theorem d_Q_status_13 : decode prog_6_method_31_code 13 = .ok (.iaload, 1) := by decide +kernel
theorem d_Q_status_14 : decode prog_6_method_31_code 14 = .ok (.goto 4, 3) := by decide +kernel
theorem d_Q_status_17 : decode prog_6_method_31_code 17 = .ok (.iconst (-1), 1) := by decide +kernel
theorem d_Q_status_18 : decode prog_6_method_31_code 18 = .ok (.ireturn, 1) := by decide +kernel
theorem b_Q_status_0 {l : Launch} {D : va_G} {cid : Nat → ClassId} {X : CT} {Post : PT} (hX : OK l D cid m_Q_status X Post) : SS l D cid m_Q_status X 0 [o_aload 0, o_iload 1, o_callV l D cid m_Q_isReplica 4 1] (t_if (fun x => x = 0) (FR l D cid m_Q_status X 17) (FR l D cid m_Q_status X 8)) := by
  refine SS.cons (so_aload_n hX d_Q_status_0 rfl) ?_
  refine SS.cons (so_iload_n hX d_Q_status_1 rfl) ?_
  refine SS.cons (so_callV (M' := m_Q_isReplica) (T := T_Q) hX d_Q_status_2 rfl k_678 k_675 k_677 k_42 k_48 pf_Q_isReplica (by decide) (by decide +kernel) ⟨by decide, by decide⟩) ?_
  exact st_if_eq hX d_Q_status_5 (by decide)
theorem b_Q_status_8 {l : Launch} {D : va_G} {cid : Nat → ClassId} {X : CT} {Post : PT} (hX : OK l D cid m_Q_status X Post) : SS l D cid m_Q_status X 8 [o_aload 0, o_getf 4 6, o_iload 1, o_ald 0] (FR l D cid m_Q_status X 18) := by
  refine SS.cons (so_aload_n hX d_Q_status_8 rfl) ?_
  refine SS.cons (so_getf (C := R_Q) (T := T_Q) hX d_Q_status_9 in_Q rfl (by decide) k_491) ?_
  refine SS.cons (so_iload_n hX d_Q_status_12 rfl) ?_
  refine SS.cons (so_iald hX d_Q_status_13) ?_
  exact so_goto hX d_Q_status_14 (by decide)
theorem b_Q_status_17 {l : Launch} {D : va_G} {cid : Nat → ClassId} {X : CT} {Post : PT} (hX : OK l D cid m_Q_status X Post) : SS l D cid m_Q_status X 17 [o_push (.int (-1))] (FR l D cid m_Q_status X 18) := by
  refine SS.cons (so_iconst hX d_Q_status_17 (by decide)) ?_
  exact SS.fall
theorem b_Q_status_18 {l : Launch} {D : va_G} {cid : Nat → ClassId} {X : CT} {Post : PT} (hX : OK l D cid m_Q_status X Post) : SS l D cid m_Q_status X 18 [] (t_iret Post) := by
  exact st_iret hX d_Q_status_18 rfl
abbrev m_Q_view : MT := (⟨"GroupLogModel", "view", "(I)I"⟩, prog_6_method_32_code, 2, (some FieldType.int), { frames := 1, cells := 0, slots := 0, locals := 21 })
theorem pf_Q_view : plainFor m_Q_view.1 = true := by decide +kernel
theorem d_Q_view_0 : decode prog_6_method_32_code 0 = .ok (.aload_n 0, 1) := by decide +kernel
theorem d_Q_view_1 : decode prog_6_method_32_code 1 = .ok (.iload_n 1, 1) := by decide +kernel
theorem d_Q_view_2 : decode prog_6_method_32_code 2 = .ok (.invokevirtual 175, 3) := by decide +kernel
theorem d_Q_view_5 : decode prog_6_method_32_code 5 = .ok (.ifCond .eq 12, 3) := by decide +kernel
theorem d_Q_view_8 : decode prog_6_method_32_code 8 = .ok (.aload_n 0, 1) := by decide +kernel
theorem d_Q_view_9 : decode prog_6_method_32_code 9 = .ok (.getfield 25, 3) := by decide +kernel
theorem d_Q_view_12 : decode prog_6_method_32_code 12 = .ok (.iload_n 1, 1) := by decide +kernel
theorem d_Q_view_13 : decode prog_6_method_32_code 13 = .ok (.iaload, 1) := by decide +kernel
theorem d_Q_view_14 : decode prog_6_method_32_code 14 = .ok (.goto 4, 3) := by decide +kernel
theorem d_Q_view_17 : decode prog_6_method_32_code 17 = .ok (.iconst (-1), 1) := by decide +kernel
theorem d_Q_view_18 : decode prog_6_method_32_code 18 = .ok (.ireturn, 1) := by decide +kernel
theorem b_Q_view_0 {l : Launch} {D : va_G} {cid : Nat → ClassId} {X : CT} {Post : PT} (hX : OK l D cid m_Q_view X Post) : SS l D cid m_Q_view X 0 [o_aload 0, o_iload 1, o_callV l D cid m_Q_isReplica 4 1] (t_if (fun x => x = 0) (FR l D cid m_Q_view X 17) (FR l D cid m_Q_view X 8)) := by
  refine SS.cons (so_aload_n hX d_Q_view_0 rfl) ?_
  refine SS.cons (so_iload_n hX d_Q_view_1 rfl) ?_
  refine SS.cons (so_callV (M' := m_Q_isReplica) (T := T_Q) hX d_Q_view_2 rfl k_678 k_675 k_677 k_42 k_48 pf_Q_isReplica (by decide) (by decide +kernel) ⟨by decide, by decide⟩) ?_
  exact st_if_eq hX d_Q_view_5 (by decide)
theorem b_Q_view_8 {l : Launch} {D : va_G} {cid : Nat → ClassId} {X : CT} {Post : PT} (hX : OK l D cid m_Q_view X Post) : SS l D cid m_Q_view X 8 [o_aload 0, o_getf 4 7, o_iload 1, o_ald 0] (FR l D cid m_Q_view X 18) := by
  refine SS.cons (so_aload_n hX d_Q_view_8 rfl) ?_
  refine SS.cons (so_getf (C := R_Q) (T := T_Q) hX d_Q_view_9 in_Q rfl (by decide) k_492) ?_
  refine SS.cons (so_iload_n hX d_Q_view_12 rfl) ?_
  refine SS.cons (so_iald hX d_Q_view_13) ?_
  exact so_goto hX d_Q_view_14 (by decide)
theorem b_Q_view_17 {l : Launch} {D : va_G} {cid : Nat → ClassId} {X : CT} {Post : PT} (hX : OK l D cid m_Q_view X Post) : SS l D cid m_Q_view X 17 [o_push (.int (-1))] (FR l D cid m_Q_view X 18) := by
  refine SS.cons (so_iconst hX d_Q_view_17 (by decide)) ?_
  exact SS.fall
theorem b_Q_view_18 {l : Launch} {D : va_G} {cid : Nat → ClassId} {X : CT} {Post : PT} (hX : OK l D cid m_Q_view X Post) : SS l D cid m_Q_view X 18 [] (t_iret Post) := by
  exact st_iret hX d_Q_view_18 rfl
abbrev m_Q_length : MT := (⟨"GroupLogModel", "length", "(I)I"⟩, prog_6_method_33_code, 2, (some FieldType.int), { frames := 1, cells := 0, slots := 0, locals := 21 })
theorem pf_Q_length : plainFor m_Q_length.1 = true := by decide +kernel
theorem d_Q_length_0 : decode prog_6_method_33_code 0 = .ok (.aload_n 0, 1) := by decide +kernel
theorem d_Q_length_1 : decode prog_6_method_33_code 1 = .ok (.iload_n 1, 1) := by decide +kernel
theorem d_Q_length_2 : decode prog_6_method_33_code 2 = .ok (.invokevirtual 175, 3) := by decide +kernel
theorem d_Q_length_5 : decode prog_6_method_33_code 5 = .ok (.ifCond .eq 12, 3) := by decide +kernel
theorem d_Q_length_8 : decode prog_6_method_33_code 8 = .ok (.aload_n 0, 1) := by decide +kernel
theorem d_Q_length_9 : decode prog_6_method_33_code 9 = .ok (.getfield 7, 3) := by decide +kernel
theorem d_Q_length_12 : decode prog_6_method_33_code 12 = .ok (.iload_n 1, 1) := by decide +kernel
theorem d_Q_length_13 : decode prog_6_method_33_code 13 = .ok (.iaload, 1) := by decide +kernel
theorem d_Q_length_14 : decode prog_6_method_33_code 14 = .ok (.goto 4, 3) := by decide +kernel
theorem d_Q_length_17 : decode prog_6_method_33_code 17 = .ok (.iconst (-1), 1) := by decide +kernel
theorem d_Q_length_18 : decode prog_6_method_33_code 18 = .ok (.ireturn, 1) := by decide +kernel
theorem b_Q_length_0 {l : Launch} {D : va_G} {cid : Nat → ClassId} {X : CT} {Post : PT} (hX : OK l D cid m_Q_length X Post) : SS l D cid m_Q_length X 0 [o_aload 0, o_iload 1, o_callV l D cid m_Q_isReplica 4 1] (t_if (fun x => x = 0) (FR l D cid m_Q_length X 17) (FR l D cid m_Q_length X 8)) := by
  refine SS.cons (so_aload_n hX d_Q_length_0 rfl) ?_
  refine SS.cons (so_iload_n hX d_Q_length_1 rfl) ?_
  refine SS.cons (so_callV (M' := m_Q_isReplica) (T := T_Q) hX d_Q_length_2 rfl k_678 k_675 k_677 k_42 k_48 pf_Q_isReplica (by decide) (by decide +kernel) ⟨by decide, by decide⟩) ?_
  exact st_if_eq hX d_Q_length_5 (by decide)
theorem b_Q_length_8 {l : Launch} {D : va_G} {cid : Nat → ClassId} {X : CT} {Post : PT} (hX : OK l D cid m_Q_length X Post) : SS l D cid m_Q_length X 8 [o_aload 0, o_getf 4 2, o_iload 1, o_ald 0] (FR l D cid m_Q_length X 18) := by
  refine SS.cons (so_aload_n hX d_Q_length_8 rfl) ?_
  refine SS.cons (so_getf (C := R_Q) (T := T_Q) hX d_Q_length_9 in_Q rfl (by decide) k_487) ?_
  refine SS.cons (so_iload_n hX d_Q_length_12 rfl) ?_
  refine SS.cons (so_iald hX d_Q_length_13) ?_
  exact so_goto hX d_Q_length_14 (by decide)
theorem b_Q_length_17 {l : Launch} {D : va_G} {cid : Nat → ClassId} {X : CT} {Post : PT} (hX : OK l D cid m_Q_length X Post) : SS l D cid m_Q_length X 17 [o_push (.int (-1))] (FR l D cid m_Q_length X 18) := by
  refine SS.cons (so_iconst hX d_Q_length_17 (by decide)) ?_
  exact SS.fall
theorem b_Q_length_18 {l : Launch} {D : va_G} {cid : Nat → ClassId} {X : CT} {Post : PT} (hX : OK l D cid m_Q_length X Post) : SS l D cid m_Q_length X 18 [] (t_iret Post) := by
  exact st_iret hX d_Q_length_18 rfl
abbrev m_Q_commit : MT := (⟨"GroupLogModel", "commit", "(I)I"⟩, prog_6_method_34_code, 2, (some FieldType.int), { frames := 1, cells := 0, slots := 0, locals := 21 })
theorem pf_Q_commit : plainFor m_Q_commit.1 = true := by decide +kernel
theorem d_Q_commit_0 : decode prog_6_method_34_code 0 = .ok (.aload_n 0, 1) := by decide +kernel
theorem d_Q_commit_1 : decode prog_6_method_34_code 1 = .ok (.iload_n 1, 1) := by decide +kernel
theorem d_Q_commit_2 : decode prog_6_method_34_code 2 = .ok (.invokevirtual 175, 3) := by decide +kernel
theorem d_Q_commit_5 : decode prog_6_method_34_code 5 = .ok (.ifCond .eq 12, 3) := by decide +kernel
theorem d_Q_commit_8 : decode prog_6_method_34_code 8 = .ok (.aload_n 0, 1) := by decide +kernel
theorem d_Q_commit_9 : decode prog_6_method_34_code 9 = .ok (.getfield 31, 3) := by decide +kernel
theorem d_Q_commit_12 : decode prog_6_method_34_code 12 = .ok (.iload_n 1, 1) := by decide +kernel
theorem d_Q_commit_13 : decode prog_6_method_34_code 13 = .ok (.iaload, 1) := by decide +kernel
theorem d_Q_commit_14 : decode prog_6_method_34_code 14 = .ok (.goto 4, 3) := by decide +kernel
theorem d_Q_commit_17 : decode prog_6_method_34_code 17 = .ok (.iconst (-1), 1) := by decide +kernel
theorem d_Q_commit_18 : decode prog_6_method_34_code 18 = .ok (.ireturn, 1) := by decide +kernel
theorem b_Q_commit_0 {l : Launch} {D : va_G} {cid : Nat → ClassId} {X : CT} {Post : PT} (hX : OK l D cid m_Q_commit X Post) : SS l D cid m_Q_commit X 0 [o_aload 0, o_iload 1, o_callV l D cid m_Q_isReplica 4 1] (t_if (fun x => x = 0) (FR l D cid m_Q_commit X 17) (FR l D cid m_Q_commit X 8)) := by
  refine SS.cons (so_aload_n hX d_Q_commit_0 rfl) ?_
  refine SS.cons (so_iload_n hX d_Q_commit_1 rfl) ?_
  refine SS.cons (so_callV (M' := m_Q_isReplica) (T := T_Q) hX d_Q_commit_2 rfl k_678 k_675 k_677 k_42 k_48 pf_Q_isReplica (by decide) (by decide +kernel) ⟨by decide, by decide⟩) ?_
  exact st_if_eq hX d_Q_commit_5 (by decide)
theorem b_Q_commit_8 {l : Launch} {D : va_G} {cid : Nat → ClassId} {X : CT} {Post : PT} (hX : OK l D cid m_Q_commit X Post) : SS l D cid m_Q_commit X 8 [o_aload 0, o_getf 4 9, o_iload 1, o_ald 0] (FR l D cid m_Q_commit X 18) := by
  refine SS.cons (so_aload_n hX d_Q_commit_8 rfl) ?_
  refine SS.cons (so_getf (C := R_Q) (T := T_Q) hX d_Q_commit_9 in_Q rfl (by decide) k_494) ?_
  refine SS.cons (so_iload_n hX d_Q_commit_12 rfl) ?_
  refine SS.cons (so_iald hX d_Q_commit_13) ?_
  exact so_goto hX d_Q_commit_14 (by decide)
theorem b_Q_commit_17 {l : Launch} {D : va_G} {cid : Nat → ClassId} {X : CT} {Post : PT} (hX : OK l D cid m_Q_commit X Post) : SS l D cid m_Q_commit X 17 [o_push (.int (-1))] (FR l D cid m_Q_commit X 18) := by
  refine SS.cons (so_iconst hX d_Q_commit_17 (by decide)) ?_
  exact SS.fall
theorem b_Q_commit_18 {l : Launch} {D : va_G} {cid : Nat → ClassId} {X : CT} {Post : PT} (hX : OK l D cid m_Q_commit X Post) : SS l D cid m_Q_commit X 18 [] (t_iret Post) := by
  exact st_iret hX d_Q_commit_18 rfl
abbrev m_Q_entry : MT := (⟨"GroupLogModel", "entry", "(II)I"⟩, prog_6_method_35_code, 3, (some FieldType.int), { frames := 1, cells := 0, slots := 0, locals := 21 })
theorem pf_Q_entry : plainFor m_Q_entry.1 = true := by decide +kernel
theorem d_Q_entry_0 : decode prog_6_method_35_code 0 = .ok (.aload_n 0, 1) := by decide +kernel
theorem d_Q_entry_1 : decode prog_6_method_35_code 1 = .ok (.iload_n 1, 1) := by decide +kernel
theorem d_Q_entry_2 : decode prog_6_method_35_code 2 = .ok (.invokevirtual 175, 3) := by decide +kernel
theorem d_Q_entry_5 : decode prog_6_method_35_code 5 = .ok (.ifCond .eq 31, 3) := by decide +kernel
theorem d_Q_entry_8 : decode prog_6_method_35_code 8 = .ok (.iload_n 2, 1) := by decide +kernel
theorem d_Q_entry_9 : decode prog_6_method_35_code 9 = .ok (.ifCond .lt 27, 3) := by decide +kernel
theorem d_Q_entry_12 : decode prog_6_method_35_code 12 = .ok (.iload_n 2, 1) := by decide +kernel
theorem d_Q_entry_13 : decode prog_6_method_35_code 13 = .ok (.aload_n 0, 1) := by decide +kernel
theorem d_Q_entry_14 : decode prog_6_method_35_code 14 = .ok (.getfield 7, 3) := by decide +kernel
theorem d_Q_entry_17 : decode prog_6_method_35_code 17 = .ok (.iload_n 1, 1) := by decide +kernel
theorem d_Q_entry_18 : decode prog_6_method_35_code 18 = .ok (.iaload, 1) := by decide +kernel
theorem d_Q_entry_19 : decode prog_6_method_35_code 19 = .ok (.if_icmp .ge 17, 3) := by decide +kernel
theorem d_Q_entry_22 : decode prog_6_method_35_code 22 = .ok (.aload_n 0, 1) := by decide +kernel
theorem d_Q_entry_23 : decode prog_6_method_35_code 23 = .ok (.getfield 19, 3) := by decide +kernel
theorem d_Q_entry_26 : decode prog_6_method_35_code 26 = .ok (.bipush 24, 2) := by decide +kernel
theorem d_Q_entry_28 : decode prog_6_method_35_code 28 = .ok (.iload_n 1, 1) := by decide +kernel
theorem d_Q_entry_29 : decode prog_6_method_35_code 29 = .ok (.imul, 1) := by decide +kernel
theorem d_Q_entry_30 : decode prog_6_method_35_code 30 = .ok (.iload_n 2, 1) := by decide +kernel
theorem d_Q_entry_31 : decode prog_6_method_35_code 31 = .ok (.iadd, 1) := by decide +kernel
theorem d_Q_entry_32 : decode prog_6_method_35_code 32 = .ok (.iaload, 1) := by decide +kernel
theorem d_Q_entry_33 : decode prog_6_method_35_code 33 = .ok (.goto 4, 3) := by decide +kernel
theorem d_Q_entry_36 : decode prog_6_method_35_code 36 = .ok (.iconst 0, 1) := by decide +kernel
theorem d_Q_entry_37 : decode prog_6_method_35_code 37 = .ok (.ireturn, 1) := by decide +kernel
theorem b_Q_entry_0 {l : Launch} {D : va_G} {cid : Nat → ClassId} {X : CT} {Post : PT} (hX : OK l D cid m_Q_entry X Post) : SS l D cid m_Q_entry X 0 [o_aload 0, o_iload 1, o_callV l D cid m_Q_isReplica 4 1] (t_if (fun x => x = 0) (FR l D cid m_Q_entry X 36) (FR l D cid m_Q_entry X 8)) := by
  refine SS.cons (so_aload_n hX d_Q_entry_0 rfl) ?_
  refine SS.cons (so_iload_n hX d_Q_entry_1 rfl) ?_
  refine SS.cons (so_callV (M' := m_Q_isReplica) (T := T_Q) hX d_Q_entry_2 rfl k_678 k_675 k_677 k_42 k_48 pf_Q_isReplica (by decide) (by decide +kernel) ⟨by decide, by decide⟩) ?_
  exact st_if_eq hX d_Q_entry_5 (by decide)
theorem b_Q_entry_8 {l : Launch} {D : va_G} {cid : Nat → ClassId} {X : CT} {Post : PT} (hX : OK l D cid m_Q_entry X Post) : SS l D cid m_Q_entry X 8 [o_iload 2] (t_if (fun x => x < 0) (FR l D cid m_Q_entry X 36) (FR l D cid m_Q_entry X 12)) := by
  refine SS.cons (so_iload_n hX d_Q_entry_8 rfl) ?_
  exact st_if_lt hX d_Q_entry_9 (by decide)
theorem b_Q_entry_12 {l : Launch} {D : va_G} {cid : Nat → ClassId} {X : CT} {Post : PT} (hX : OK l D cid m_Q_entry X Post) : SS l D cid m_Q_entry X 12 [o_iload 2, o_aload 0, o_getf 4 2, o_iload 1, o_ald 0] (t_cmp (fun x y => y ≤ x) (FR l D cid m_Q_entry X 36) (FR l D cid m_Q_entry X 22)) := by
  refine SS.cons (so_iload_n hX d_Q_entry_12 rfl) ?_
  refine SS.cons (so_aload_n hX d_Q_entry_13 rfl) ?_
  refine SS.cons (so_getf (C := R_Q) (T := T_Q) hX d_Q_entry_14 in_Q rfl (by decide) k_487) ?_
  refine SS.cons (so_iload_n hX d_Q_entry_17 rfl) ?_
  refine SS.cons (so_iald hX d_Q_entry_18) ?_
  exact st_icmp_ge hX d_Q_entry_19 (by decide)
theorem b_Q_entry_22 {l : Launch} {D : va_G} {cid : Nat → ClassId} {X : CT} {Post : PT} (hX : OK l D cid m_Q_entry X Post) : SS l D cid m_Q_entry X 22 [o_aload 0, o_getf 4 5, o_push (.int 24), o_iload 1, o_bin (fun x y => x * y), o_iload 2, o_bin (fun x y => x + y), o_ald 0] (FR l D cid m_Q_entry X 37) := by
  refine SS.cons (so_aload_n hX d_Q_entry_22 rfl) ?_
  refine SS.cons (so_getf (C := R_Q) (T := T_Q) hX d_Q_entry_23 in_Q rfl (by decide) k_490) ?_
  refine SS.cons (so_bipush hX d_Q_entry_26 (by decide)) ?_
  refine SS.cons (so_iload_n hX d_Q_entry_28 rfl) ?_
  refine SS.cons (so_imul hX d_Q_entry_29) ?_
  refine SS.cons (so_iload_n hX d_Q_entry_30 rfl) ?_
  refine SS.cons (so_iadd hX d_Q_entry_31) ?_
  refine SS.cons (so_iald hX d_Q_entry_32) ?_
  exact so_goto hX d_Q_entry_33 (by decide)
theorem b_Q_entry_36 {l : Launch} {D : va_G} {cid : Nat → ClassId} {X : CT} {Post : PT} (hX : OK l D cid m_Q_entry X Post) : SS l D cid m_Q_entry X 36 [o_push (.int 0)] (FR l D cid m_Q_entry X 37) := by
  refine SS.cons (so_iconst hX d_Q_entry_36 (by decide)) ?_
  exact SS.fall
theorem b_Q_entry_37 {l : Launch} {D : va_G} {cid : Nat → ClassId} {X : CT} {Post : PT} (hX : OK l D cid m_Q_entry X Post) : SS l D cid m_Q_entry X 37 [] (t_iret Post) := by
  exact st_iret hX d_Q_entry_37 rfl
abbrev m_Q_origin : MT := (⟨"GroupLogModel", "origin", "(II)I"⟩, prog_6_method_36_code, 3, (some FieldType.int), { frames := 1, cells := 0, slots := 0, locals := 21 })
theorem pf_Q_origin : plainFor m_Q_origin.1 = true := by decide +kernel
theorem d_Q_origin_0 : decode prog_6_method_36_code 0 = .ok (.aload_n 0, 1) := by decide +kernel
theorem d_Q_origin_1 : decode prog_6_method_36_code 1 = .ok (.iload_n 1, 1) := by decide +kernel
theorem d_Q_origin_2 : decode prog_6_method_36_code 2 = .ok (.invokevirtual 175, 3) := by decide +kernel
theorem d_Q_origin_5 : decode prog_6_method_36_code 5 = .ok (.ifCond .eq 45, 3) := by decide +kernel
theorem d_Q_origin_8 : decode prog_6_method_36_code 8 = .ok (.iload_n 2, 1) := by decide +kernel
theorem d_Q_origin_9 : decode prog_6_method_36_code 9 = .ok (.ifCond .lt 41, 3) := by decide +kernel
theorem d_Q_origin_12 : decode prog_6_method_36_code 12 = .ok (.iload_n 2, 1) := by decide +kernel
theorem d_Q_origin_13 : decode prog_6_method_36_code 13 = .ok (.aload_n 0, 1) := by decide +kernel
theorem d_Q_origin_14 : decode prog_6_method_36_code 14 = .ok (.getfield 7, 3) := by decide +kernel
theorem d_Q_origin_17 : decode prog_6_method_36_code 17 = .ok (.iload_n 1, 1) := by decide +kernel
theorem d_Q_origin_18 : decode prog_6_method_36_code 18 = .ok (.iaload, 1) := by decide +kernel
theorem d_Q_origin_19 : decode prog_6_method_36_code 19 = .ok (.if_icmp .ge 31, 3) := by decide +kernel
theorem d_Q_origin_22 : decode prog_6_method_36_code 22 = .ok (.iconst 4, 1) := by decide +kernel
theorem d_Q_origin_23 : decode prog_6_method_36_code 23 = .ok (.aload_n 0, 1) := by decide +kernel
theorem d_Q_origin_24 : decode prog_6_method_36_code 24 = .ok (.getfield 16, 3) := by decide +kernel
theorem d_Q_origin_27 : decode prog_6_method_36_code 27 = .ok (.bipush 24, 2) := by decide +kernel
theorem d_Q_origin_29 : decode prog_6_method_36_code 29 = .ok (.iload_n 1, 1) := by decide +kernel
theorem d_Q_origin_30 : decode prog_6_method_36_code 30 = .ok (.imul, 1) := by decide +kernel
theorem d_Q_origin_31 : decode prog_6_method_36_code 31 = .ok (.iload_n 2, 1) := by decide +kernel
theorem d_Q_origin_32 : decode prog_6_method_36_code 32 = .ok (.iadd, 1) := by decide +kernel
theorem d_Q_origin_33 : decode prog_6_method_36_code 33 = .ok (.iaload, 1) := by decide +kernel
theorem d_Q_origin_34 : decode prog_6_method_36_code 34 = .ok (.imul, 1) := by decide +kernel
theorem d_Q_origin_35 : decode prog_6_method_36_code 35 = .ok (.aload_n 0, 1) := by decide +kernel
theorem d_Q_origin_36 : decode prog_6_method_36_code 36 = .ok (.getfield 13, 3) := by decide +kernel
theorem d_Q_origin_39 : decode prog_6_method_36_code 39 = .ok (.bipush 24, 2) := by decide +kernel
theorem d_Q_origin_41 : decode prog_6_method_36_code 41 = .ok (.iload_n 1, 1) := by decide +kernel
theorem d_Q_origin_42 : decode prog_6_method_36_code 42 = .ok (.imul, 1) := by decide +kernel
theorem d_Q_origin_43 : decode prog_6_method_36_code 43 = .ok (.iload_n 2, 1) := by decide +kernel
theorem d_Q_origin_44 : decode prog_6_method_36_code 44 = .ok (.iadd, 1) := by decide +kernel
theorem d_Q_origin_45 : decode prog_6_method_36_code 45 = .ok (.iaload, 1) := by decide +kernel
theorem d_Q_origin_46 : decode prog_6_method_36_code 46 = .ok (.iadd, 1) := by decide +kernel
theorem d_Q_origin_47 : decode prog_6_method_36_code 47 = .ok (.goto 4, 3) := by decide +kernel
theorem d_Q_origin_50 : decode prog_6_method_36_code 50 = .ok (.iconst (-1), 1) := by decide +kernel
theorem d_Q_origin_51 : decode prog_6_method_36_code 51 = .ok (.ireturn, 1) := by decide +kernel
theorem b_Q_origin_0 {l : Launch} {D : va_G} {cid : Nat → ClassId} {X : CT} {Post : PT} (hX : OK l D cid m_Q_origin X Post) : SS l D cid m_Q_origin X 0 [o_aload 0, o_iload 1, o_callV l D cid m_Q_isReplica 4 1] (t_if (fun x => x = 0) (FR l D cid m_Q_origin X 50) (FR l D cid m_Q_origin X 8)) := by
  refine SS.cons (so_aload_n hX d_Q_origin_0 rfl) ?_
  refine SS.cons (so_iload_n hX d_Q_origin_1 rfl) ?_
  refine SS.cons (so_callV (M' := m_Q_isReplica) (T := T_Q) hX d_Q_origin_2 rfl k_678 k_675 k_677 k_42 k_48 pf_Q_isReplica (by decide) (by decide +kernel) ⟨by decide, by decide⟩) ?_
  exact st_if_eq hX d_Q_origin_5 (by decide)
theorem b_Q_origin_8 {l : Launch} {D : va_G} {cid : Nat → ClassId} {X : CT} {Post : PT} (hX : OK l D cid m_Q_origin X Post) : SS l D cid m_Q_origin X 8 [o_iload 2] (t_if (fun x => x < 0) (FR l D cid m_Q_origin X 50) (FR l D cid m_Q_origin X 12)) := by
  refine SS.cons (so_iload_n hX d_Q_origin_8 rfl) ?_
  exact st_if_lt hX d_Q_origin_9 (by decide)
theorem b_Q_origin_12 {l : Launch} {D : va_G} {cid : Nat → ClassId} {X : CT} {Post : PT} (hX : OK l D cid m_Q_origin X Post) : SS l D cid m_Q_origin X 12 [o_iload 2, o_aload 0, o_getf 4 2, o_iload 1, o_ald 0] (t_cmp (fun x y => y ≤ x) (FR l D cid m_Q_origin X 50) (FR l D cid m_Q_origin X 22)) := by
  refine SS.cons (so_iload_n hX d_Q_origin_12 rfl) ?_
  refine SS.cons (so_aload_n hX d_Q_origin_13 rfl) ?_
  refine SS.cons (so_getf (C := R_Q) (T := T_Q) hX d_Q_origin_14 in_Q rfl (by decide) k_487) ?_
  refine SS.cons (so_iload_n hX d_Q_origin_17 rfl) ?_
  refine SS.cons (so_iald hX d_Q_origin_18) ?_
  exact st_icmp_ge hX d_Q_origin_19 (by decide)
theorem b_Q_origin_22 {l : Launch} {D : va_G} {cid : Nat → ClassId} {X : CT} {Post : PT} (hX : OK l D cid m_Q_origin X Post) : SS l D cid m_Q_origin X 22 [o_push (.int 4), o_aload 0, o_getf 4 4, o_push (.int 24), o_iload 1, o_bin (fun x y => x * y), o_iload 2, o_bin (fun x y => x + y), o_ald 0, o_bin (fun x y => x * y), o_aload 0, o_getf 4 3, o_push (.int 24), o_iload 1, o_bin (fun x y => x * y), o_iload 2, o_bin (fun x y => x + y), o_ald 0, o_bin (fun x y => x + y)] (FR l D cid m_Q_origin X 51) := by
  refine SS.cons (so_iconst hX d_Q_origin_22 (by decide)) ?_
  refine SS.cons (so_aload_n hX d_Q_origin_23 rfl) ?_
  refine SS.cons (so_getf (C := R_Q) (T := T_Q) hX d_Q_origin_24 in_Q rfl (by decide) k_489) ?_
  refine SS.cons (so_bipush hX d_Q_origin_27 (by decide)) ?_
  refine SS.cons (so_iload_n hX d_Q_origin_29 rfl) ?_
  refine SS.cons (so_imul hX d_Q_origin_30) ?_
  refine SS.cons (so_iload_n hX d_Q_origin_31 rfl) ?_
  refine SS.cons (so_iadd hX d_Q_origin_32) ?_
  refine SS.cons (so_iald hX d_Q_origin_33) ?_
  refine SS.cons (so_imul hX d_Q_origin_34) ?_
  refine SS.cons (so_aload_n hX d_Q_origin_35 rfl) ?_
  refine SS.cons (so_getf (C := R_Q) (T := T_Q) hX d_Q_origin_36 in_Q rfl (by decide) k_488) ?_
  refine SS.cons (so_bipush hX d_Q_origin_39 (by decide)) ?_
  refine SS.cons (so_iload_n hX d_Q_origin_41 rfl) ?_
  refine SS.cons (so_imul hX d_Q_origin_42) ?_
  refine SS.cons (so_iload_n hX d_Q_origin_43 rfl) ?_
  refine SS.cons (so_iadd hX d_Q_origin_44) ?_
  refine SS.cons (so_iald hX d_Q_origin_45) ?_
  refine SS.cons (so_iadd hX d_Q_origin_46) ?_
  exact so_goto hX d_Q_origin_47 (by decide)
theorem b_Q_origin_50 {l : Launch} {D : va_G} {cid : Nat → ClassId} {X : CT} {Post : PT} (hX : OK l D cid m_Q_origin X Post) : SS l D cid m_Q_origin X 50 [o_push (.int (-1))] (FR l D cid m_Q_origin X 51) := by
  refine SS.cons (so_iconst hX d_Q_origin_50 (by decide)) ?_
  exact SS.fall
theorem b_Q_origin_51 {l : Launch} {D : va_G} {cid : Nat → ClassId} {X : CT} {Post : PT} (hX : OK l D cid m_Q_origin X Post) : SS l D cid m_Q_origin X 51 [] (t_iret Post) := by
  exact st_iret hX d_Q_origin_51 rfl
abbrev m_Q_total : MT := (⟨"GroupLogModel", "total", "(I)I"⟩, prog_6_method_37_code, 2, (some FieldType.int), { frames := 1, cells := 0, slots := 0, locals := 24 })
theorem pf_Q_total : plainFor m_Q_total.1 = true := by decide +kernel
theorem d_Q_total_0 : decode prog_6_method_37_code 0 = .ok (.aload_n 0, 1) := by decide +kernel
theorem d_Q_total_1 : decode prog_6_method_37_code 1 = .ok (.iload_n 1, 1) := by decide +kernel
theorem d_Q_total_2 : decode prog_6_method_37_code 2 = .ok (.invokevirtual 175, 3) := by decide +kernel
theorem d_Q_total_5 : decode prog_6_method_37_code 5 = .ok (.ifCond .eq 17, 3) := by decide +kernel
theorem d_Q_total_8 : decode prog_6_method_37_code 8 = .ok (.aload_n 0, 1) := by decide +kernel
theorem d_Q_total_9 : decode prog_6_method_37_code 9 = .ok (.iload_n 1, 1) := by decide +kernel
theorem d_Q_total_10 : decode prog_6_method_37_code 10 = .ok (.aload_n 0, 1) := by decide +kernel
theorem d_Q_total_11 : decode prog_6_method_37_code 11 = .ok (.getfield 31, 3) := by decide +kernel
theorem d_Q_total_14 : decode prog_6_method_37_code 14 = .ok (.iload_n 1, 1) := by decide +kernel
theorem d_Q_total_15 : decode prog_6_method_37_code 15 = .ok (.iaload, 1) := by decide +kernel
theorem d_Q_total_16 : decode prog_6_method_37_code 16 = .ok (.invokevirtual 105, 3) := by decide +kernel
theorem d_Q_total_19 : decode prog_6_method_37_code 19 = .ok (.goto 4, 3) := by decide +kernel
theorem d_Q_total_22 : decode prog_6_method_37_code 22 = .ok (.iconst 0, 1) := by decide +kernel
theorem d_Q_total_23 : decode prog_6_method_37_code 23 = .ok (.ireturn, 1) := by decide +kernel
theorem b_Q_total_0 {l : Launch} {D : va_G} {cid : Nat → ClassId} {X : CT} {Post : PT} (hX : OK l D cid m_Q_total X Post) : SS l D cid m_Q_total X 0 [o_aload 0, o_iload 1, o_callV l D cid m_Q_isReplica 4 1] (t_if (fun x => x = 0) (FR l D cid m_Q_total X 22) (FR l D cid m_Q_total X 8)) := by
  refine SS.cons (so_aload_n hX d_Q_total_0 rfl) ?_
  refine SS.cons (so_iload_n hX d_Q_total_1 rfl) ?_
  refine SS.cons (so_callV (M' := m_Q_isReplica) (T := T_Q) hX d_Q_total_2 rfl k_678 k_675 k_677 k_42 k_48 pf_Q_isReplica (by decide) (by decide +kernel) ⟨by decide, by decide⟩) ?_
  exact st_if_eq hX d_Q_total_5 (by decide)
theorem b_Q_total_8 {l : Launch} {D : va_G} {cid : Nat → ClassId} {X : CT} {Post : PT} (hX : OK l D cid m_Q_total X Post) : SS l D cid m_Q_total X 8 [o_aload 0, o_iload 1, o_aload 0, o_getf 4 9, o_iload 1, o_ald 0, o_callV l D cid m_Q_sum 4 2] (FR l D cid m_Q_total X 23) := by
  refine SS.cons (so_aload_n hX d_Q_total_8 rfl) ?_
  refine SS.cons (so_iload_n hX d_Q_total_9 rfl) ?_
  refine SS.cons (so_aload_n hX d_Q_total_10 rfl) ?_
  refine SS.cons (so_getf (C := R_Q) (T := T_Q) hX d_Q_total_11 in_Q rfl (by decide) k_494) ?_
  refine SS.cons (so_iload_n hX d_Q_total_14 rfl) ?_
  refine SS.cons (so_iald hX d_Q_total_15) ?_
  refine SS.cons (so_callV (M' := m_Q_sum) (T := T_Q) hX d_Q_total_16 rfl k_634 k_631 k_633 k_33 k_48 pf_Q_sum (by decide) (by decide +kernel) ⟨by decide, by decide⟩) ?_
  exact so_goto hX d_Q_total_19 (by decide)
theorem b_Q_total_22 {l : Launch} {D : va_G} {cid : Nat → ClassId} {X : CT} {Post : PT} (hX : OK l D cid m_Q_total X Post) : SS l D cid m_Q_total X 22 [o_push (.int 0)] (FR l D cid m_Q_total X 23) := by
  refine SS.cons (so_iconst hX d_Q_total_22 (by decide)) ?_
  exact SS.fall
theorem b_Q_total_23 {l : Launch} {D : va_G} {cid : Nat → ClassId} {X : CT} {Post : PT} (hX : OK l D cid m_Q_total X Post) : SS l D cid m_Q_total X 23 [] (t_iret Post) := by
  exact st_iret hX d_Q_total_23 rfl
abbrev m_Q_vector : MT := (⟨"GroupLogModel", "vector", "(II)I"⟩, prog_6_method_38_code, 3, (some FieldType.int), { frames := 1, cells := 0, slots := 0, locals := 21 })
theorem pf_Q_vector : plainFor m_Q_vector.1 = true := by decide +kernel
theorem d_Q_vector_0 : decode prog_6_method_38_code 0 = .ok (.aload_n 0, 1) := by decide +kernel
theorem d_Q_vector_1 : decode prog_6_method_38_code 1 = .ok (.iload_n 1, 1) := by decide +kernel
theorem d_Q_vector_2 : decode prog_6_method_38_code 2 = .ok (.invokevirtual 175, 3) := by decide +kernel
theorem d_Q_vector_5 : decode prog_6_method_38_code 5 = .ok (.ifCond .eq 24, 3) := by decide +kernel
theorem d_Q_vector_8 : decode prog_6_method_38_code 8 = .ok (.aload_n 0, 1) := by decide +kernel
theorem d_Q_vector_9 : decode prog_6_method_38_code 9 = .ok (.iload_n 2, 1) := by decide +kernel
theorem d_Q_vector_10 : decode prog_6_method_38_code 10 = .ok (.invokevirtual 175, 3) := by decide +kernel
theorem d_Q_vector_13 : decode prog_6_method_38_code 13 = .ok (.ifCond .eq 16, 3) := by decide +kernel
theorem d_Q_vector_16 : decode prog_6_method_38_code 16 = .ok (.aload_n 0, 1) := by decide +kernel
theorem d_Q_vector_17 : decode prog_6_method_38_code 17 = .ok (.getfield 34, 3) := by decide +kernel
theorem d_Q_vector_20 : decode prog_6_method_38_code 20 = .ok (.iconst 5, 1) := by decide +kernel
theorem d_Q_vector_21 : decode prog_6_method_38_code 21 = .ok (.iload_n 1, 1) := by decide +kernel
theorem d_Q_vector_22 : decode prog_6_method_38_code 22 = .ok (.imul, 1) := by decide +kernel
theorem d_Q_vector_23 : decode prog_6_method_38_code 23 = .ok (.iload_n 2, 1) := by decide +kernel
theorem d_Q_vector_24 : decode prog_6_method_38_code 24 = .ok (.iadd, 1) := by decide +kernel
theorem d_Q_vector_25 : decode prog_6_method_38_code 25 = .ok (.iaload, 1) := by decide +kernel
theorem d_Q_vector_26 : decode prog_6_method_38_code 26 = .ok (.goto 4, 3) := by decide +kernel
theorem d_Q_vector_29 : decode prog_6_method_38_code 29 = .ok (.iconst (-1), 1) := by decide +kernel
theorem d_Q_vector_30 : decode prog_6_method_38_code 30 = .ok (.ireturn, 1) := by decide +kernel
theorem b_Q_vector_0 {l : Launch} {D : va_G} {cid : Nat → ClassId} {X : CT} {Post : PT} (hX : OK l D cid m_Q_vector X Post) : SS l D cid m_Q_vector X 0 [o_aload 0, o_iload 1, o_callV l D cid m_Q_isReplica 4 1] (t_if (fun x => x = 0) (FR l D cid m_Q_vector X 29) (FR l D cid m_Q_vector X 8)) := by
  refine SS.cons (so_aload_n hX d_Q_vector_0 rfl) ?_
  refine SS.cons (so_iload_n hX d_Q_vector_1 rfl) ?_
  refine SS.cons (so_callV (M' := m_Q_isReplica) (T := T_Q) hX d_Q_vector_2 rfl k_678 k_675 k_677 k_42 k_48 pf_Q_isReplica (by decide) (by decide +kernel) ⟨by decide, by decide⟩) ?_
  exact st_if_eq hX d_Q_vector_5 (by decide)
theorem b_Q_vector_8 {l : Launch} {D : va_G} {cid : Nat → ClassId} {X : CT} {Post : PT} (hX : OK l D cid m_Q_vector X Post) : SS l D cid m_Q_vector X 8 [o_aload 0, o_iload 2, o_callV l D cid m_Q_isReplica 4 1] (t_if (fun x => x = 0) (FR l D cid m_Q_vector X 29) (FR l D cid m_Q_vector X 16)) := by
  refine SS.cons (so_aload_n hX d_Q_vector_8 rfl) ?_
  refine SS.cons (so_iload_n hX d_Q_vector_9 rfl) ?_
  refine SS.cons (so_callV (M' := m_Q_isReplica) (T := T_Q) hX d_Q_vector_10 rfl k_678 k_675 k_677 k_42 k_48 pf_Q_isReplica (by decide) (by decide +kernel) ⟨by decide, by decide⟩) ?_
  exact st_if_eq hX d_Q_vector_13 (by decide)
theorem b_Q_vector_16 {l : Launch} {D : va_G} {cid : Nat → ClassId} {X : CT} {Post : PT} (hX : OK l D cid m_Q_vector X Post) : SS l D cid m_Q_vector X 16 [o_aload 0, o_getf 4 10, o_push (.int 5), o_iload 1, o_bin (fun x y => x * y), o_iload 2, o_bin (fun x y => x + y), o_ald 0] (FR l D cid m_Q_vector X 30) := by
  refine SS.cons (so_aload_n hX d_Q_vector_16 rfl) ?_
  refine SS.cons (so_getf (C := R_Q) (T := T_Q) hX d_Q_vector_17 in_Q rfl (by decide) k_495) ?_
  refine SS.cons (so_iconst hX d_Q_vector_20 (by decide)) ?_
  refine SS.cons (so_iload_n hX d_Q_vector_21 rfl) ?_
  refine SS.cons (so_imul hX d_Q_vector_22) ?_
  refine SS.cons (so_iload_n hX d_Q_vector_23 rfl) ?_
  refine SS.cons (so_iadd hX d_Q_vector_24) ?_
  refine SS.cons (so_iald hX d_Q_vector_25) ?_
  exact so_goto hX d_Q_vector_26 (by decide)
theorem b_Q_vector_29 {l : Launch} {D : va_G} {cid : Nat → ClassId} {X : CT} {Post : PT} (hX : OK l D cid m_Q_vector X Post) : SS l D cid m_Q_vector X 29 [o_push (.int (-1))] (FR l D cid m_Q_vector X 30) := by
  refine SS.cons (so_iconst hX d_Q_vector_29 (by decide)) ?_
  exact SS.fall
theorem b_Q_vector_30 {l : Launch} {D : va_G} {cid : Nat → ClassId} {X : CT} {Post : PT} (hX : OK l D cid m_Q_vector X Post) : SS l D cid m_Q_vector X 30 [] (t_iret Post) := by
  exact st_iret hX d_Q_vector_30 rfl
abbrev m_Q_sent : MT := (⟨"GroupLogModel", "sent", "()I"⟩, prog_6_method_39_code, 1, (some FieldType.int), { frames := 0, cells := 0, slots := 0, locals := 0 })
theorem pf_Q_sent : plainFor m_Q_sent.1 = true := by decide +kernel
theorem d_Q_sent_0 : decode prog_6_method_39_code 0 = .ok (.aload_n 0, 1) := by decide +kernel
theorem d_Q_sent_1 : decode prog_6_method_39_code 1 = .ok (.getfield 113, 3) := by decide +kernel
theorem d_Q_sent_4 : decode prog_6_method_39_code 4 = .ok (.ireturn, 1) := by decide +kernel
theorem b_Q_sent_0 {l : Launch} {D : va_G} {cid : Nat → ClassId} {X : CT} {Post : PT} (hX : OK l D cid m_Q_sent X Post) : SS l D cid m_Q_sent X 0 [o_aload 0, o_getf 4 28] (t_iret Post) := by
  refine SS.cons (so_aload_n hX d_Q_sent_0 rfl) ?_
  refine SS.cons (so_getf (C := R_Q) (T := T_Q) hX d_Q_sent_1 in_Q rfl (by decide) k_513) ?_
  exact st_iret hX d_Q_sent_4 rfl
abbrev m_Q_message : MT := (⟨"GroupLogModel", "message", "(I)I"⟩, prog_6_method_40_code, 3, (some FieldType.int), { frames := 1, cells := 0, slots := 0, locals := 21 })
theorem pf_Q_message : plainFor m_Q_message.1 = true := by decide +kernel
theorem d_Q_message_0 : decode prog_6_method_40_code 0 = .ok (.aload_n 0, 1) := by decide +kernel
theorem d_Q_message_1 : decode prog_6_method_40_code 1 = .ok (.iload_n 1, 1) := by decide +kernel
theorem d_Q_message_2 : decode prog_6_method_40_code 2 = .ok (.invokevirtual 127, 3) := by decide +kernel
theorem d_Q_message_5 : decode prog_6_method_40_code 5 = .ok (.ifCond .ne 5, 3) := by decide +kernel
theorem d_Q_message_8 : decode prog_6_method_40_code 8 = .ok (.iconst (-1), 1) := by decide +kernel
theorem d_Q_message_9 : decode prog_6_method_40_code 9 = .ok (.ireturn, 1) := by decide +kernel
theorem d_Q_message_10 : decode prog_6_method_40_code 10 = .ok (.iload_n 1, 1) := by decide +kernel
theorem d_Q_message_11 : decode prog_6_method_40_code 11 = .ok (.bipush 63, 2) := by decide +kernel
theorem d_Q_message_13 : decode prog_6_method_40_code 13 = .ok (.iand, 1) := by decide +kernel
theorem d_Q_message_14 : decode prog_6_method_40_code 14 = .ok (.istore_n 2, 1) := by decide +kernel
theorem d_Q_message_15 : decode prog_6_method_40_code 15 = .ok (.aload_n 0, 1) := by decide +kernel
theorem d_Q_message_16 : decode prog_6_method_40_code 16 = .ok (.getfield 74, 3) := by decide +kernel
theorem d_Q_message_19 : decode prog_6_method_40_code 19 = .ok (.iload_n 2, 1) := by decide +kernel
theorem d_Q_message_20 : decode prog_6_method_40_code 20 = .ok (.iaload, 1) := by decide +kernel
theorem d_Q_message_21 : decode prog_6_method_40_code 21 = .ok (.bipush 16, 2) := by decide +kernel
theorem d_Q_message_23 : decode prog_6_method_40_code 23 = .ok (.aload_n 0, 1) := by decide +kernel
theorem d_Q_message_24 : decode prog_6_method_40_code 24 = .ok (.getfield 68, 3) := by decide +kernel
theorem d_Q_message_27 : decode prog_6_method_40_code 27 = .ok (.iload_n 2, 1) := by decide +kernel
theorem d_Q_message_28 : decode prog_6_method_40_code 28 = .ok (.iaload, 1) := by decide +kernel
theorem d_Q_message_29 : decode prog_6_method_40_code 29 = .ok (.imul, 1) := by decide +kernel
theorem d_Q_message_30 : decode prog_6_method_40_code 30 = .ok (.iadd, 1) := by decide +kernel
theorem d_Q_message_31 : decode prog_6_method_40_code 31 = .ok (.sipush 128, 3) := by decide +kernel
theorem d_Q_message_34 : decode prog_6_method_40_code 34 = .ok (.aload_n 0, 1) := by decide +kernel
theorem d_Q_message_35 : decode prog_6_method_40_code 35 = .ok (.getfield 71, 3) := by decide +kernel
theorem d_Q_message_38 : decode prog_6_method_40_code 38 = .ok (.iload_n 2, 1) := by decide +kernel
theorem d_Q_message_39 : decode prog_6_method_40_code 39 = .ok (.iaload, 1) := by decide +kernel
theorem d_Q_message_40 : decode prog_6_method_40_code 40 = .ok (.imul, 1) := by decide +kernel
theorem d_Q_message_41 : decode prog_6_method_40_code 41 = .ok (.iadd, 1) := by decide +kernel
theorem d_Q_message_42 : decode prog_6_method_40_code 42 = .ok (.sipush 1024, 3) := by decide +kernel
theorem d_Q_message_45 : decode prog_6_method_40_code 45 = .ok (.aload_n 0, 1) := by decide +kernel
theorem d_Q_message_46 : decode prog_6_method_40_code 46 = .ok (.getfield 77, 3) := by decide +kernel
theorem d_Q_message_49 : decode prog_6_method_40_code 49 = .ok (.iload_n 2, 1) := by decide +kernel
theorem d_Q_message_50 : decode prog_6_method_40_code 50 = .ok (.iaload, 1) := by decide +kernel
theorem d_Q_message_51 : decode prog_6_method_40_code 51 = .ok (.imul, 1) := by decide +kernel
theorem d_Q_message_52 : decode prog_6_method_40_code 52 = .ok (.iadd, 1) := by decide +kernel
theorem d_Q_message_53 : decode prog_6_method_40_code 53 = .ok (.ireturn, 1) := by decide +kernel
theorem b_Q_message_0 {l : Launch} {D : va_G} {cid : Nat → ClassId} {X : CT} {Post : PT} (hX : OK l D cid m_Q_message X Post) : SS l D cid m_Q_message X 0 [o_aload 0, o_iload 1, o_callV l D cid m_Q_there 4 1] (t_if (fun x => ¬ x = 0) (FR l D cid m_Q_message X 10) (FR l D cid m_Q_message X 8)) := by
  refine SS.cons (so_aload_n hX d_Q_message_0 rfl) ?_
  refine SS.cons (so_iload_n hX d_Q_message_1 rfl) ?_
  refine SS.cons (so_callV (M' := m_Q_there) (T := T_Q) hX d_Q_message_2 rfl k_590 k_587 k_589 k_22 k_48 pf_Q_there (by decide) (by decide +kernel) ⟨by decide, by decide⟩) ?_
  exact st_if_ne hX d_Q_message_5 (by decide)
theorem b_Q_message_8 {l : Launch} {D : va_G} {cid : Nat → ClassId} {X : CT} {Post : PT} (hX : OK l D cid m_Q_message X Post) : SS l D cid m_Q_message X 8 [o_push (.int (-1))] (t_iret Post) := by
  refine SS.cons (so_iconst hX d_Q_message_8 (by decide)) ?_
  exact st_iret hX d_Q_message_9 rfl
theorem b_Q_message_10 {l : Launch} {D : va_G} {cid : Nat → ClassId} {X : CT} {Post : PT} (hX : OK l D cid m_Q_message X Post) : SS l D cid m_Q_message X 10 [o_iload 1, o_push (.int 63), o_bin (fun x y => x &&& y), o_istore 2, o_aload 0, o_getf 4 23, o_iload 2, o_ald 0, o_push (.int 16), o_aload 0, o_getf 4 21, o_iload 2, o_ald 0, o_bin (fun x y => x * y), o_bin (fun x y => x + y), o_push (.int 128), o_aload 0, o_getf 4 22, o_iload 2, o_ald 0, o_bin (fun x y => x * y), o_bin (fun x y => x + y), o_push (.int 1024), o_aload 0, o_getf 4 24, o_iload 2, o_ald 0, o_bin (fun x y => x * y), o_bin (fun x y => x + y)] (t_iret Post) := by
  refine SS.cons (so_iload_n hX d_Q_message_10 rfl) ?_
  refine SS.cons (so_bipush hX d_Q_message_11 (by decide)) ?_
  refine SS.cons (so_iand hX d_Q_message_13) ?_
  refine SS.cons (so_istore_n hX d_Q_message_14 rfl (by decide)) ?_
  refine SS.cons (so_aload_n hX d_Q_message_15 rfl) ?_
  refine SS.cons (so_getf (C := R_Q) (T := T_Q) hX d_Q_message_16 in_Q rfl (by decide) k_508) ?_
  refine SS.cons (so_iload_n hX d_Q_message_19 rfl) ?_
  refine SS.cons (so_iald hX d_Q_message_20) ?_
  refine SS.cons (so_bipush hX d_Q_message_21 (by decide)) ?_
  refine SS.cons (so_aload_n hX d_Q_message_23 rfl) ?_
  refine SS.cons (so_getf (C := R_Q) (T := T_Q) hX d_Q_message_24 in_Q rfl (by decide) k_506) ?_
  refine SS.cons (so_iload_n hX d_Q_message_27 rfl) ?_
  refine SS.cons (so_iald hX d_Q_message_28) ?_
  refine SS.cons (so_imul hX d_Q_message_29) ?_
  refine SS.cons (so_iadd hX d_Q_message_30) ?_
  refine SS.cons (so_sipush hX d_Q_message_31 (by decide)) ?_
  refine SS.cons (so_aload_n hX d_Q_message_34 rfl) ?_
  refine SS.cons (so_getf (C := R_Q) (T := T_Q) hX d_Q_message_35 in_Q rfl (by decide) k_507) ?_
  refine SS.cons (so_iload_n hX d_Q_message_38 rfl) ?_
  refine SS.cons (so_iald hX d_Q_message_39) ?_
  refine SS.cons (so_imul hX d_Q_message_40) ?_
  refine SS.cons (so_iadd hX d_Q_message_41) ?_
  refine SS.cons (so_sipush hX d_Q_message_42 (by decide)) ?_
  refine SS.cons (so_aload_n hX d_Q_message_45 rfl) ?_
  refine SS.cons (so_getf (C := R_Q) (T := T_Q) hX d_Q_message_46 in_Q rfl (by decide) k_509) ?_
  refine SS.cons (so_iload_n hX d_Q_message_49 rfl) ?_
  refine SS.cons (so_iald hX d_Q_message_50) ?_
  refine SS.cons (so_imul hX d_Q_message_51) ?_
  refine SS.cons (so_iadd hX d_Q_message_52) ?_
  exact st_iret hX d_Q_message_53 rfl
abbrev m_Q_answered : MT := (⟨"GroupLogModel", "answered", "(I)I"⟩, prog_6_method_41_code, 2, (some FieldType.int), { frames := 0, cells := 0, slots := 0, locals := 0 })
theorem pf_Q_answered : plainFor m_Q_answered.1 = true := by decide +kernel
theorem d_Q_answered_0 : decode prog_6_method_41_code 0 = .ok (.iload_n 1, 1) := by decide +kernel
theorem d_Q_answered_1 : decode prog_6_method_41_code 1 = .ok (.ifCond .lt 17, 3) := by decide +kernel
theorem d_Q_answered_4 : decode prog_6_method_41_code 4 = .ok (.iload_n 1, 1) := by decide +kernel
theorem d_Q_answered_5 : decode prog_6_method_41_code 5 = .ok (.iconst 4, 1) := by decide +kernel
theorem d_Q_answered_6 : decode prog_6_method_41_code 6 = .ok (.if_icmp .ge 12, 3) := by decide +kernel
theorem d_Q_answered_9 : decode prog_6_method_41_code 9 = .ok (.aload_n 0, 1) := by decide +kernel
theorem d_Q_answered_10 : decode prog_6_method_41_code 10 = .ok (.getfield 93, 3) := by decide +kernel
theorem d_Q_answered_13 : decode prog_6_method_41_code 13 = .ok (.iload_n 1, 1) := by decide +kernel
theorem d_Q_answered_14 : decode prog_6_method_41_code 14 = .ok (.iaload, 1) := by decide +kernel
theorem d_Q_answered_15 : decode prog_6_method_41_code 15 = .ok (.goto 4, 3) := by decide +kernel
theorem d_Q_answered_18 : decode prog_6_method_41_code 18 = .ok (.iconst (-1), 1) := by decide +kernel
theorem d_Q_answered_19 : decode prog_6_method_41_code 19 = .ok (.ireturn, 1) := by decide +kernel
theorem b_Q_answered_0 {l : Launch} {D : va_G} {cid : Nat → ClassId} {X : CT} {Post : PT} (hX : OK l D cid m_Q_answered X Post) : SS l D cid m_Q_answered X 0 [o_iload 1] (t_if (fun x => x < 0) (FR l D cid m_Q_answered X 18) (FR l D cid m_Q_answered X 4)) := by
  refine SS.cons (so_iload_n hX d_Q_answered_0 rfl) ?_
  exact st_if_lt hX d_Q_answered_1 (by decide)
theorem b_Q_answered_4 {l : Launch} {D : va_G} {cid : Nat → ClassId} {X : CT} {Post : PT} (hX : OK l D cid m_Q_answered X Post) : SS l D cid m_Q_answered X 4 [o_iload 1, o_push (.int 4)] (t_cmp (fun x y => y ≤ x) (FR l D cid m_Q_answered X 18) (FR l D cid m_Q_answered X 9)) := by
  refine SS.cons (so_iload_n hX d_Q_answered_4 rfl) ?_
  refine SS.cons (so_iconst hX d_Q_answered_5 (by decide)) ?_
  exact st_icmp_ge hX d_Q_answered_6 (by decide)
theorem b_Q_answered_9 {l : Launch} {D : va_G} {cid : Nat → ClassId} {X : CT} {Post : PT} (hX : OK l D cid m_Q_answered X Post) : SS l D cid m_Q_answered X 9 [o_aload 0, o_getf 4 30, o_iload 1, o_ald 0] (FR l D cid m_Q_answered X 19) := by
  refine SS.cons (so_aload_n hX d_Q_answered_9 rfl) ?_
  refine SS.cons (so_getf (C := R_Q) (T := T_Q) hX d_Q_answered_10 in_Q rfl (by decide) k_515) ?_
  refine SS.cons (so_iload_n hX d_Q_answered_13 rfl) ?_
  refine SS.cons (so_iald hX d_Q_answered_14) ?_
  exact so_goto hX d_Q_answered_15 (by decide)
theorem b_Q_answered_18 {l : Launch} {D : va_G} {cid : Nat → ClassId} {X : CT} {Post : PT} (hX : OK l D cid m_Q_answered X Post) : SS l D cid m_Q_answered X 18 [o_push (.int (-1))] (FR l D cid m_Q_answered X 19) := by
  refine SS.cons (so_iconst hX d_Q_answered_18 (by decide)) ?_
  exact SS.fall
theorem b_Q_answered_19 {l : Launch} {D : va_G} {cid : Nat → ClassId} {X : CT} {Post : PT} (hX : OK l D cid m_Q_answered X Post) : SS l D cid m_Q_answered X 19 [] (t_iret Post) := by
  exact st_iret hX d_Q_answered_19 rfl
abbrev m_Q_answer : MT := (⟨"GroupLogModel", "answer", "(I)I"⟩, prog_6_method_42_code, 2, (some FieldType.int), { frames := 0, cells := 0, slots := 0, locals := 0 })
theorem pf_Q_answer : plainFor m_Q_answer.1 = true := by decide +kernel
theorem d_Q_answer_0 : decode prog_6_method_42_code 0 = .ok (.iload_n 1, 1) := by decide +kernel
theorem d_Q_answer_1 : decode prog_6_method_42_code 1 = .ok (.ifCond .lt 17, 3) := by decide +kernel
theorem d_Q_answer_4 : decode prog_6_method_42_code 4 = .ok (.iload_n 1, 1) := by decide +kernel
theorem d_Q_answer_5 : decode prog_6_method_42_code 5 = .ok (.iconst 4, 1) := by decide +kernel
theorem d_Q_answer_6 : decode prog_6_method_42_code 6 = .ok (.if_icmp .ge 12, 3) := by decide +kernel
theorem d_Q_answer_9 : decode prog_6_method_42_code 9 = .ok (.aload_n 0, 1) := by decide +kernel
theorem d_Q_answer_10 : decode prog_6_method_42_code 10 = .ok (.getfield 96, 3) := by decide +kernel
theorem d_Q_answer_13 : decode prog_6_method_42_code 13 = .ok (.iload_n 1, 1) := by decide +kernel
theorem d_Q_answer_14 : decode prog_6_method_42_code 14 = .ok (.iaload, 1) := by decide +kernel
theorem d_Q_answer_15 : decode prog_6_method_42_code 15 = .ok (.goto 4, 3) := by decide +kernel
theorem d_Q_answer_18 : decode prog_6_method_42_code 18 = .ok (.iconst 0, 1) := by decide +kernel
theorem d_Q_answer_19 : decode prog_6_method_42_code 19 = .ok (.ireturn, 1) := by decide +kernel
theorem b_Q_answer_0 {l : Launch} {D : va_G} {cid : Nat → ClassId} {X : CT} {Post : PT} (hX : OK l D cid m_Q_answer X Post) : SS l D cid m_Q_answer X 0 [o_iload 1] (t_if (fun x => x < 0) (FR l D cid m_Q_answer X 18) (FR l D cid m_Q_answer X 4)) := by
  refine SS.cons (so_iload_n hX d_Q_answer_0 rfl) ?_
  exact st_if_lt hX d_Q_answer_1 (by decide)
theorem b_Q_answer_4 {l : Launch} {D : va_G} {cid : Nat → ClassId} {X : CT} {Post : PT} (hX : OK l D cid m_Q_answer X Post) : SS l D cid m_Q_answer X 4 [o_iload 1, o_push (.int 4)] (t_cmp (fun x y => y ≤ x) (FR l D cid m_Q_answer X 18) (FR l D cid m_Q_answer X 9)) := by
  refine SS.cons (so_iload_n hX d_Q_answer_4 rfl) ?_
  refine SS.cons (so_iconst hX d_Q_answer_5 (by decide)) ?_
  exact st_icmp_ge hX d_Q_answer_6 (by decide)
theorem b_Q_answer_9 {l : Launch} {D : va_G} {cid : Nat → ClassId} {X : CT} {Post : PT} (hX : OK l D cid m_Q_answer X Post) : SS l D cid m_Q_answer X 9 [o_aload 0, o_getf 4 31, o_iload 1, o_ald 0] (FR l D cid m_Q_answer X 19) := by
  refine SS.cons (so_aload_n hX d_Q_answer_9 rfl) ?_
  refine SS.cons (so_getf (C := R_Q) (T := T_Q) hX d_Q_answer_10 in_Q rfl (by decide) k_516) ?_
  refine SS.cons (so_iload_n hX d_Q_answer_13 rfl) ?_
  refine SS.cons (so_iald hX d_Q_answer_14) ?_
  exact so_goto hX d_Q_answer_15 (by decide)
theorem b_Q_answer_18 {l : Launch} {D : va_G} {cid : Nat → ClassId} {X : CT} {Post : PT} (hX : OK l D cid m_Q_answer X Post) : SS l D cid m_Q_answer X 18 [o_push (.int 0)] (FR l D cid m_Q_answer X 19) := by
  refine SS.cons (so_iconst hX d_Q_answer_18 (by decide)) ?_
  exact SS.fall
theorem b_Q_answer_19 {l : Launch} {D : va_G} {cid : Nat → ClassId} {X : CT} {Post : PT} (hX : OK l D cid m_Q_answer X Post) : SS l D cid m_Q_answer X 19 [] (t_iret Post) := by
  exact st_iret hX d_Q_answer_19 rfl
