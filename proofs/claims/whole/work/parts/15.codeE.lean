abbrev m_E_init : MT := (⟨"GroupLog$Message", "<init>", "(LGroupLog$Replica;II)V"⟩, prog_3_method_1_code, 4, (none : Option FieldType), { frames := 1, cells := 0, slots := 0, locals := 20 })
theorem pf_E_init : plainFor m_E_init.1 = true := by decide +kernel
theorem d_E_init_0 : decode prog_3_method_1_code 0 = .ok (.aload_n 0, 1) := by decide +kernel
theorem d_E_init_1 : decode prog_3_method_1_code 1 = .ok (.invokespecial 1, 3) := by decide +kernel
theorem d_E_init_4 : decode prog_3_method_1_code 4 = .ok (.aload_n 0, 1) := by decide +kernel
theorem d_E_init_5 : decode prog_3_method_1_code 5 = .ok (.iload_n 2, 1) := by decide +kernel
theorem d_E_init_6 : decode prog_3_method_1_code 6 = .ok (.putfield 7, 3) := by decide +kernel
theorem d_E_init_9 : decode prog_3_method_1_code 9 = .ok (.aload_n 0, 1) := by decide +kernel
theorem d_E_init_10 : decode prog_3_method_1_code 10 = .ok (.aload_n 1, 1) := by decide +kernel
theorem d_E_init_11 : decode prog_3_method_1_code 11 = .ok (.getfield 13, 3) := by decide +kernel
theorem d_E_init_14 : decode prog_3_method_1_code 14 = .ok (.putfield 18, 3) := by decide +kernel
theorem d_E_init_17 : decode prog_3_method_1_code 17 = .ok (.aload_n 0, 1) := by decide +kernel
theorem d_E_init_18 : decode prog_3_method_1_code 18 = .ok (.iload_n 3, 1) := by decide +kernel
theorem d_E_init_19 : decode prog_3_method_1_code 19 = .ok (.putfield 21, 3) := by decide +kernel
theorem d_E_init_22 : decode prog_3_method_1_code 22 = .ok (.aload_n 0, 1) := by decide +kernel
theorem d_E_init_23 : decode prog_3_method_1_code 23 = .ok (.aload_n 1, 1) := by decide +kernel
theorem d_E_init_24 : decode prog_3_method_1_code 24 = .ok (.getfield 24, 3) := by decide +kernel
theorem d_E_init_27 : decode prog_3_method_1_code 27 = .ok (.putfield 27, 3) := by decide +kernel
theorem d_E_init_30 : decode prog_3_method_1_code 30 = .ok (.aload_n 0, 1) := by decide +kernel
theorem d_E_init_31 : decode prog_3_method_1_code 31 = .ok (.aload_n 1, 1) := by decide +kernel
theorem d_E_init_32 : decode prog_3_method_1_code 32 = .ok (.getfield 28, 3) := by decide +kernel
theorem d_E_init_35 : decode prog_3_method_1_code 35 = .ok (.putfield 31, 3) := by decide +kernel
theorem d_E_init_38 : decode prog_3_method_1_code 38 = .ok (.aload_n 0, 1) := by decide +kernel
theorem d_E_init_39 : decode prog_3_method_1_code 39 = .ok (.aload_n 1, 1) := by decide +kernel
theorem d_E_init_40 : decode prog_3_method_1_code 40 = .ok (.getfield 32, 3) := by decide +kernel
theorem d_E_init_43 : decode prog_3_method_1_code 43 = .ok (.putfield 36, 3) := by decide +kernel
theorem d_E_init_46 : decode prog_3_method_1_code 46 = .ok (.aload_n 0, 1) := by decide +kernel
theorem d_E_init_47 : decode prog_3_method_1_code 47 = .ok (.aload_n 1, 1) := by decide +kernel
theorem d_E_init_48 : decode prog_3_method_1_code 48 = .ok (.getfield 37, 3) := by decide +kernel
theorem d_E_init_51 : decode prog_3_method_1_code 51 = .ok (.putfield 41, 3) := by decide +kernel
theorem d_E_init_54 : decode prog_3_method_1_code 54 = .ok (.aload_n 0, 1) := by decide +kernel
theorem d_E_init_55 : decode prog_3_method_1_code 55 = .ok (.aload_n 1, 1) := by decide +kernel
theorem d_E_init_56 : decode prog_3_method_1_code 56 = .ok (.getfield 42, 3) := by decide +kernel
theorem d_E_init_59 : decode prog_3_method_1_code 59 = .ok (.putfield 45, 3) := by decide +kernel
theorem d_E_init_62 : decode prog_3_method_1_code 62 = .ok (.return_, 1) := by decide +kernel
theorem b_E_init_0 {l : Launch} {D : va_G} {cid : Nat → ClassId} {X : CT} {Post : PT} (hX : OK l D cid m_E_init X Post) : SS l D cid m_E_init X 0 [o_aload 0, o_obj, o_aload 0, o_iload 2, o_put okI 1 0, o_aload 0, o_aload 1, o_getf 2 0, o_put okI 1 1, o_aload 0, o_iload 3, o_put okI 1 2, o_aload 0, o_aload 1, o_getf 2 2, o_put okI 1 3, o_aload 0, o_aload 1, o_getf 2 3, o_put okI 1 4, o_aload 0, o_aload 1, o_getf 2 6, o_put okR 1 5, o_aload 0, o_aload 1, o_getf 2 4, o_put okR 1 6, o_aload 0, o_aload 1, o_getf 2 5, o_put okI 1 7] (t_ret Post) := by
  refine SS.cons (so_aload_n hX d_E_init_0 rfl) ?_
  refine SS.cons (so_obj hX d_E_init_1 k_241 k_57 k_58 (by decide) (by decide)) ?_
  refine SS.cons (so_aload_n hX d_E_init_4 rfl) ?_
  refine SS.cons (so_iload_n hX d_E_init_5 rfl) ?_
  refine SS.cons (so_putF (C := R_E) (T := T_E) ok_I hX d_E_init_6 in_E ty_E nm_E rfl (by decide) k_242 rfl rfl rfl rfl) ?_
  refine SS.cons (so_aload_n hX d_E_init_9 rfl) ?_
  refine SS.cons (so_aload_n hX d_E_init_10 rfl) ?_
  refine SS.cons (so_getf (C := R_P) (T := T_P) hX d_E_init_11 in_P rfl (by decide) k_101) ?_
  refine SS.cons (so_putF (C := R_E) (T := T_E) ok_I hX d_E_init_14 in_E ty_E nm_E rfl (by decide) k_244 rfl rfl rfl rfl) ?_
  refine SS.cons (so_aload_n hX d_E_init_17 rfl) ?_
  refine SS.cons (so_iload_n hX d_E_init_18 rfl) ?_
  refine SS.cons (so_putF (C := R_E) (T := T_E) ok_I hX d_E_init_19 in_E ty_E nm_E rfl (by decide) k_246 rfl rfl rfl rfl) ?_
  refine SS.cons (so_aload_n hX d_E_init_22 rfl) ?_
  refine SS.cons (so_aload_n hX d_E_init_23 rfl) ?_
  refine SS.cons (so_getf (C := R_P) (T := T_P) hX d_E_init_24 in_P rfl (by decide) k_107) ?_
  refine SS.cons (so_putF (C := R_E) (T := T_E) ok_I hX d_E_init_27 in_E ty_E nm_E rfl (by decide) k_248 rfl rfl rfl rfl) ?_
  refine SS.cons (so_aload_n hX d_E_init_30 rfl) ?_
  refine SS.cons (so_aload_n hX d_E_init_31 rfl) ?_
  refine SS.cons (so_getf (C := R_P) (T := T_P) hX d_E_init_32 in_P rfl (by decide) k_110) ?_
  refine SS.cons (so_putF (C := R_E) (T := T_E) ok_I hX d_E_init_35 in_E ty_E nm_E rfl (by decide) k_251 rfl rfl rfl rfl) ?_
  refine SS.cons (so_aload_n hX d_E_init_38 rfl) ?_
  refine SS.cons (so_aload_n hX d_E_init_39 rfl) ?_
  refine SS.cons (so_getf (C := R_P) (T := T_P) hX d_E_init_40 in_P rfl (by decide) k_117) ?_
  refine SS.cons (so_putF (C := R_E) (T := T_E) (ok_A _) hX d_E_init_43 in_E ty_E nm_E rfl (by decide) k_253 rfl rfl rfl rfl) ?_
  refine SS.cons (so_aload_n hX d_E_init_46 rfl) ?_
  refine SS.cons (so_aload_n hX d_E_init_47 rfl) ?_
  refine SS.cons (so_getf (C := R_P) (T := T_P) hX d_E_init_48 in_P rfl (by decide) k_112) ?_
  refine SS.cons (so_putF (C := R_E) (T := T_E) (ok_O _) hX d_E_init_51 in_E ty_E nm_E rfl (by decide) k_256 rfl rfl rfl rfl) ?_
  refine SS.cons (so_aload_n hX d_E_init_54 rfl) ?_
  refine SS.cons (so_aload_n hX d_E_init_55 rfl) ?_
  refine SS.cons (so_getf (C := R_P) (T := T_P) hX d_E_init_56 in_P rfl (by decide) k_115) ?_
  refine SS.cons (so_putF (C := R_E) (T := T_E) ok_I hX d_E_init_59 in_E ty_E nm_E rfl (by decide) k_259 rfl rfl rfl rfl) ?_
  exact st_ret hX d_E_init_62 rfl
