abbrev m_L_init : MT := (⟨"GroupLog$Log", "<init>", "()V"⟩, prog_2_method_1_code, 1, (none : Option FieldType), { frames := 1, cells := 0, slots := 0, locals := 20 })
theorem pf_L_init : plainFor m_L_init.1 = true := by decide +kernel
theorem d_L_init_0 : decode prog_2_method_1_code 0 = .ok (.aload_n 0, 1) := by decide +kernel
theorem d_L_init_1 : decode prog_2_method_1_code 1 = .ok (.invokespecial 1, 3) := by decide +kernel
theorem d_L_init_4 : decode prog_2_method_1_code 4 = .ok (.aload_n 0, 1) := by decide +kernel
theorem d_L_init_5 : decode prog_2_method_1_code 5 = .ok (.aconst_null, 1) := by decide +kernel
theorem d_L_init_6 : decode prog_2_method_1_code 6 = .ok (.putfield 7, 3) := by decide +kernel
theorem d_L_init_9 : decode prog_2_method_1_code 9 = .ok (.aload_n 0, 1) := by decide +kernel
theorem d_L_init_10 : decode prog_2_method_1_code 10 = .ok (.iconst 0, 1) := by decide +kernel
theorem d_L_init_11 : decode prog_2_method_1_code 11 = .ok (.putfield 13, 3) := by decide +kernel
theorem d_L_init_14 : decode prog_2_method_1_code 14 = .ok (.aload_n 0, 1) := by decide +kernel
theorem d_L_init_15 : decode prog_2_method_1_code 15 = .ok (.iconst 0, 1) := by decide +kernel
theorem d_L_init_16 : decode prog_2_method_1_code 16 = .ok (.putfield 17, 3) := by decide +kernel
theorem d_L_init_19 : decode prog_2_method_1_code 19 = .ok (.aload_n 0, 1) := by decide +kernel
theorem d_L_init_20 : decode prog_2_method_1_code 20 = .ok (.iconst 0, 1) := by decide +kernel
theorem d_L_init_21 : decode prog_2_method_1_code 21 = .ok (.putfield 20, 3) := by decide +kernel
theorem d_L_init_24 : decode prog_2_method_1_code 24 = .ok (.aload_n 0, 1) := by decide +kernel
theorem d_L_init_25 : decode prog_2_method_1_code 25 = .ok (.iconst 0, 1) := by decide +kernel
theorem d_L_init_26 : decode prog_2_method_1_code 26 = .ok (.putfield 23, 3) := by decide +kernel
theorem d_L_init_29 : decode prog_2_method_1_code 29 = .ok (.aload_n 0, 1) := by decide +kernel
theorem d_L_init_30 : decode prog_2_method_1_code 30 = .ok (.iconst 0, 1) := by decide +kernel
theorem d_L_init_31 : decode prog_2_method_1_code 31 = .ok (.putfield 26, 3) := by decide +kernel
theorem d_L_init_34 : decode prog_2_method_1_code 34 = .ok (.return_, 1) := by decide +kernel
theorem b_L_init_0 {l : Launch} {D : va_G} {cid : Nat → ClassId} {X : CT} {Post : PT} (hX : OK l D cid m_L_init X Post) : SS l D cid m_L_init X 0 [o_aload 0, o_obj, o_aload 0, o_push .null, o_put okR 0 0, o_aload 0, o_push (.int 0), o_put okI 0 1, o_aload 0, o_push (.int 0), o_put okI 0 2, o_aload 0, o_push (.int 0), o_put okI 0 3, o_aload 0, o_push (.int 0), o_put okI 0 4, o_aload 0, o_push (.int 0), o_put okI 0 5] (t_ret Post) := by
  refine SS.cons (so_aload_n hX d_L_init_0 rfl) ?_
  refine SS.cons (so_obj hX d_L_init_1 k_73 k_57 k_58 (by decide) (by decide)) ?_
  refine SS.cons (so_aload_n hX d_L_init_4 rfl) ?_
  refine SS.cons (so_null hX d_L_init_5) ?_
  refine SS.cons (so_putF (C := R_L) (T := T_L) (ok_O _) hX d_L_init_6 in_L ty_L nm_L rfl (by decide) k_74 rfl rfl rfl rfl) ?_
  refine SS.cons (so_aload_n hX d_L_init_9 rfl) ?_
  refine SS.cons (so_iconst hX d_L_init_10 (by decide)) ?_
  refine SS.cons (so_putF (C := R_L) (T := T_L) ok_I hX d_L_init_11 in_L ty_L nm_L rfl (by decide) k_75 rfl rfl rfl rfl) ?_
  refine SS.cons (so_aload_n hX d_L_init_14 rfl) ?_
  refine SS.cons (so_iconst hX d_L_init_15 (by decide)) ?_
  refine SS.cons (so_putF (C := R_L) (T := T_L) ok_I hX d_L_init_16 in_L ty_L nm_L rfl (by decide) k_78 rfl rfl rfl rfl) ?_
  refine SS.cons (so_aload_n hX d_L_init_19 rfl) ?_
  refine SS.cons (so_iconst hX d_L_init_20 (by decide)) ?_
  refine SS.cons (so_putF (C := R_L) (T := T_L) ok_I hX d_L_init_21 in_L ty_L nm_L rfl (by decide) k_80 rfl rfl rfl rfl) ?_
  refine SS.cons (so_aload_n hX d_L_init_24 rfl) ?_
  refine SS.cons (so_iconst hX d_L_init_25 (by decide)) ?_
  refine SS.cons (so_putF (C := R_L) (T := T_L) ok_I hX d_L_init_26 in_L ty_L nm_L rfl (by decide) k_82 rfl rfl rfl rfl) ?_
  refine SS.cons (so_aload_n hX d_L_init_29 rfl) ?_
  refine SS.cons (so_iconst hX d_L_init_30 (by decide)) ?_
  refine SS.cons (so_putF (C := R_L) (T := T_L) ok_I hX d_L_init_31 in_L ty_L nm_L rfl (by decide) k_84 rfl rfl rfl rfl) ?_
  exact st_ret hX d_L_init_34 rfl
abbrev m_L_init2 : MT := (⟨"GroupLog$Log", "<init>", "(LGroupLog$Log;III)V"⟩, prog_2_method_2_code, 5, (none : Option FieldType), { frames := 1, cells := 0, slots := 0, locals := 20 })
theorem pf_L_init2 : plainFor m_L_init2.1 = true := by decide +kernel
theorem d_L_init2_0 : decode prog_2_method_2_code 0 = .ok (.aload_n 0, 1) := by decide +kernel
theorem d_L_init2_1 : decode prog_2_method_2_code 1 = .ok (.invokespecial 1, 3) := by decide +kernel
theorem d_L_init2_4 : decode prog_2_method_2_code 4 = .ok (.aload_n 0, 1) := by decide +kernel
theorem d_L_init2_5 : decode prog_2_method_2_code 5 = .ok (.aload_n 1, 1) := by decide +kernel
theorem d_L_init2_6 : decode prog_2_method_2_code 6 = .ok (.putfield 7, 3) := by decide +kernel
theorem d_L_init2_9 : decode prog_2_method_2_code 9 = .ok (.aload_n 0, 1) := by decide +kernel
theorem d_L_init2_10 : decode prog_2_method_2_code 10 = .ok (.aload_n 1, 1) := by decide +kernel
theorem d_L_init2_11 : decode prog_2_method_2_code 11 = .ok (.getfield 13, 3) := by decide +kernel
theorem d_L_init2_14 : decode prog_2_method_2_code 14 = .ok (.iconst 1, 1) := by decide +kernel
theorem d_L_init2_15 : decode prog_2_method_2_code 15 = .ok (.iadd, 1) := by decide +kernel
theorem d_L_init2_16 : decode prog_2_method_2_code 16 = .ok (.putfield 13, 3) := by decide +kernel
theorem d_L_init2_19 : decode prog_2_method_2_code 19 = .ok (.aload_n 0, 1) := by decide +kernel
theorem d_L_init2_20 : decode prog_2_method_2_code 20 = .ok (.iload_n 2, 1) := by decide +kernel
theorem d_L_init2_21 : decode prog_2_method_2_code 21 = .ok (.putfield 17, 3) := by decide +kernel
theorem d_L_init2_24 : decode prog_2_method_2_code 24 = .ok (.aload_n 0, 1) := by decide +kernel
theorem d_L_init2_25 : decode prog_2_method_2_code 25 = .ok (.iload_n 3, 1) := by decide +kernel
theorem d_L_init2_26 : decode prog_2_method_2_code 26 = .ok (.putfield 20, 3) := by decide +kernel
theorem d_L_init2_29 : decode prog_2_method_2_code 29 = .ok (.aload_n 0, 1) := by decide +kernel
theorem d_L_init2_30 : decode prog_2_method_2_code 30 = .ok (.iload 4, 2) := by decide +kernel
theorem d_L_init2_32 : decode prog_2_method_2_code 32 = .ok (.putfield 23, 3) := by decide +kernel
theorem d_L_init2_35 : decode prog_2_method_2_code 35 = .ok (.aload_n 0, 1) := by decide +kernel
theorem d_L_init2_36 : decode prog_2_method_2_code 36 = .ok (.iconst 3, 1) := by decide +kernel
theorem d_L_init2_37 : decode prog_2_method_2_code 37 = .ok (.aload_n 1, 1) := by decide +kernel
theorem d_L_init2_38 : decode prog_2_method_2_code 38 = .ok (.getfield 26, 3) := by decide +kernel
theorem d_L_init2_41 : decode prog_2_method_2_code 41 = .ok (.imul, 1) := by decide +kernel
theorem d_L_init2_42 : decode prog_2_method_2_code 42 = .ok (.iload 4, 2) := by decide +kernel
theorem d_L_init2_44 : decode prog_2_method_2_code 44 = .ok (.iadd, 1) := by decide +kernel
theorem d_L_init2_45 : decode prog_2_method_2_code 45 = .ok (.iload_n 2, 1) := by decide +kernel
theorem d_L_init2_46 : decode prog_2_method_2_code 46 = .ok (.iadd, 1) := by decide +kernel
theorem d_L_init2_47 : decode prog_2_method_2_code 47 = .ok (.putfield 26, 3) := by decide +kernel
theorem d_L_init2_50 : decode prog_2_method_2_code 50 = .ok (.return_, 1) := by decide +kernel
theorem b_L_init2_0 {l : Launch} {D : va_G} {cid : Nat → ClassId} {X : CT} {Post : PT} (hX : OK l D cid m_L_init2 X Post) : SS l D cid m_L_init2 X 0 [o_aload 0, o_obj, o_aload 0, o_aload 1, o_put okR 0 0, o_aload 0, o_aload 1, o_getf 0 1, o_push (.int 1), o_bin (fun x y => x + y), o_put okI 0 1, o_aload 0, o_iload 2, o_put okI 0 2, o_aload 0, o_iload 3, o_put okI 0 3, o_aload 0, o_iload 4, o_put okI 0 4, o_aload 0, o_push (.int 3), o_aload 1, o_getf 0 5, o_bin (fun x y => x * y), o_iload 4, o_bin (fun x y => x + y), o_iload 2, o_bin (fun x y => x + y), o_put okI 0 5] (t_ret Post) := by
  refine SS.cons (so_aload_n hX d_L_init2_0 rfl) ?_
  refine SS.cons (so_obj hX d_L_init2_1 k_73 k_57 k_58 (by decide) (by decide)) ?_
  refine SS.cons (so_aload_n hX d_L_init2_4 rfl) ?_
  refine SS.cons (so_aload_n hX d_L_init2_5 rfl) ?_
  refine SS.cons (so_putF (C := R_L) (T := T_L) (ok_O _) hX d_L_init2_6 in_L ty_L nm_L rfl (by decide) k_74 rfl rfl rfl rfl) ?_
  refine SS.cons (so_aload_n hX d_L_init2_9 rfl) ?_
  refine SS.cons (so_aload_n hX d_L_init2_10 rfl) ?_
  refine SS.cons (so_getf (C := R_L) (T := T_L) hX d_L_init2_11 in_L rfl (by decide) k_75) ?_
  refine SS.cons (so_iconst hX d_L_init2_14 (by decide)) ?_
  refine SS.cons (so_iadd hX d_L_init2_15) ?_
  refine SS.cons (so_putF (C := R_L) (T := T_L) ok_I hX d_L_init2_16 in_L ty_L nm_L rfl (by decide) k_75 rfl rfl rfl rfl) ?_
  refine SS.cons (so_aload_n hX d_L_init2_19 rfl) ?_
  refine SS.cons (so_iload_n hX d_L_init2_20 rfl) ?_
  refine SS.cons (so_putF (C := R_L) (T := T_L) ok_I hX d_L_init2_21 in_L ty_L nm_L rfl (by decide) k_78 rfl rfl rfl rfl) ?_
  refine SS.cons (so_aload_n hX d_L_init2_24 rfl) ?_
  refine SS.cons (so_iload_n hX d_L_init2_25 rfl) ?_
  refine SS.cons (so_putF (C := R_L) (T := T_L) ok_I hX d_L_init2_26 in_L ty_L nm_L rfl (by decide) k_80 rfl rfl rfl rfl) ?_
  refine SS.cons (so_aload_n hX d_L_init2_29 rfl) ?_
  refine SS.cons (so_iload hX d_L_init2_30) ?_
  refine SS.cons (so_putF (C := R_L) (T := T_L) ok_I hX d_L_init2_32 in_L ty_L nm_L rfl (by decide) k_82 rfl rfl rfl rfl) ?_
  refine SS.cons (so_aload_n hX d_L_init2_35 rfl) ?_
  refine SS.cons (so_iconst hX d_L_init2_36 (by decide)) ?_
  refine SS.cons (so_aload_n hX d_L_init2_37 rfl) ?_
  refine SS.cons (so_getf (C := R_L) (T := T_L) hX d_L_init2_38 in_L rfl (by decide) k_84) ?_
  refine SS.cons (so_imul hX d_L_init2_41) ?_
  refine SS.cons (so_iload hX d_L_init2_42) ?_
  refine SS.cons (so_iadd hX d_L_init2_44) ?_
  refine SS.cons (so_iload_n hX d_L_init2_45 rfl) ?_
  refine SS.cons (so_iadd hX d_L_init2_46) ?_
  refine SS.cons (so_putF (C := R_L) (T := T_L) ok_I hX d_L_init2_47 in_L ty_L nm_L rfl (by decide) k_84 rfl rfl rfl rfl) ?_
  exact st_ret hX d_L_init2_50 rfl
abbrev m_L_firstEntries : MT := (⟨"GroupLog$Log", "firstEntries", "(I)LGroupLog$Log;"⟩, prog_2_method_3_code, 3, (some (FieldType.object "GroupLog$Log")), { frames := 0, cells := 0, slots := 0, locals := 0 })
theorem pf_L_firstEntries : plainFor m_L_firstEntries.1 = true := by decide +kernel
theorem d_L_firstEntries_0 : decode prog_2_method_3_code 0 = .ok (.aload_n 0, 1) := by decide +kernel
theorem d_L_firstEntries_1 : decode prog_2_method_3_code 1 = .ok (.astore_n 2, 1) := by decide +kernel
theorem d_L_firstEntries_2 : decode prog_2_method_3_code 2 = .ok (.aload_n 2, 1) := by decide +kernel
theorem d_L_firstEntries_3 : decode prog_2_method_3_code 3 = .ok (.getfield 7, 3) := by decide +kernel
theorem d_L_firstEntries_6 : decode prog_2_method_3_code 6 = .ok (.ifnull 19, 3) := by decide +kernel
theorem d_L_firstEntries_9 : decode prog_2_method_3_code 9 = .ok (.aload_n 2, 1) := by decide +kernel
theorem d_L_firstEntries_10 : decode prog_2_method_3_code 10 = .ok (.getfield 13, 3) := by decide +kernel
theorem d_L_firstEntries_13 : decode prog_2_method_3_code 13 = .ok (.iload_n 1, 1) := by decide +kernel
theorem d_L_firstEntries_14 : decode prog_2_method_3_code 14 = .ok (.if_icmp .le 11, 3) := by decide +kernel
theorem d_L_firstEntries_17 : decode prog_2_method_3_code 17 = .ok (.aload_n 2, 1) := by decide +kernel
theorem d_L_firstEntries_18 : decode prog_2_method_3_code 18 = .ok (.getfield 7, 3) := by decide +kernel
theorem d_L_firstEntries_21 : decode prog_2_method_3_code 21 = .ok (.astore_n 2, 1) := by decide +kernel
theorem d_L_firstEntries_22 : decode prog_2_method_3_code 22 = .ok (.goto (-20), 3) := by decide +kernel
theorem d_L_firstEntries_25 : decode prog_2_method_3_code 25 = .ok (.aload_n 2, 1) := by decide +kernel
theorem d_L_firstEntries_26 : decode prog_2_method_3_code 26 = .ok (.areturn, 1) := by decide +kernel
theorem b_L_firstEntries_0 {l : Launch} {D : va_G} {cid : Nat → ClassId} {X : CT} {Post : PT} (hX : OK l D cid m_L_firstEntries X Post) : SS l D cid m_L_firstEntries X 0 [o_aload 0, o_astore 2] (FR l D cid m_L_firstEntries X 2) := by
  refine SS.cons (so_aload_n hX d_L_firstEntries_0 rfl) ?_
  refine SS.cons (so_astore_n hX d_L_firstEntries_1 rfl (by decide)) ?_
  exact SS.fall
theorem b_L_firstEntries_2 {l : Launch} {D : va_G} {cid : Nat → ClassId} {X : CT} {Post : PT} (hX : OK l D cid m_L_firstEntries X Post) : SS l D cid m_L_firstEntries X 2 [o_aload 2, o_getf 0 0] (t_null (FR l D cid m_L_firstEntries X 25) (FR l D cid m_L_firstEntries X 9)) := by
  refine SS.cons (so_aload_n hX d_L_firstEntries_2 rfl) ?_
  refine SS.cons (so_getf (C := R_L) (T := T_L) hX d_L_firstEntries_3 in_L rfl (by decide) k_74) ?_
  exact st_ifnull hX d_L_firstEntries_6 (by decide)
theorem b_L_firstEntries_9 {l : Launch} {D : va_G} {cid : Nat → ClassId} {X : CT} {Post : PT} (hX : OK l D cid m_L_firstEntries X Post) : SS l D cid m_L_firstEntries X 9 [o_aload 2, o_getf 0 1, o_iload 1] (t_cmp (fun x y => x ≤ y) (FR l D cid m_L_firstEntries X 25) (FR l D cid m_L_firstEntries X 17)) := by
  refine SS.cons (so_aload_n hX d_L_firstEntries_9 rfl) ?_
  refine SS.cons (so_getf (C := R_L) (T := T_L) hX d_L_firstEntries_10 in_L rfl (by decide) k_75) ?_
  refine SS.cons (so_iload_n hX d_L_firstEntries_13 rfl) ?_
  exact st_icmp_le hX d_L_firstEntries_14 (by decide)
theorem b_L_firstEntries_17 {l : Launch} {D : va_G} {cid : Nat → ClassId} {X : CT} {Post : PT} (hX : OK l D cid m_L_firstEntries X Post) : SS l D cid m_L_firstEntries X 17 [o_aload 2, o_getf 0 0, o_astore 2] (FR l D cid m_L_firstEntries X 2) := by
  refine SS.cons (so_aload_n hX d_L_firstEntries_17 rfl) ?_
  refine SS.cons (so_getf (C := R_L) (T := T_L) hX d_L_firstEntries_18 in_L rfl (by decide) k_74) ?_
  refine SS.cons (so_astore_n hX d_L_firstEntries_21 rfl (by decide)) ?_
  exact so_goto hX d_L_firstEntries_22 (by decide)
theorem b_L_firstEntries_25 {l : Launch} {D : va_G} {cid : Nat → ClassId} {X : CT} {Post : PT} (hX : OK l D cid m_L_firstEntries X Post) : SS l D cid m_L_firstEntries X 25 [o_aload 2] (t_aret Post) := by
  refine SS.cons (so_aload_n hX d_L_firstEntries_25 rfl) ?_
  exact st_aret hX d_L_firstEntries_26 rfl
abbrev m_L_greatestNumber : MT := (⟨"GroupLog$Log", "greatestNumber", "(I)I"⟩, prog_2_method_4_code, 4, (some FieldType.int), { frames := 1, cells := 0, slots := 0, locals := 21 })
theorem pf_L_greatestNumber : plainFor m_L_greatestNumber.1 = true := by decide +kernel
theorem d_L_greatestNumber_0 : decode prog_2_method_4_code 0 = .ok (.iconst 0, 1) := by decide +kernel
theorem d_L_greatestNumber_1 : decode prog_2_method_4_code 1 = .ok (.istore_n 2, 1) := by decide +kernel
theorem d_L_greatestNumber_2 : decode prog_2_method_4_code 2 = .ok (.aload_n 0, 1) := by decide +kernel
theorem d_L_greatestNumber_3 : decode prog_2_method_4_code 3 = .ok (.astore_n 3, 1) := by decide +kernel
theorem d_L_greatestNumber_4 : decode prog_2_method_4_code 4 = .ok (.aload_n 3, 1) := by decide +kernel
theorem d_L_greatestNumber_5 : decode prog_2_method_4_code 5 = .ok (.ifnull 28, 3) := by decide +kernel
theorem d_L_greatestNumber_8 : decode prog_2_method_4_code 8 = .ok (.aload_n 3, 1) := by decide +kernel
theorem d_L_greatestNumber_9 : decode prog_2_method_4_code 9 = .ok (.getfield 17, 3) := by decide +kernel
theorem d_L_greatestNumber_12 : decode prog_2_method_4_code 12 = .ok (.iload_n 1, 1) := by decide +kernel
theorem d_L_greatestNumber_13 : decode prog_2_method_4_code 13 = .ok (.if_icmp .ne 12, 3) := by decide +kernel
theorem d_L_greatestNumber_16 : decode prog_2_method_4_code 16 = .ok (.iload_n 2, 1) := by decide +kernel
theorem d_L_greatestNumber_17 : decode prog_2_method_4_code 17 = .ok (.aload_n 3, 1) := by decide +kernel
theorem d_L_greatestNumber_18 : decode prog_2_method_4_code 18 = .ok (.getfield 20, 3) := by decide +kernel
theorem d_L_greatestNumber_21 : decode prog_2_method_4_code 21 = .ok (.invokestatic 29, 3) := by decide +kernel
theorem d_L_greatestNumber_24 : decode prog_2_method_4_code 24 = .ok (.istore_n 2, 1) := by decide +kernel
theorem d_L_greatestNumber_25 : decode prog_2_method_4_code 25 = .ok (.aload_n 3, 1) := by decide +kernel
theorem d_L_greatestNumber_26 : decode prog_2_method_4_code 26 = .ok (.getfield 7, 3) := by decide +kernel
theorem d_L_greatestNumber_29 : decode prog_2_method_4_code 29 = .ok (.astore_n 3, 1) := by decide +kernel
theorem d_L_greatestNumber_30 : decode prog_2_method_4_code 30 = .ok (.goto (-26), 3) := by decide +kernel
theorem d_L_greatestNumber_33 : decode prog_2_method_4_code 33 = .ok (.iload_n 2, 1) := by decide +kernel
theorem d_L_greatestNumber_34 : decode prog_2_method_4_code 34 = .ok (.ireturn, 1) := by decide +kernel
theorem b_L_greatestNumber_0 {l : Launch} {D : va_G} {cid : Nat → ClassId} {X : CT} {Post : PT} (hX : OK l D cid m_L_greatestNumber X Post) : SS l D cid m_L_greatestNumber X 0 [o_push (.int 0), o_istore 2, o_aload 0, o_astore 3] (FR l D cid m_L_greatestNumber X 4) := by
  refine SS.cons (so_iconst hX d_L_greatestNumber_0 (by decide)) ?_
  refine SS.cons (so_istore_n hX d_L_greatestNumber_1 rfl (by decide)) ?_
  refine SS.cons (so_aload_n hX d_L_greatestNumber_2 rfl) ?_
  refine SS.cons (so_astore_n hX d_L_greatestNumber_3 rfl (by decide)) ?_
  exact SS.fall
theorem b_L_greatestNumber_4 {l : Launch} {D : va_G} {cid : Nat → ClassId} {X : CT} {Post : PT} (hX : OK l D cid m_L_greatestNumber X Post) : SS l D cid m_L_greatestNumber X 4 [o_aload 3] (t_null (FR l D cid m_L_greatestNumber X 33) (FR l D cid m_L_greatestNumber X 8)) := by
  refine SS.cons (so_aload_n hX d_L_greatestNumber_4 rfl) ?_
  exact st_ifnull hX d_L_greatestNumber_5 (by decide)
theorem b_L_greatestNumber_8 {l : Launch} {D : va_G} {cid : Nat → ClassId} {X : CT} {Post : PT} (hX : OK l D cid m_L_greatestNumber X Post) : SS l D cid m_L_greatestNumber X 8 [o_aload 3, o_getf 0 2, o_iload 1] (t_cmp (fun x y => ¬ x = y) (FR l D cid m_L_greatestNumber X 25) (FR l D cid m_L_greatestNumber X 16)) := by
  refine SS.cons (so_aload_n hX d_L_greatestNumber_8 rfl) ?_
  refine SS.cons (so_getf (C := R_L) (T := T_L) hX d_L_greatestNumber_9 in_L rfl (by decide) k_78) ?_
  refine SS.cons (so_iload_n hX d_L_greatestNumber_12 rfl) ?_
  exact st_icmp_ne hX d_L_greatestNumber_13 (by decide)
theorem b_L_greatestNumber_16 {l : Launch} {D : va_G} {cid : Nat → ClassId} {X : CT} {Post : PT} (hX : OK l D cid m_L_greatestNumber X Post) : SS l D cid m_L_greatestNumber X 16 [o_iload 2, o_aload 3, o_getf 0 3, o_callS l D cid m_J_max 2, o_istore 2] (FR l D cid m_L_greatestNumber X 25) := by
  refine SS.cons (so_iload_n hX d_L_greatestNumber_16 rfl) ?_
  refine SS.cons (so_aload_n hX d_L_greatestNumber_17 rfl) ?_
  refine SS.cons (so_getf (C := R_L) (T := T_L) hX d_L_greatestNumber_18 in_L rfl (by decide) k_80) ?_
  refine SS.cons (so_callS (M' := m_J_max) hX d_L_greatestNumber_21 k_212 k_210 k_211 k_49 pf_J_max (by decide) (by decide +kernel) ⟨by decide, by decide⟩) ?_
  refine SS.cons (so_istore_n hX d_L_greatestNumber_24 rfl (by decide)) ?_
  exact SS.fall
theorem b_L_greatestNumber_25 {l : Launch} {D : va_G} {cid : Nat → ClassId} {X : CT} {Post : PT} (hX : OK l D cid m_L_greatestNumber X Post) : SS l D cid m_L_greatestNumber X 25 [o_aload 3, o_getf 0 0, o_astore 3] (FR l D cid m_L_greatestNumber X 4) := by
  refine SS.cons (so_aload_n hX d_L_greatestNumber_25 rfl) ?_
  refine SS.cons (so_getf (C := R_L) (T := T_L) hX d_L_greatestNumber_26 in_L rfl (by decide) k_74) ?_
  refine SS.cons (so_astore_n hX d_L_greatestNumber_29 rfl (by decide)) ?_
  exact so_goto hX d_L_greatestNumber_30 (by decide)
theorem b_L_greatestNumber_33 {l : Launch} {D : va_G} {cid : Nat → ClassId} {X : CT} {Post : PT} (hX : OK l D cid m_L_greatestNumber X Post) : SS l D cid m_L_greatestNumber X 33 [o_iload 2] (t_iret Post) := by
  refine SS.cons (so_iload_n hX d_L_greatestNumber_33 rfl) ?_
  exact st_iret hX d_L_greatestNumber_34 rfl
abbrev m_L_find : MT := (⟨"GroupLog$Log", "find", "(II)LGroupLog$Log;"⟩, prog_2_method_5_code, 4, (some (FieldType.object "GroupLog$Log")), { frames := 0, cells := 0, slots := 0, locals := 0 })
theorem pf_L_find : plainFor m_L_find.1 = true := by decide +kernel
theorem d_L_find_0 : decode prog_2_method_5_code 0 = .ok (.aload_n 0, 1) := by decide +kernel
theorem d_L_find_1 : decode prog_2_method_5_code 1 = .ok (.astore_n 3, 1) := by decide +kernel
theorem d_L_find_2 : decode prog_2_method_5_code 2 = .ok (.aload_n 3, 1) := by decide +kernel
theorem d_L_find_3 : decode prog_2_method_5_code 3 = .ok (.ifnull 29, 3) := by decide +kernel
theorem d_L_find_6 : decode prog_2_method_5_code 6 = .ok (.aload_n 3, 1) := by decide +kernel
theorem d_L_find_7 : decode prog_2_method_5_code 7 = .ok (.getfield 17, 3) := by decide +kernel
theorem d_L_find_10 : decode prog_2_method_5_code 10 = .ok (.iload_n 1, 1) := by decide +kernel
theorem d_L_find_11 : decode prog_2_method_5_code 11 = .ok (.if_icmp .ne 13, 3) := by decide +kernel
theorem d_L_find_14 : decode prog_2_method_5_code 14 = .ok (.aload_n 3, 1) := by decide +kernel
theorem d_L_find_15 : decode prog_2_method_5_code 15 = .ok (.getfield 20, 3) := by decide +kernel
theorem d_L_find_18 : decode prog_2_method_5_code 18 = .ok (.iload_n 2, 1) := by decide +kernel
theorem d_L_find_19 : decode prog_2_method_5_code 19 = .ok (.if_icmp .ne 5, 3) := by decide +kernel
theorem d_L_find_22 : decode prog_2_method_5_code 22 = .ok (.aload_n 3, 1) := by decide +kernel
theorem d_L_find_23 : decode prog_2_method_5_code 23 = .ok (.areturn, 1) := by decide +kernel
theorem d_L_find_24 : decode prog_2_method_5_code 24 = .ok (.aload_n 3, 1) := by decide +kernel
theorem d_L_find_25 : decode prog_2_method_5_code 25 = .ok (.getfield 7, 3) := by decide +kernel
theorem d_L_find_28 : decode prog_2_method_5_code 28 = .ok (.astore_n 3, 1) := by decide +kernel
theorem d_L_find_29 : decode prog_2_method_5_code 29 = .ok (.goto (-27), 3) := by decide +kernel
theorem d_L_find_32 : decode prog_2_method_5_code 32 = .ok (.aconst_null, 1) := by decide +kernel
theorem d_L_find_33 : decode prog_2_method_5_code 33 = .ok (.areturn, 1) := by decide +kernel
theorem b_L_find_0 {l : Launch} {D : va_G} {cid : Nat → ClassId} {X : CT} {Post : PT} (hX : OK l D cid m_L_find X Post) : SS l D cid m_L_find X 0 [o_aload 0, o_astore 3] (FR l D cid m_L_find X 2) := by
  refine SS.cons (so_aload_n hX d_L_find_0 rfl) ?_
  refine SS.cons (so_astore_n hX d_L_find_1 rfl (by decide)) ?_
  exact SS.fall
theorem b_L_find_2 {l : Launch} {D : va_G} {cid : Nat → ClassId} {X : CT} {Post : PT} (hX : OK l D cid m_L_find X Post) : SS l D cid m_L_find X 2 [o_aload 3] (t_null (FR l D cid m_L_find X 32) (FR l D cid m_L_find X 6)) := by
  refine SS.cons (so_aload_n hX d_L_find_2 rfl) ?_
  exact st_ifnull hX d_L_find_3 (by decide)
theorem b_L_find_6 {l : Launch} {D : va_G} {cid : Nat → ClassId} {X : CT} {Post : PT} (hX : OK l D cid m_L_find X Post) : SS l D cid m_L_find X 6 [o_aload 3, o_getf 0 2, o_iload 1] (t_cmp (fun x y => ¬ x = y) (FR l D cid m_L_find X 24) (FR l D cid m_L_find X 14)) := by
  refine SS.cons (so_aload_n hX d_L_find_6 rfl) ?_
  refine SS.cons (so_getf (C := R_L) (T := T_L) hX d_L_find_7 in_L rfl (by decide) k_78) ?_
  refine SS.cons (so_iload_n hX d_L_find_10 rfl) ?_
  exact st_icmp_ne hX d_L_find_11 (by decide)
theorem b_L_find_14 {l : Launch} {D : va_G} {cid : Nat → ClassId} {X : CT} {Post : PT} (hX : OK l D cid m_L_find X Post) : SS l D cid m_L_find X 14 [o_aload 3, o_getf 0 3, o_iload 2] (t_cmp (fun x y => ¬ x = y) (FR l D cid m_L_find X 24) (FR l D cid m_L_find X 22)) := by
  refine SS.cons (so_aload_n hX d_L_find_14 rfl) ?_
  refine SS.cons (so_getf (C := R_L) (T := T_L) hX d_L_find_15 in_L rfl (by decide) k_80) ?_
  refine SS.cons (so_iload_n hX d_L_find_18 rfl) ?_
  exact st_icmp_ne hX d_L_find_19 (by decide)
theorem b_L_find_22 {l : Launch} {D : va_G} {cid : Nat → ClassId} {X : CT} {Post : PT} (hX : OK l D cid m_L_find X Post) : SS l D cid m_L_find X 22 [o_aload 3] (t_aret Post) := by
  refine SS.cons (so_aload_n hX d_L_find_22 rfl) ?_
  exact st_aret hX d_L_find_23 rfl
theorem b_L_find_24 {l : Launch} {D : va_G} {cid : Nat → ClassId} {X : CT} {Post : PT} (hX : OK l D cid m_L_find X Post) : SS l D cid m_L_find X 24 [o_aload 3, o_getf 0 0, o_astore 3] (FR l D cid m_L_find X 2) := by
  refine SS.cons (so_aload_n hX d_L_find_24 rfl) ?_
  refine SS.cons (so_getf (C := R_L) (T := T_L) hX d_L_find_25 in_L rfl (by decide) k_74) ?_
  refine SS.cons (so_astore_n hX d_L_find_28 rfl (by decide)) ?_
  exact so_goto hX d_L_find_29 (by decide)
theorem b_L_find_32 {l : Launch} {D : va_G} {cid : Nat → ClassId} {X : CT} {Post : PT} (hX : OK l D cid m_L_find X Post) : SS l D cid m_L_find X 32 [o_push .null] (t_aret Post) := by
  refine SS.cons (so_null hX d_L_find_32) ?_
  exact st_aret hX d_L_find_33 rfl
