abbrev m_P_init : MT := (⟨"GroupLog$Replica", "<init>", "(II)V"⟩, prog_4_method_1_code, 3, (none : Option FieldType), { frames := 2, cells := 6, slots := 326, locals := 40 })
theorem pf_P_init : plainFor m_P_init.1 = true := by decide +kernel
theorem d_P_init_0 : decode prog_4_method_1_code 0 = .ok (.aload_n 0, 1) := by decide +kernel
theorem d_P_init_1 : decode prog_4_method_1_code 1 = .ok (.invokespecial 3, 3) := by decide +kernel
theorem d_P_init_4 : decode prog_4_method_1_code 4 = .ok (.aload_n 0, 1) := by decide +kernel
theorem d_P_init_5 : decode prog_4_method_1_code 5 = .ok (.iconst 0, 1) := by decide +kernel
theorem d_P_init_6 : decode prog_4_method_1_code 6 = .ok (.putfield 9, 3) := by decide +kernel
theorem d_P_init_9 : decode prog_4_method_1_code 9 = .ok (.aload_n 0, 1) := by decide +kernel
theorem d_P_init_10 : decode prog_4_method_1_code 10 = .ok (.iconst 0, 1) := by decide +kernel
theorem d_P_init_11 : decode prog_4_method_1_code 11 = .ok (.putfield 15, 3) := by decide +kernel
theorem d_P_init_14 : decode prog_4_method_1_code 14 = .ok (.aload_n 0, 1) := by decide +kernel
theorem d_P_init_15 : decode prog_4_method_1_code 15 = .ok (.iconst 0, 1) := by decide +kernel
theorem d_P_init_16 : decode prog_4_method_1_code 16 = .ok (.putfield 18, 3) := by decide +kernel
theorem d_P_init_19 : decode prog_4_method_1_code 19 = .ok (.aload_n 0, 1) := by decide +kernel
theorem d_P_init_20 : decode prog_4_method_1_code 20 = .ok (.new 21, 3) := by decide +kernel
theorem d_P_init_23 : decode prog_4_method_1_code 23 = .ok (.dup, 1) := by decide +kernel
theorem d_P_init_24 : decode prog_4_method_1_code 24 = .ok (.invokespecial 23, 3) := by decide +kernel
theorem d_P_init_27 : decode prog_4_method_1_code 27 = .ok (.putfield 24, 3) := by decide +kernel
theorem d_P_init_30 : decode prog_4_method_1_code 30 = .ok (.aload_n 0, 1) := by decide +kernel
theorem d_P_init_31 : decode prog_4_method_1_code 31 = .ok (.iconst 0, 1) := by decide +kernel
theorem d_P_init_32 : decode prog_4_method_1_code 32 = .ok (.putfield 28, 3) := by decide +kernel
theorem d_P_init_35 : decode prog_4_method_1_code 35 = .ok (.aload_n 0, 1) := by decide +kernel
theorem d_P_init_36 : decode prog_4_method_1_code 36 = .ok (.iconst 0, 1) := by decide +kernel
theorem d_P_init_37 : decode prog_4_method_1_code 37 = .ok (.putfield 31, 3) := by decide +kernel
theorem d_P_init_40 : decode prog_4_method_1_code 40 = .ok (.aload_n 0, 1) := by decide +kernel
theorem d_P_init_41 : decode prog_4_method_1_code 41 = .ok (.iconst 0, 1) := by decide +kernel
theorem d_P_init_42 : decode prog_4_method_1_code 42 = .ok (.putfield 35, 3) := by decide +kernel
theorem d_P_init_45 : decode prog_4_method_1_code 45 = .ok (.aload_n 0, 1) := by decide +kernel
theorem d_P_init_46 : decode prog_4_method_1_code 46 = .ok (.iload_n 1, 1) := by decide +kernel
theorem d_P_init_47 : decode prog_4_method_1_code 47 = .ok (.putfield 38, 3) := by decide +kernel
theorem d_P_init_50 : decode prog_4_method_1_code 50 = .ok (.aload_n 0, 1) := by decide +kernel
theorem d_P_init_51 : decode prog_4_method_1_code 51 = .ok (.iload_n 2, 1) := by decide +kernel
theorem d_P_init_52 : decode prog_4_method_1_code 52 = .ok (.newarray .int, 2) := by decide +kernel
theorem d_P_init_54 : decode prog_4_method_1_code 54 = .ok (.putfield 41, 3) := by decide +kernel
theorem d_P_init_57 : decode prog_4_method_1_code 57 = .ok (.aload_n 0, 1) := by decide +kernel
theorem d_P_init_58 : decode prog_4_method_1_code 58 = .ok (.iload_n 2, 1) := by decide +kernel
theorem d_P_init_59 : decode prog_4_method_1_code 59 = .ok (.newarray .int, 2) := by decide +kernel
theorem d_P_init_61 : decode prog_4_method_1_code 61 = .ok (.putfield 45, 3) := by decide +kernel
theorem d_P_init_64 : decode prog_4_method_1_code 64 = .ok (.aload_n 0, 1) := by decide +kernel
theorem d_P_init_65 : decode prog_4_method_1_code 65 = .ok (.iload_n 2, 1) := by decide +kernel
theorem d_P_init_66 : decode prog_4_method_1_code 66 = .ok (.anewarray 48, 3) := by decide +kernel
theorem d_P_init_69 : decode prog_4_method_1_code 69 = .ok (.putfield 50, 3) := by decide +kernel
theorem d_P_init_72 : decode prog_4_method_1_code 72 = .ok (.aload_n 0, 1) := by decide +kernel
theorem d_P_init_73 : decode prog_4_method_1_code 73 = .ok (.iload_n 2, 1) := by decide +kernel
theorem d_P_init_74 : decode prog_4_method_1_code 74 = .ok (.anewarray 48, 3) := by decide +kernel
theorem d_P_init_77 : decode prog_4_method_1_code 77 = .ok (.putfield 54, 3) := by decide +kernel
theorem d_P_init_80 : decode prog_4_method_1_code 80 = .ok (.aload_n 0, 1) := by decide +kernel
theorem d_P_init_81 : decode prog_4_method_1_code 81 = .ok (.iload_n 2, 1) := by decide +kernel
theorem d_P_init_82 : decode prog_4_method_1_code 82 = .ok (.anewarray 48, 3) := by decide +kernel
theorem d_P_init_85 : decode prog_4_method_1_code 85 = .ok (.putfield 57, 3) := by decide +kernel
theorem d_P_init_88 : decode prog_4_method_1_code 88 = .ok (.return_, 1) := by decide +kernel
theorem b_P_init_0 {l : Launch} {D : va_G} {cid : Nat → ClassId} {X : CT} {Post : PT} (hX : OK l D cid m_P_init X Post) : SS l D cid m_P_init X 0 [o_aload 0, o_obj, o_aload 0, o_push (.int 0), o_put okI 2 1, o_aload 0, o_push (.int 0), o_put okI 2 2, o_aload 0, o_push (.int 0), o_put okI 2 3, o_aload 0, o_new 0 6 df_L, o_dup, o_callI l D cid m_L_init 0, o_put okR 2 4, o_aload 0, o_push (.int 0), o_put okI 2 5, o_aload 0, o_push (.int 0), o_put okZ 2 8, o_aload 0, o_push (.int 0), o_put okI 2 12, o_aload 0, o_iload 1, o_put okI 2 0, o_aload 0, o_iload 2, o_newI 0, o_put okR 2 6, o_aload 0, o_iload 2, o_newI 0, o_put okR 2 7, o_aload 0, o_iload 2, o_newQ 2, o_put okR 2 9, o_aload 0, o_iload 2, o_newQ 2, o_put okR 2 10, o_aload 0, o_iload 2, o_newQ 2, o_put okR 2 11] (t_ret Post) := by
  refine SS.cons (so_aload_n hX d_P_init_0 rfl) ?_
  refine SS.cons (so_obj hX d_P_init_1 k_67 k_57 k_58 (by decide) (by decide)) ?_
  refine SS.cons (so_aload_n hX d_P_init_4 rfl) ?_
  refine SS.cons (so_iconst hX d_P_init_5 (by decide)) ?_
  refine SS.cons (so_put (C := R_P) (T := T_P) ok_I hX d_P_init_6 in_P ty_P nm_P rfl (by decide) k_104 rfl rfl) ?_
  refine SS.cons (so_aload_n hX d_P_init_9 rfl) ?_
  refine SS.cons (so_iconst hX d_P_init_10 (by decide)) ?_
  refine SS.cons (so_put (C := R_P) (T := T_P) ok_I hX d_P_init_11 in_P ty_P nm_P rfl (by decide) k_106 rfl rfl) ?_
  refine SS.cons (so_aload_n hX d_P_init_14 rfl) ?_
  refine SS.cons (so_iconst hX d_P_init_15 (by decide)) ?_
  refine SS.cons (so_put (C := R_P) (T := T_P) ok_I hX d_P_init_16 in_P ty_P nm_P rfl (by decide) k_109 rfl rfl) ?_
  refine SS.cons (so_aload_n hX d_P_init_19 rfl) ?_
  refine SS.cons (so_new (C := R_L) (T := T_L) hX d_P_init_20 in_L ty_L k_68 k_69 k_47 rfl dv_L) ?_
  refine SS.cons (so_dup hX d_P_init_23) ?_
  refine SS.cons (so_callI (M' := m_L_init) hX d_P_init_24 k_72 rfl k_70 k_71 k_47 rfl pf_L_init (by decide) (by decide +kernel) ⟨by decide, by decide⟩) ?_
  refine SS.cons (so_put (C := R_P) (T := T_P) (ok_O _) hX d_P_init_27 in_P ty_P nm_P rfl (by decide) k_111 rfl rfl) ?_
  refine SS.cons (so_aload_n hX d_P_init_30 rfl) ?_
  refine SS.cons (so_iconst hX d_P_init_31 (by decide)) ?_
  refine SS.cons (so_put (C := R_P) (T := T_P) ok_I hX d_P_init_32 in_P ty_P nm_P rfl (by decide) k_114 rfl rfl) ?_
  refine SS.cons (so_aload_n hX d_P_init_35 rfl) ?_
  refine SS.cons (so_iconst hX d_P_init_36 (by decide)) ?_
  refine SS.cons (so_put (C := R_P) (T := T_P) ok_Z hX d_P_init_37 in_P ty_P nm_P rfl (by decide) k_122 rfl rfl) ?_
  refine SS.cons (so_aload_n hX d_P_init_40 rfl) ?_
  refine SS.cons (so_iconst hX d_P_init_41 (by decide)) ?_
  refine SS.cons (so_put (C := R_P) (T := T_P) ok_I hX d_P_init_42 in_P ty_P nm_P rfl (by decide) k_130 rfl rfl) ?_
  refine SS.cons (so_aload_n hX d_P_init_45 rfl) ?_
  refine SS.cons (so_iload_n hX d_P_init_46 rfl) ?_
  refine SS.cons (so_putF (C := R_P) (T := T_P) ok_I hX d_P_init_47 in_P ty_P nm_P rfl (by decide) k_102 rfl rfl rfl rfl) ?_
  refine SS.cons (so_aload_n hX d_P_init_50 rfl) ?_
  refine SS.cons (so_iload_n hX d_P_init_51 rfl) ?_
  refine SS.cons (so_newI hX d_P_init_52 rfl k_99 rfl (by decide) nw_0) ?_
  refine SS.cons (so_put (C := R_P) (T := T_P) (ok_A _) hX d_P_init_54 in_P ty_P nm_P rfl (by decide) k_118 rfl rfl) ?_
  refine SS.cons (so_aload_n hX d_P_init_57 rfl) ?_
  refine SS.cons (so_iload_n hX d_P_init_58 rfl) ?_
  refine SS.cons (so_newI hX d_P_init_59 rfl k_99 rfl (by decide) nw_0) ?_
  refine SS.cons (so_putF (C := R_P) (T := T_P) (ok_A _) hX d_P_init_61 in_P ty_P nm_P rfl (by decide) k_120 rfl rfl rfl rfl) ?_
  refine SS.cons (so_aload_n hX d_P_init_64 rfl) ?_
  refine SS.cons (so_iload_n hX d_P_init_65 rfl) ?_
  refine SS.cons (so_newQ hX d_P_init_66 k_100 hX.2.2.2.2.2.2.2.2.1.1 rfl) ?_
  refine SS.cons (so_putF (C := R_P) (T := T_P) (ok_A _) hX d_P_init_69 in_P ty_P nm_P rfl (by decide) k_124 rfl rfl rfl rfl) ?_
  refine SS.cons (so_aload_n hX d_P_init_72 rfl) ?_
  refine SS.cons (so_iload_n hX d_P_init_73 rfl) ?_
  refine SS.cons (so_newQ hX d_P_init_74 k_100 hX.2.2.2.2.2.2.2.2.1.1 rfl) ?_
  refine SS.cons (so_putF (C := R_P) (T := T_P) (ok_A _) hX d_P_init_77 in_P ty_P nm_P rfl (by decide) k_126 rfl rfl rfl rfl) ?_
  refine SS.cons (so_aload_n hX d_P_init_80 rfl) ?_
  refine SS.cons (so_iload_n hX d_P_init_81 rfl) ?_
  refine SS.cons (so_newQ hX d_P_init_82 k_100 hX.2.2.2.2.2.2.2.2.1.1 rfl) ?_
  refine SS.cons (so_putF (C := R_P) (T := T_P) (ok_A _) hX d_P_init_85 in_P ty_P nm_P rfl (by decide) k_128 rfl rfl rfl rfl) ?_
  exact st_ret hX d_P_init_88 rfl
abbrev m_P_count : MT := (⟨"GroupLog$Replica", "count", "([LGroupLog$Message;)I"⟩, prog_4_method_2_code, 3, (some FieldType.int), { frames := 0, cells := 0, slots := 0, locals := 0 })
theorem pf_P_count : plainFor m_P_count.1 = true := by decide +kernel
theorem d_P_count_0 : decode prog_4_method_2_code 0 = .ok (.iconst 0, 1) := by decide +kernel
theorem d_P_count_1 : decode prog_4_method_2_code 1 = .ok (.istore_n 1, 1) := by decide +kernel
theorem d_P_count_2 : decode prog_4_method_2_code 2 = .ok (.iconst 0, 1) := by decide +kernel
theorem d_P_count_3 : decode prog_4_method_2_code 3 = .ok (.istore_n 2, 1) := by decide +kernel
theorem d_P_count_4 : decode prog_4_method_2_code 4 = .ok (.iload_n 2, 1) := by decide +kernel
theorem d_P_count_5 : decode prog_4_method_2_code 5 = .ok (.aload_n 0, 1) := by decide +kernel
theorem d_P_count_6 : decode prog_4_method_2_code 6 = .ok (.arraylength, 1) := by decide +kernel
theorem d_P_count_7 : decode prog_4_method_2_code 7 = .ok (.if_icmp .ge 18, 3) := by decide +kernel
theorem d_P_count_10 : decode prog_4_method_2_code 10 = .ok (.aload_n 0, 1) := by decide +kernel
theorem d_P_count_11 : decode prog_4_method_2_code 11 = .ok (.iload_n 2, 1) := by decide +kernel
theorem d_P_count_12 : decode prog_4_method_2_code 12 = .ok (.aaload, 1) := by decide +kernel
theorem d_P_count_13 : decode prog_4_method_2_code 13 = .ok (.ifnull 6, 3) := by decide +kernel
theorem d_P_count_16 : decode prog_4_method_2_code 16 = .ok (.iinc 1 1, 3) := by decide +kernel
theorem d_P_count_19 : decode prog_4_method_2_code 19 = .ok (.iinc 2 1, 3) := by decide +kernel
theorem d_P_count_22 : decode prog_4_method_2_code 22 = .ok (.goto (-18), 3) := by decide +kernel
theorem d_P_count_25 : decode prog_4_method_2_code 25 = .ok (.iload_n 1, 1) := by decide +kernel
theorem d_P_count_26 : decode prog_4_method_2_code 26 = .ok (.ireturn, 1) := by decide +kernel
theorem b_P_count_0 {l : Launch} {D : va_G} {cid : Nat → ClassId} {X : CT} {Post : PT} (hX : OK l D cid m_P_count X Post) : SS l D cid m_P_count X 0 [o_push (.int 0), o_istore 1, o_push (.int 0), o_istore 2] (FR l D cid m_P_count X 4) := by
  refine SS.cons (so_iconst hX d_P_count_0 (by decide)) ?_
  refine SS.cons (so_istore_n hX d_P_count_1 rfl (by decide)) ?_
  refine SS.cons (so_iconst hX d_P_count_2 (by decide)) ?_
  refine SS.cons (so_istore_n hX d_P_count_3 rfl (by decide)) ?_
  exact SS.fall
theorem b_P_count_4 {l : Launch} {D : va_G} {cid : Nat → ClassId} {X : CT} {Post : PT} (hX : OK l D cid m_P_count X Post) : SS l D cid m_P_count X 4 [o_iload 2, o_aload 0, o_alenq 2] (t_cmp (fun x y => y ≤ x) (FR l D cid m_P_count X 25) (FR l D cid m_P_count X 10)) := by
  refine SS.cons (so_iload_n hX d_P_count_4 rfl) ?_
  refine SS.cons (so_aload_n hX d_P_count_5 rfl) ?_
  refine SS.cons (so_alenq hX d_P_count_6 rfl) ?_
  exact st_icmp_ge hX d_P_count_7 (by decide)
theorem b_P_count_10 {l : Launch} {D : va_G} {cid : Nat → ClassId} {X : CT} {Post : PT} (hX : OK l D cid m_P_count X Post) : SS l D cid m_P_count X 10 [o_aload 0, o_iload 2, o_aldq 2] (t_null (FR l D cid m_P_count X 19) (FR l D cid m_P_count X 16)) := by
  refine SS.cons (so_aload_n hX d_P_count_10 rfl) ?_
  refine SS.cons (so_iload_n hX d_P_count_11 rfl) ?_
  refine SS.cons (so_aldq hX d_P_count_12 rfl) ?_
  exact st_ifnull hX d_P_count_13 (by decide)
theorem b_P_count_16 {l : Launch} {D : va_G} {cid : Nat → ClassId} {X : CT} {Post : PT} (hX : OK l D cid m_P_count X Post) : SS l D cid m_P_count X 16 [o_iinc 1 1] (FR l D cid m_P_count X 19) := by
  refine SS.cons (so_iinc hX d_P_count_16 (by decide) (by decide)) ?_
  exact SS.fall
theorem b_P_count_19 {l : Launch} {D : va_G} {cid : Nat → ClassId} {X : CT} {Post : PT} (hX : OK l D cid m_P_count X Post) : SS l D cid m_P_count X 19 [o_iinc 2 1] (FR l D cid m_P_count X 4) := by
  refine SS.cons (so_iinc hX d_P_count_19 (by decide) (by decide)) ?_
  exact so_goto hX d_P_count_22 (by decide)
theorem b_P_count_25 {l : Launch} {D : va_G} {cid : Nat → ClassId} {X : CT} {Post : PT} (hX : OK l D cid m_P_count X Post) : SS l D cid m_P_count X 25 [o_iload 1] (t_iret Post) := by
  refine SS.cons (so_iload_n hX d_P_count_25 rfl) ?_
  exact st_iret hX d_P_count_26 rfl
abbrev m_P_greatestView : MT := (⟨"GroupLog$Replica", "greatestView", "([LGroupLog$Message;)I"⟩, prog_4_method_3_code, 3, (some FieldType.int), { frames := 1, cells := 0, slots := 0, locals := 21 })
theorem pf_P_greatestView : plainFor m_P_greatestView.1 = true := by decide +kernel
theorem d_P_greatestView_0 : decode prog_4_method_3_code 0 = .ok (.iconst 0, 1) := by decide +kernel
theorem d_P_greatestView_1 : decode prog_4_method_3_code 1 = .ok (.istore_n 1, 1) := by decide +kernel
theorem d_P_greatestView_2 : decode prog_4_method_3_code 2 = .ok (.iconst 0, 1) := by decide +kernel
theorem d_P_greatestView_3 : decode prog_4_method_3_code 3 = .ok (.istore_n 2, 1) := by decide +kernel
theorem d_P_greatestView_4 : decode prog_4_method_3_code 4 = .ok (.iload_n 2, 1) := by decide +kernel
theorem d_P_greatestView_5 : decode prog_4_method_3_code 5 = .ok (.aload_n 0, 1) := by decide +kernel
theorem d_P_greatestView_6 : decode prog_4_method_3_code 6 = .ok (.arraylength, 1) := by decide +kernel
theorem d_P_greatestView_7 : decode prog_4_method_3_code 7 = .ok (.if_icmp .ge 26, 3) := by decide +kernel
theorem d_P_greatestView_10 : decode prog_4_method_3_code 10 = .ok (.aload_n 0, 1) := by decide +kernel
theorem d_P_greatestView_11 : decode prog_4_method_3_code 11 = .ok (.iload_n 2, 1) := by decide +kernel
theorem d_P_greatestView_12 : decode prog_4_method_3_code 12 = .ok (.aaload, 1) := by decide +kernel
theorem d_P_greatestView_13 : decode prog_4_method_3_code 13 = .ok (.ifnull 14, 3) := by decide +kernel
theorem d_P_greatestView_16 : decode prog_4_method_3_code 16 = .ok (.iload_n 1, 1) := by decide +kernel
theorem d_P_greatestView_17 : decode prog_4_method_3_code 17 = .ok (.aload_n 0, 1) := by decide +kernel
theorem d_P_greatestView_18 : decode prog_4_method_3_code 18 = .ok (.iload_n 2, 1) := by decide +kernel
theorem d_P_greatestView_19 : decode prog_4_method_3_code 19 = .ok (.aaload, 1) := by decide +kernel
theorem d_P_greatestView_20 : decode prog_4_method_3_code 20 = .ok (.getfield 60, 3) := by decide +kernel
theorem d_P_greatestView_23 : decode prog_4_method_3_code 23 = .ok (.invokestatic 61, 3) := by decide +kernel
theorem d_P_greatestView_26 : decode prog_4_method_3_code 26 = .ok (.istore_n 1, 1) := by decide +kernel
theorem d_P_greatestView_27 : decode prog_4_method_3_code 27 = .ok (.iinc 2 1, 3) := by decide +kernel
theorem d_P_greatestView_30 : decode prog_4_method_3_code 30 = .ok (.goto (-26), 3) := by decide +kernel
theorem d_P_greatestView_33 : decode prog_4_method_3_code 33 = .ok (.iload_n 1, 1) := by decide +kernel
theorem d_P_greatestView_34 : decode prog_4_method_3_code 34 = .ok (.ireturn, 1) := by decide +kernel
theorem b_P_greatestView_0 {l : Launch} {D : va_G} {cid : Nat → ClassId} {X : CT} {Post : PT} (hX : OK l D cid m_P_greatestView X Post) : SS l D cid m_P_greatestView X 0 [o_push (.int 0), o_istore 1, o_push (.int 0), o_istore 2] (FR l D cid m_P_greatestView X 4) := by
  refine SS.cons (so_iconst hX d_P_greatestView_0 (by decide)) ?_
  refine SS.cons (so_istore_n hX d_P_greatestView_1 rfl (by decide)) ?_
  refine SS.cons (so_iconst hX d_P_greatestView_2 (by decide)) ?_
  refine SS.cons (so_istore_n hX d_P_greatestView_3 rfl (by decide)) ?_
  exact SS.fall
theorem b_P_greatestView_4 {l : Launch} {D : va_G} {cid : Nat → ClassId} {X : CT} {Post : PT} (hX : OK l D cid m_P_greatestView X Post) : SS l D cid m_P_greatestView X 4 [o_iload 2, o_aload 0, o_alenq 2] (t_cmp (fun x y => y ≤ x) (FR l D cid m_P_greatestView X 33) (FR l D cid m_P_greatestView X 10)) := by
  refine SS.cons (so_iload_n hX d_P_greatestView_4 rfl) ?_
  refine SS.cons (so_aload_n hX d_P_greatestView_5 rfl) ?_
  refine SS.cons (so_alenq hX d_P_greatestView_6 rfl) ?_
  exact st_icmp_ge hX d_P_greatestView_7 (by decide)
theorem b_P_greatestView_10 {l : Launch} {D : va_G} {cid : Nat → ClassId} {X : CT} {Post : PT} (hX : OK l D cid m_P_greatestView X Post) : SS l D cid m_P_greatestView X 10 [o_aload 0, o_iload 2, o_aldq 2] (t_null (FR l D cid m_P_greatestView X 27) (FR l D cid m_P_greatestView X 16)) := by
  refine SS.cons (so_aload_n hX d_P_greatestView_10 rfl) ?_
  refine SS.cons (so_iload_n hX d_P_greatestView_11 rfl) ?_
  refine SS.cons (so_aldq hX d_P_greatestView_12 rfl) ?_
  exact st_ifnull hX d_P_greatestView_13 (by decide)
theorem b_P_greatestView_16 {l : Launch} {D : va_G} {cid : Nat → ClassId} {X : CT} {Post : PT} (hX : OK l D cid m_P_greatestView X Post) : SS l D cid m_P_greatestView X 16 [o_iload 1, o_aload 0, o_iload 2, o_aldq 2, o_getf 1 3, o_callS l D cid m_J_max 2, o_istore 1] (FR l D cid m_P_greatestView X 27) := by
  refine SS.cons (so_iload_n hX d_P_greatestView_16 rfl) ?_
  refine SS.cons (so_aload_n hX d_P_greatestView_17 rfl) ?_
  refine SS.cons (so_iload_n hX d_P_greatestView_18 rfl) ?_
  refine SS.cons (so_aldq hX d_P_greatestView_19 rfl) ?_
  refine SS.cons (so_getf (C := R_E) (T := T_E) hX d_P_greatestView_20 in_E rfl (by decide) k_249) ?_
  refine SS.cons (so_callS (M' := m_J_max) hX d_P_greatestView_23 k_212 k_308 k_211 k_49 pf_J_max (by decide) (by decide +kernel) ⟨by decide, by decide⟩) ?_
  refine SS.cons (so_istore_n hX d_P_greatestView_26 rfl (by decide)) ?_
  exact SS.fall
theorem b_P_greatestView_27 {l : Launch} {D : va_G} {cid : Nat → ClassId} {X : CT} {Post : PT} (hX : OK l D cid m_P_greatestView X Post) : SS l D cid m_P_greatestView X 27 [o_iinc 2 1] (FR l D cid m_P_greatestView X 4) := by
  refine SS.cons (so_iinc hX d_P_greatestView_27 (by decide) (by decide)) ?_
  exact so_goto hX d_P_greatestView_30 (by decide)
theorem b_P_greatestView_33 {l : Launch} {D : va_G} {cid : Nat → ClassId} {X : CT} {Post : PT} (hX : OK l D cid m_P_greatestView X Post) : SS l D cid m_P_greatestView X 33 [o_iload 1] (t_iret Post) := by
  refine SS.cons (so_iload_n hX d_P_greatestView_33 rfl) ?_
  exact st_iret hX d_P_greatestView_34 rfl
abbrev m_P_forgetAcked : MT := (⟨"GroupLog$Replica", "forgetAcked", "()V"⟩, prog_4_method_5_code, 2, (none : Option FieldType), { frames := 0, cells := 0, slots := 0, locals := 0 })
theorem pf_P_forgetAcked : plainFor m_P_forgetAcked.1 = true := by decide +kernel
theorem d_P_forgetAcked_0 : decode prog_4_method_5_code 0 = .ok (.iconst 0, 1) := by decide +kernel
theorem d_P_forgetAcked_1 : decode prog_4_method_5_code 1 = .ok (.istore_n 1, 1) := by decide +kernel
theorem d_P_forgetAcked_2 : decode prog_4_method_5_code 2 = .ok (.iload_n 1, 1) := by decide +kernel
theorem d_P_forgetAcked_3 : decode prog_4_method_5_code 3 = .ok (.aload_n 0, 1) := by decide +kernel
theorem d_P_forgetAcked_4 : decode prog_4_method_5_code 4 = .ok (.getfield 45, 3) := by decide +kernel
theorem d_P_forgetAcked_7 : decode prog_4_method_5_code 7 = .ok (.arraylength, 1) := by decide +kernel
theorem d_P_forgetAcked_8 : decode prog_4_method_5_code 8 = .ok (.if_icmp .ge 16, 3) := by decide +kernel
theorem d_P_forgetAcked_11 : decode prog_4_method_5_code 11 = .ok (.aload_n 0, 1) := by decide +kernel
theorem d_P_forgetAcked_12 : decode prog_4_method_5_code 12 = .ok (.getfield 45, 3) := by decide +kernel
theorem d_P_forgetAcked_15 : decode prog_4_method_5_code 15 = .ok (.iload_n 1, 1) := by decide +kernel
theorem d_P_forgetAcked_16 : decode prog_4_method_5_code 16 = .ok (.iconst 0, 1) := by decide +kernel
theorem d_P_forgetAcked_17 : decode prog_4_method_5_code 17 = .ok (.iastore, 1) := by decide +kernel
theorem d_P_forgetAcked_18 : decode prog_4_method_5_code 18 = .ok (.iinc 1 1, 3) := by decide +kernel
theorem d_P_forgetAcked_21 : decode prog_4_method_5_code 21 = .ok (.goto (-19), 3) := by decide +kernel
theorem d_P_forgetAcked_24 : decode prog_4_method_5_code 24 = .ok (.return_, 1) := by decide +kernel
theorem b_P_forgetAcked_0 {l : Launch} {D : va_G} {cid : Nat → ClassId} {X : CT} {Post : PT} (hX : OK l D cid m_P_forgetAcked X Post) : SS l D cid m_P_forgetAcked X 0 [o_push (.int 0), o_istore 1] (FR l D cid m_P_forgetAcked X 2) := by
  refine SS.cons (so_iconst hX d_P_forgetAcked_0 (by decide)) ?_
  refine SS.cons (so_istore_n hX d_P_forgetAcked_1 rfl (by decide)) ?_
  exact SS.fall
theorem b_P_forgetAcked_2 {l : Launch} {D : va_G} {cid : Nat → ClassId} {X : CT} {Post : PT} (hX : OK l D cid m_P_forgetAcked X Post) : SS l D cid m_P_forgetAcked X 2 [o_iload 1, o_aload 0, o_getf 2 7, o_alen 0] (t_cmp (fun x y => y ≤ x) (FR l D cid m_P_forgetAcked X 24) (FR l D cid m_P_forgetAcked X 11)) := by
  refine SS.cons (so_iload_n hX d_P_forgetAcked_2 rfl) ?_
  refine SS.cons (so_aload_n hX d_P_forgetAcked_3 rfl) ?_
  refine SS.cons (so_getf (C := R_P) (T := T_P) hX d_P_forgetAcked_4 in_P rfl (by decide) k_120) ?_
  refine SS.cons (so_alen hX d_P_forgetAcked_7 rfl) ?_
  exact st_icmp_ge hX d_P_forgetAcked_8 (by decide)
theorem b_P_forgetAcked_11 {l : Launch} {D : va_G} {cid : Nat → ClassId} {X : CT} {Post : PT} (hX : OK l D cid m_P_forgetAcked X Post) : SS l D cid m_P_forgetAcked X 11 [o_aload 0, o_getf 2 7, o_iload 1, o_push (.int 0), o_ast, o_iinc 1 1] (FR l D cid m_P_forgetAcked X 2) := by
  refine SS.cons (so_aload_n hX d_P_forgetAcked_11 rfl) ?_
  refine SS.cons (so_getf (C := R_P) (T := T_P) hX d_P_forgetAcked_12 in_P rfl (by decide) k_120) ?_
  refine SS.cons (so_iload_n hX d_P_forgetAcked_15 rfl) ?_
  refine SS.cons (so_iconst hX d_P_forgetAcked_16 (by decide)) ?_
  refine SS.cons (so_iast hX d_P_forgetAcked_17) ?_
  refine SS.cons (so_iinc hX d_P_forgetAcked_18 (by decide) (by decide)) ?_
  exact so_goto hX d_P_forgetAcked_21 (by decide)
theorem b_P_forgetAcked_24 {l : Launch} {D : va_G} {cid : Nat → ClassId} {X : CT} {Post : PT} (hX : OK l D cid m_P_forgetAcked X Post) : SS l D cid m_P_forgetAcked X 24 [] (t_ret Post) := by
  exact st_ret hX d_P_forgetAcked_24 rfl
abbrev m_P_forgetKept : MT := (⟨"GroupLog$Replica", "forgetKept", "()V"⟩, prog_4_method_6_code, 2, (none : Option FieldType), { frames := 0, cells := 0, slots := 0, locals := 0 })
theorem pf_P_forgetKept : plainFor m_P_forgetKept.1 = true := by decide +kernel
theorem d_P_forgetKept_0 : decode prog_4_method_6_code 0 = .ok (.iconst 0, 1) := by decide +kernel
theorem d_P_forgetKept_1 : decode prog_4_method_6_code 1 = .ok (.istore_n 1, 1) := by decide +kernel
theorem d_P_forgetKept_2 : decode prog_4_method_6_code 2 = .ok (.iload_n 1, 1) := by decide +kernel
theorem d_P_forgetKept_3 : decode prog_4_method_6_code 3 = .ok (.aload_n 0, 1) := by decide +kernel
theorem d_P_forgetKept_4 : decode prog_4_method_6_code 4 = .ok (.getfield 50, 3) := by decide +kernel
theorem d_P_forgetKept_7 : decode prog_4_method_6_code 7 = .ok (.arraylength, 1) := by decide +kernel
theorem d_P_forgetKept_8 : decode prog_4_method_6_code 8 = .ok (.if_icmp .ge 30, 3) := by decide +kernel
theorem d_P_forgetKept_11 : decode prog_4_method_6_code 11 = .ok (.aload_n 0, 1) := by decide +kernel
theorem d_P_forgetKept_12 : decode prog_4_method_6_code 12 = .ok (.getfield 50, 3) := by decide +kernel
theorem d_P_forgetKept_15 : decode prog_4_method_6_code 15 = .ok (.iload_n 1, 1) := by decide +kernel
theorem d_P_forgetKept_16 : decode prog_4_method_6_code 16 = .ok (.aconst_null, 1) := by decide +kernel
theorem d_P_forgetKept_17 : decode prog_4_method_6_code 17 = .ok (.aastore, 1) := by decide +kernel
theorem d_P_forgetKept_18 : decode prog_4_method_6_code 18 = .ok (.aload_n 0, 1) := by decide +kernel
theorem d_P_forgetKept_19 : decode prog_4_method_6_code 19 = .ok (.getfield 54, 3) := by decide +kernel
theorem d_P_forgetKept_22 : decode prog_4_method_6_code 22 = .ok (.iload_n 1, 1) := by decide +kernel
theorem d_P_forgetKept_23 : decode prog_4_method_6_code 23 = .ok (.aconst_null, 1) := by decide +kernel
theorem d_P_forgetKept_24 : decode prog_4_method_6_code 24 = .ok (.aastore, 1) := by decide +kernel
theorem d_P_forgetKept_25 : decode prog_4_method_6_code 25 = .ok (.aload_n 0, 1) := by decide +kernel
theorem d_P_forgetKept_26 : decode prog_4_method_6_code 26 = .ok (.getfield 57, 3) := by decide +kernel
theorem d_P_forgetKept_29 : decode prog_4_method_6_code 29 = .ok (.iload_n 1, 1) := by decide +kernel
theorem d_P_forgetKept_30 : decode prog_4_method_6_code 30 = .ok (.aconst_null, 1) := by decide +kernel
theorem d_P_forgetKept_31 : decode prog_4_method_6_code 31 = .ok (.aastore, 1) := by decide +kernel
theorem d_P_forgetKept_32 : decode prog_4_method_6_code 32 = .ok (.iinc 1 1, 3) := by decide +kernel
theorem d_P_forgetKept_35 : decode prog_4_method_6_code 35 = .ok (.goto (-33), 3) := by decide +kernel
theorem d_P_forgetKept_38 : decode prog_4_method_6_code 38 = .ok (.return_, 1) := by decide +kernel
theorem b_P_forgetKept_0 {l : Launch} {D : va_G} {cid : Nat → ClassId} {X : CT} {Post : PT} (hX : OK l D cid m_P_forgetKept X Post) : SS l D cid m_P_forgetKept X 0 [o_push (.int 0), o_istore 1] (FR l D cid m_P_forgetKept X 2) := by
  refine SS.cons (so_iconst hX d_P_forgetKept_0 (by decide)) ?_
  refine SS.cons (so_istore_n hX d_P_forgetKept_1 rfl (by decide)) ?_
  exact SS.fall
theorem b_P_forgetKept_2 {l : Launch} {D : va_G} {cid : Nat → ClassId} {X : CT} {Post : PT} (hX : OK l D cid m_P_forgetKept X Post) : SS l D cid m_P_forgetKept X 2 [o_iload 1, o_aload 0, o_getf 2 9, o_alenq 2] (t_cmp (fun x y => y ≤ x) (FR l D cid m_P_forgetKept X 38) (FR l D cid m_P_forgetKept X 11)) := by
  refine SS.cons (so_iload_n hX d_P_forgetKept_2 rfl) ?_
  refine SS.cons (so_aload_n hX d_P_forgetKept_3 rfl) ?_
  refine SS.cons (so_getf (C := R_P) (T := T_P) hX d_P_forgetKept_4 in_P rfl (by decide) k_124) ?_
  refine SS.cons (so_alenq hX d_P_forgetKept_7 rfl) ?_
  exact st_icmp_ge hX d_P_forgetKept_8 (by decide)
theorem b_P_forgetKept_11 {l : Launch} {D : va_G} {cid : Nat → ClassId} {X : CT} {Post : PT} (hX : OK l D cid m_P_forgetKept X Post) : SS l D cid m_P_forgetKept X 11 [o_aload 0, o_getf 2 9, o_iload 1, o_push .null, o_astq 2 1, o_aload 0, o_getf 2 10, o_iload 1, o_push .null, o_astq 2 1, o_aload 0, o_getf 2 11, o_iload 1, o_push .null, o_astq 2 1, o_iinc 1 1] (FR l D cid m_P_forgetKept X 2) := by
  refine SS.cons (so_aload_n hX d_P_forgetKept_11 rfl) ?_
  refine SS.cons (so_getf (C := R_P) (T := T_P) hX d_P_forgetKept_12 in_P rfl (by decide) k_124) ?_
  refine SS.cons (so_iload_n hX d_P_forgetKept_15 rfl) ?_
  refine SS.cons (so_null hX d_P_forgetKept_16) ?_
  refine SS.cons (so_astq (r0 := (R_E, T_E, 8)) hX d_P_forgetKept_17 rfl rfl) ?_
  refine SS.cons (so_aload_n hX d_P_forgetKept_18 rfl) ?_
  refine SS.cons (so_getf (C := R_P) (T := T_P) hX d_P_forgetKept_19 in_P rfl (by decide) k_126) ?_
  refine SS.cons (so_iload_n hX d_P_forgetKept_22 rfl) ?_
  refine SS.cons (so_null hX d_P_forgetKept_23) ?_
  refine SS.cons (so_astq (r0 := (R_E, T_E, 8)) hX d_P_forgetKept_24 rfl rfl) ?_
  refine SS.cons (so_aload_n hX d_P_forgetKept_25 rfl) ?_
  refine SS.cons (so_getf (C := R_P) (T := T_P) hX d_P_forgetKept_26 in_P rfl (by decide) k_128) ?_
  refine SS.cons (so_iload_n hX d_P_forgetKept_29 rfl) ?_
  refine SS.cons (so_null hX d_P_forgetKept_30) ?_
  refine SS.cons (so_astq (r0 := (R_E, T_E, 8)) hX d_P_forgetKept_31 rfl rfl) ?_
  refine SS.cons (so_iinc hX d_P_forgetKept_32 (by decide) (by decide)) ?_
  exact so_goto hX d_P_forgetKept_35 (by decide)
theorem b_P_forgetKept_38 {l : Launch} {D : va_G} {cid : Nat → ClassId} {X : CT} {Post : PT} (hX : OK l D cid m_P_forgetKept X Post) : SS l D cid m_P_forgetKept X 38 [] (t_ret Post) := by
  exact st_ret hX d_P_forgetKept_38 rfl
abbrev m_P_forgetEverything : MT := (⟨"GroupLog$Replica", "forgetEverything", "()V"⟩, prog_4_method_4_code, 1, (none : Option FieldType), { frames := 2, cells := 2, slots := 70, locals := 40 })
theorem pf_P_forgetEverything : plainFor m_P_forgetEverything.1 = true := by decide +kernel
theorem d_P_forgetEverything_0 : decode prog_4_method_4_code 0 = .ok (.aload_n 0, 1) := by decide +kernel
theorem d_P_forgetEverything_1 : decode prog_4_method_4_code 1 = .ok (.iconst 0, 1) := by decide +kernel
theorem d_P_forgetEverything_2 : decode prog_4_method_4_code 2 = .ok (.putfield 15, 3) := by decide +kernel
theorem d_P_forgetEverything_5 : decode prog_4_method_4_code 5 = .ok (.aload_n 0, 1) := by decide +kernel
theorem d_P_forgetEverything_6 : decode prog_4_method_4_code 6 = .ok (.iconst 0, 1) := by decide +kernel
theorem d_P_forgetEverything_7 : decode prog_4_method_4_code 7 = .ok (.putfield 18, 3) := by decide +kernel
theorem d_P_forgetEverything_10 : decode prog_4_method_4_code 10 = .ok (.aload_n 0, 1) := by decide +kernel
theorem d_P_forgetEverything_11 : decode prog_4_method_4_code 11 = .ok (.new 21, 3) := by decide +kernel
theorem d_P_forgetEverything_14 : decode prog_4_method_4_code 14 = .ok (.dup, 1) := by decide +kernel
theorem d_P_forgetEverything_15 : decode prog_4_method_4_code 15 = .ok (.invokespecial 23, 3) := by decide +kernel
theorem d_P_forgetEverything_18 : decode prog_4_method_4_code 18 = .ok (.putfield 24, 3) := by decide +kernel
theorem d_P_forgetEverything_21 : decode prog_4_method_4_code 21 = .ok (.aload_n 0, 1) := by decide +kernel
theorem d_P_forgetEverything_22 : decode prog_4_method_4_code 22 = .ok (.iconst 0, 1) := by decide +kernel
theorem d_P_forgetEverything_23 : decode prog_4_method_4_code 23 = .ok (.putfield 28, 3) := by decide +kernel
theorem d_P_forgetEverything_26 : decode prog_4_method_4_code 26 = .ok (.aload_n 0, 1) := by decide +kernel
theorem d_P_forgetEverything_27 : decode prog_4_method_4_code 27 = .ok (.aload_n 0, 1) := by decide +kernel
theorem d_P_forgetEverything_28 : decode prog_4_method_4_code 28 = .ok (.getfield 41, 3) := by decide +kernel
theorem d_P_forgetEverything_31 : decode prog_4_method_4_code 31 = .ok (.arraylength, 1) := by decide +kernel
theorem d_P_forgetEverything_32 : decode prog_4_method_4_code 32 = .ok (.newarray .int, 2) := by decide +kernel
theorem d_P_forgetEverything_34 : decode prog_4_method_4_code 34 = .ok (.putfield 41, 3) := by decide +kernel
theorem d_P_forgetEverything_37 : decode prog_4_method_4_code 37 = .ok (.aload_n 0, 1) := by decide +kernel
theorem d_P_forgetEverything_38 : decode prog_4_method_4_code 38 = .ok (.invokevirtual 67, 3) := by decide +kernel
theorem d_P_forgetEverything_41 : decode prog_4_method_4_code 41 = .ok (.aload_n 0, 1) := by decide +kernel
theorem d_P_forgetEverything_42 : decode prog_4_method_4_code 42 = .ok (.iconst 0, 1) := by decide +kernel
theorem d_P_forgetEverything_43 : decode prog_4_method_4_code 43 = .ok (.putfield 31, 3) := by decide +kernel
theorem d_P_forgetEverything_46 : decode prog_4_method_4_code 46 = .ok (.aload_n 0, 1) := by decide +kernel
theorem d_P_forgetEverything_47 : decode prog_4_method_4_code 47 = .ok (.invokevirtual 70, 3) := by decide +kernel
theorem d_P_forgetEverything_50 : decode prog_4_method_4_code 50 = .ok (.return_, 1) := by decide +kernel
theorem b_P_forgetEverything_0 {l : Launch} {D : va_G} {cid : Nat → ClassId} {X : CT} {Post : PT} (hX : OK l D cid m_P_forgetEverything X Post) : SS l D cid m_P_forgetEverything X 0 [o_aload 0, o_push (.int 0), o_put okI 2 2, o_aload 0, o_push (.int 0), o_put okI 2 3, o_aload 0, o_new 0 6 df_L, o_dup, o_callI l D cid m_L_init 0, o_put okR 2 4, o_aload 0, o_push (.int 0), o_put okI 2 5, o_aload 0, o_aload 0, o_getf 2 6, o_alen 0, o_newI 0, o_put okR 2 6, o_aload 0, o_callV l D cid m_P_forgetAcked 2 0, o_aload 0, o_push (.int 0), o_put okZ 2 8, o_aload 0, o_callV l D cid m_P_forgetKept 2 0] (t_ret Post) := by
  refine SS.cons (so_aload_n hX d_P_forgetEverything_0 rfl) ?_
  refine SS.cons (so_iconst hX d_P_forgetEverything_1 (by decide)) ?_
  refine SS.cons (so_put (C := R_P) (T := T_P) ok_I hX d_P_forgetEverything_2 in_P ty_P nm_P rfl (by decide) k_106 rfl rfl) ?_
  refine SS.cons (so_aload_n hX d_P_forgetEverything_5 rfl) ?_
  refine SS.cons (so_iconst hX d_P_forgetEverything_6 (by decide)) ?_
  refine SS.cons (so_put (C := R_P) (T := T_P) ok_I hX d_P_forgetEverything_7 in_P ty_P nm_P rfl (by decide) k_109 rfl rfl) ?_
  refine SS.cons (so_aload_n hX d_P_forgetEverything_10 rfl) ?_
  refine SS.cons (so_new (C := R_L) (T := T_L) hX d_P_forgetEverything_11 in_L ty_L k_68 k_69 k_47 rfl dv_L) ?_
  refine SS.cons (so_dup hX d_P_forgetEverything_14) ?_
  refine SS.cons (so_callI (M' := m_L_init) hX d_P_forgetEverything_15 k_72 rfl k_70 k_71 k_47 rfl pf_L_init (by decide) (by decide +kernel) ⟨by decide, by decide⟩) ?_
  refine SS.cons (so_put (C := R_P) (T := T_P) (ok_O _) hX d_P_forgetEverything_18 in_P ty_P nm_P rfl (by decide) k_111 rfl rfl) ?_
  refine SS.cons (so_aload_n hX d_P_forgetEverything_21 rfl) ?_
  refine SS.cons (so_iconst hX d_P_forgetEverything_22 (by decide)) ?_
  refine SS.cons (so_put (C := R_P) (T := T_P) ok_I hX d_P_forgetEverything_23 in_P ty_P nm_P rfl (by decide) k_114 rfl rfl) ?_
  refine SS.cons (so_aload_n hX d_P_forgetEverything_26 rfl) ?_
  refine SS.cons (so_aload_n hX d_P_forgetEverything_27 rfl) ?_
  refine SS.cons (so_getf (C := R_P) (T := T_P) hX d_P_forgetEverything_28 in_P rfl (by decide) k_118) ?_
  refine SS.cons (so_alen hX d_P_forgetEverything_31 rfl) ?_
  refine SS.cons (so_newI hX d_P_forgetEverything_32 rfl k_99 rfl (by decide) nw_0) ?_
  refine SS.cons (so_put (C := R_P) (T := T_P) (ok_A _) hX d_P_forgetEverything_34 in_P ty_P nm_P rfl (by decide) k_118 rfl rfl) ?_
  refine SS.cons (so_aload_n hX d_P_forgetEverything_37 rfl) ?_
  refine SS.cons (so_callV (M' := m_P_forgetAcked) (T := T_P) hX d_P_forgetEverything_38 rfl k_384 k_381 k_382 k_383 k_46 pf_P_forgetAcked (by decide) (by decide +kernel) ⟨by decide, by decide⟩) ?_
  refine SS.cons (so_aload_n hX d_P_forgetEverything_41 rfl) ?_
  refine SS.cons (so_iconst hX d_P_forgetEverything_42 (by decide)) ?_
  refine SS.cons (so_put (C := R_P) (T := T_P) ok_Z hX d_P_forgetEverything_43 in_P ty_P nm_P rfl (by decide) k_122 rfl rfl) ?_
  refine SS.cons (so_aload_n hX d_P_forgetEverything_46 rfl) ?_
  refine SS.cons (so_callV (M' := m_P_forgetKept) (T := T_P) hX d_P_forgetEverything_47 rfl k_356 k_353 k_354 k_355 k_46 pf_P_forgetKept (by decide) (by decide +kernel) ⟨by decide, by decide⟩) ?_
  exact st_ret hX d_P_forgetEverything_50 rfl
abbrev m_P_raiseVector : MT := (⟨"GroupLog$Replica", "raiseVector", "([I)V"⟩, prog_4_method_7_code, 4, (none : Option FieldType), { frames := 1, cells := 1, slots := 5, locals := 24 })
theorem pf_P_raiseVector : plainFor m_P_raiseVector.1 = true := by decide +kernel
theorem d_P_raiseVector_0 : decode prog_4_method_7_code 0 = .ok (.aload_n 0, 1) := by decide +kernel
theorem d_P_raiseVector_1 : decode prog_4_method_7_code 1 = .ok (.getfield 41, 3) := by decide +kernel
theorem d_P_raiseVector_4 : decode prog_4_method_7_code 4 = .ok (.invokevirtual 73, 3) := by decide +kernel
theorem d_P_raiseVector_7 : decode prog_4_method_7_code 7 = .ok (.checkcast 74, 3) := by decide +kernel
theorem d_P_raiseVector_10 : decode prog_4_method_7_code 10 = .ok (.astore_n 2, 1) := by decide +kernel
theorem d_P_raiseVector_11 : decode prog_4_method_7_code 11 = .ok (.iconst 0, 1) := by decide +kernel
theorem d_P_raiseVector_12 : decode prog_4_method_7_code 12 = .ok (.istore_n 3, 1) := by decide +kernel
theorem d_P_raiseVector_13 : decode prog_4_method_7_code 13 = .ok (.iload_n 3, 1) := by decide +kernel
theorem d_P_raiseVector_14 : decode prog_4_method_7_code 14 = .ok (.aload_n 2, 1) := by decide +kernel
theorem d_P_raiseVector_15 : decode prog_4_method_7_code 15 = .ok (.arraylength, 1) := by decide +kernel
theorem d_P_raiseVector_16 : decode prog_4_method_7_code 16 = .ok (.if_icmp .ge 21, 3) := by decide +kernel
theorem d_P_raiseVector_19 : decode prog_4_method_7_code 19 = .ok (.aload_n 2, 1) := by decide +kernel
theorem d_P_raiseVector_20 : decode prog_4_method_7_code 20 = .ok (.iload_n 3, 1) := by decide +kernel
theorem d_P_raiseVector_21 : decode prog_4_method_7_code 21 = .ok (.aload_n 2, 1) := by decide +kernel
theorem d_P_raiseVector_22 : decode prog_4_method_7_code 22 = .ok (.iload_n 3, 1) := by decide +kernel
theorem d_P_raiseVector_23 : decode prog_4_method_7_code 23 = .ok (.iaload, 1) := by decide +kernel
theorem d_P_raiseVector_24 : decode prog_4_method_7_code 24 = .ok (.aload_n 1, 1) := by decide +kernel
theorem d_P_raiseVector_25 : decode prog_4_method_7_code 25 = .ok (.iload_n 3, 1) := by decide +kernel
theorem d_P_raiseVector_26 : decode prog_4_method_7_code 26 = .ok (.iaload, 1) := by decide +kernel
theorem d_P_raiseVector_27 : decode prog_4_method_7_code 27 = .ok (.invokestatic 61, 3) := by decide +kernel
theorem d_P_raiseVector_30 : decode prog_4_method_7_code 30 = .ok (.iastore, 1) := by decide +kernel
theorem d_P_raiseVector_31 : decode prog_4_method_7_code 31 = .ok (.iinc 3 1, 3) := by decide +kernel
theorem d_P_raiseVector_34 : decode prog_4_method_7_code 34 = .ok (.goto (-21), 3) := by decide +kernel
theorem d_P_raiseVector_37 : decode prog_4_method_7_code 37 = .ok (.aload_n 0, 1) := by decide +kernel
theorem d_P_raiseVector_38 : decode prog_4_method_7_code 38 = .ok (.aload_n 2, 1) := by decide +kernel
theorem d_P_raiseVector_39 : decode prog_4_method_7_code 39 = .ok (.putfield 41, 3) := by decide +kernel
theorem d_P_raiseVector_42 : decode prog_4_method_7_code 42 = .ok (.return_, 1) := by decide +kernel
theorem b_P_raiseVector_0 {l : Launch} {D : va_G} {cid : Nat → ClassId} {X : CT} {Post : PT} (hX : OK l D cid m_P_raiseVector X Post) : SS l D cid m_P_raiseVector X 0 [o_aload 0, o_getf 2 6, o_clone, o_castI, o_astore 2, o_push (.int 0), o_istore 3] (FR l D cid m_P_raiseVector X 13) := by
  refine SS.cons (so_aload_n hX d_P_raiseVector_0 rfl) ?_
  refine SS.cons (so_getf (C := R_P) (T := T_P) hX d_P_raiseVector_1 in_P rfl (by decide) k_118) ?_
  refine SS.cons (so_clone hX d_P_raiseVector_4 k_301 k_302 k_303 k_304 k_305 (by decide) (by decide)) ?_
  refine SS.cons (so_castI hX d_P_raiseVector_7 k_307) ?_
  refine SS.cons (so_astore_n hX d_P_raiseVector_10 rfl (by decide)) ?_
  refine SS.cons (so_iconst hX d_P_raiseVector_11 (by decide)) ?_
  refine SS.cons (so_istore_n hX d_P_raiseVector_12 rfl (by decide)) ?_
  exact SS.fall
theorem b_P_raiseVector_13 {l : Launch} {D : va_G} {cid : Nat → ClassId} {X : CT} {Post : PT} (hX : OK l D cid m_P_raiseVector X Post) : SS l D cid m_P_raiseVector X 13 [o_iload 3, o_aload 2, o_alen 0] (t_cmp (fun x y => y ≤ x) (FR l D cid m_P_raiseVector X 37) (FR l D cid m_P_raiseVector X 19)) := by
  refine SS.cons (so_iload_n hX d_P_raiseVector_13 rfl) ?_
  refine SS.cons (so_aload_n hX d_P_raiseVector_14 rfl) ?_
  refine SS.cons (so_alen hX d_P_raiseVector_15 rfl) ?_
  exact st_icmp_ge hX d_P_raiseVector_16 (by decide)
theorem b_P_raiseVector_19 {l : Launch} {D : va_G} {cid : Nat → ClassId} {X : CT} {Post : PT} (hX : OK l D cid m_P_raiseVector X Post) : SS l D cid m_P_raiseVector X 19 [o_aload 2, o_iload 3, o_aload 2, o_iload 3, o_ald 0, o_aload 1, o_iload 3, o_ald 0, o_callS l D cid m_J_max 2, o_ast, o_iinc 3 1] (FR l D cid m_P_raiseVector X 13) := by
  refine SS.cons (so_aload_n hX d_P_raiseVector_19 rfl) ?_
  refine SS.cons (so_iload_n hX d_P_raiseVector_20 rfl) ?_
  refine SS.cons (so_aload_n hX d_P_raiseVector_21 rfl) ?_
  refine SS.cons (so_iload_n hX d_P_raiseVector_22 rfl) ?_
  refine SS.cons (so_iald hX d_P_raiseVector_23) ?_
  refine SS.cons (so_aload_n hX d_P_raiseVector_24 rfl) ?_
  refine SS.cons (so_iload_n hX d_P_raiseVector_25 rfl) ?_
  refine SS.cons (so_iald hX d_P_raiseVector_26) ?_
  refine SS.cons (so_callS (M' := m_J_max) hX d_P_raiseVector_27 k_212 k_308 k_211 k_49 pf_J_max (by decide) (by decide +kernel) ⟨by decide, by decide⟩) ?_
  refine SS.cons (so_iast hX d_P_raiseVector_30) ?_
  refine SS.cons (so_iinc hX d_P_raiseVector_31 (by decide) (by decide)) ?_
  exact so_goto hX d_P_raiseVector_34 (by decide)
theorem b_P_raiseVector_37 {l : Launch} {D : va_G} {cid : Nat → ClassId} {X : CT} {Post : PT} (hX : OK l D cid m_P_raiseVector X Post) : SS l D cid m_P_raiseVector X 37 [o_aload 0, o_aload 2, o_put okR 2 6] (t_ret Post) := by
  refine SS.cons (so_aload_n hX d_P_raiseVector_37 rfl) ?_
  refine SS.cons (so_aload_n hX d_P_raiseVector_38 rfl) ?_
  refine SS.cons (so_put (C := R_P) (T := T_P) (ok_A _) hX d_P_raiseVector_39 in_P ty_P nm_P rfl (by decide) k_118 rfl rfl) ?_
  exact st_ret hX d_P_raiseVector_42 rfl
abbrev m_P_dropOutdated : MT := (⟨"GroupLog$Replica", "dropOutdated", "([LGroupLog$Message;)V"⟩, prog_4_method_9_code, 3, (none : Option FieldType), { frames := 0, cells := 0, slots := 0, locals := 0 })
theorem pf_P_dropOutdated : plainFor m_P_dropOutdated.1 = true := by decide +kernel
theorem d_P_dropOutdated_0 : decode prog_4_method_9_code 0 = .ok (.iconst 0, 1) := by decide +kernel
theorem d_P_dropOutdated_1 : decode prog_4_method_9_code 1 = .ok (.istore_n 2, 1) := by decide +kernel
theorem d_P_dropOutdated_2 : decode prog_4_method_9_code 2 = .ok (.iload_n 2, 1) := by decide +kernel
theorem d_P_dropOutdated_3 : decode prog_4_method_9_code 3 = .ok (.aload_n 1, 1) := by decide +kernel
theorem d_P_dropOutdated_4 : decode prog_4_method_9_code 4 = .ok (.arraylength, 1) := by decide +kernel
theorem d_P_dropOutdated_5 : decode prog_4_method_9_code 5 = .ok (.if_icmp .ge 36, 3) := by decide +kernel
theorem d_P_dropOutdated_8 : decode prog_4_method_9_code 8 = .ok (.aload_n 1, 1) := by decide +kernel
theorem d_P_dropOutdated_9 : decode prog_4_method_9_code 9 = .ok (.iload_n 2, 1) := by decide +kernel
theorem d_P_dropOutdated_10 : decode prog_4_method_9_code 10 = .ok (.aaload, 1) := by decide +kernel
theorem d_P_dropOutdated_11 : decode prog_4_method_9_code 11 = .ok (.ifnull 24, 3) := by decide +kernel
theorem d_P_dropOutdated_14 : decode prog_4_method_9_code 14 = .ok (.aload_n 1, 1) := by decide +kernel
theorem d_P_dropOutdated_15 : decode prog_4_method_9_code 15 = .ok (.iload_n 2, 1) := by decide +kernel
theorem d_P_dropOutdated_16 : decode prog_4_method_9_code 16 = .ok (.aaload, 1) := by decide +kernel
theorem d_P_dropOutdated_17 : decode prog_4_method_9_code 17 = .ok (.getfield 82, 3) := by decide +kernel
theorem d_P_dropOutdated_20 : decode prog_4_method_9_code 20 = .ok (.iload_n 2, 1) := by decide +kernel
theorem d_P_dropOutdated_21 : decode prog_4_method_9_code 21 = .ok (.iaload, 1) := by decide +kernel
theorem d_P_dropOutdated_22 : decode prog_4_method_9_code 22 = .ok (.aload_n 0, 1) := by decide +kernel
theorem d_P_dropOutdated_23 : decode prog_4_method_9_code 23 = .ok (.getfield 41, 3) := by decide +kernel
theorem d_P_dropOutdated_26 : decode prog_4_method_9_code 26 = .ok (.iload_n 2, 1) := by decide +kernel
theorem d_P_dropOutdated_27 : decode prog_4_method_9_code 27 = .ok (.iaload, 1) := by decide +kernel
theorem d_P_dropOutdated_28 : decode prog_4_method_9_code 28 = .ok (.if_icmp .ge 7, 3) := by decide +kernel
theorem d_P_dropOutdated_31 : decode prog_4_method_9_code 31 = .ok (.aload_n 1, 1) := by decide +kernel
theorem d_P_dropOutdated_32 : decode prog_4_method_9_code 32 = .ok (.iload_n 2, 1) := by decide +kernel
theorem d_P_dropOutdated_33 : decode prog_4_method_9_code 33 = .ok (.aconst_null, 1) := by decide +kernel
theorem d_P_dropOutdated_34 : decode prog_4_method_9_code 34 = .ok (.aastore, 1) := by decide +kernel
theorem d_P_dropOutdated_35 : decode prog_4_method_9_code 35 = .ok (.iinc 2 1, 3) := by decide +kernel
theorem d_P_dropOutdated_38 : decode prog_4_method_9_code 38 = .ok (.goto (-36), 3) := by decide +kernel
theorem d_P_dropOutdated_41 : decode prog_4_method_9_code 41 = .ok (.return_, 1) := by decide +kernel
theorem b_P_dropOutdated_0 {l : Launch} {D : va_G} {cid : Nat → ClassId} {X : CT} {Post : PT} (hX : OK l D cid m_P_dropOutdated X Post) : SS l D cid m_P_dropOutdated X 0 [o_push (.int 0), o_istore 2] (FR l D cid m_P_dropOutdated X 2) := by
  refine SS.cons (so_iconst hX d_P_dropOutdated_0 (by decide)) ?_
  refine SS.cons (so_istore_n hX d_P_dropOutdated_1 rfl (by decide)) ?_
  exact SS.fall
theorem b_P_dropOutdated_2 {l : Launch} {D : va_G} {cid : Nat → ClassId} {X : CT} {Post : PT} (hX : OK l D cid m_P_dropOutdated X Post) : SS l D cid m_P_dropOutdated X 2 [o_iload 2, o_aload 1, o_alenq 2] (t_cmp (fun x y => y ≤ x) (FR l D cid m_P_dropOutdated X 41) (FR l D cid m_P_dropOutdated X 8)) := by
  refine SS.cons (so_iload_n hX d_P_dropOutdated_2 rfl) ?_
  refine SS.cons (so_aload_n hX d_P_dropOutdated_3 rfl) ?_
  refine SS.cons (so_alenq hX d_P_dropOutdated_4 rfl) ?_
  exact st_icmp_ge hX d_P_dropOutdated_5 (by decide)
theorem b_P_dropOutdated_8 {l : Launch} {D : va_G} {cid : Nat → ClassId} {X : CT} {Post : PT} (hX : OK l D cid m_P_dropOutdated X Post) : SS l D cid m_P_dropOutdated X 8 [o_aload 1, o_iload 2, o_aldq 2] (t_null (FR l D cid m_P_dropOutdated X 35) (FR l D cid m_P_dropOutdated X 14)) := by
  refine SS.cons (so_aload_n hX d_P_dropOutdated_8 rfl) ?_
  refine SS.cons (so_iload_n hX d_P_dropOutdated_9 rfl) ?_
  refine SS.cons (so_aldq hX d_P_dropOutdated_10 rfl) ?_
  exact st_ifnull hX d_P_dropOutdated_11 (by decide)
theorem b_P_dropOutdated_14 {l : Launch} {D : va_G} {cid : Nat → ClassId} {X : CT} {Post : PT} (hX : OK l D cid m_P_dropOutdated X Post) : SS l D cid m_P_dropOutdated X 14 [o_aload 1, o_iload 2, o_aldq 2, o_getf 1 5, o_iload 2, o_ald 0, o_aload 0, o_getf 2 6, o_iload 2, o_ald 0] (t_cmp (fun x y => y ≤ x) (FR l D cid m_P_dropOutdated X 35) (FR l D cid m_P_dropOutdated X 31)) := by
  refine SS.cons (so_aload_n hX d_P_dropOutdated_14 rfl) ?_
  refine SS.cons (so_iload_n hX d_P_dropOutdated_15 rfl) ?_
  refine SS.cons (so_aldq hX d_P_dropOutdated_16 rfl) ?_
  refine SS.cons (so_getf (C := R_E) (T := T_E) hX d_P_dropOutdated_17 in_E rfl (by decide) k_254) ?_
  refine SS.cons (so_iload_n hX d_P_dropOutdated_20 rfl) ?_
  refine SS.cons (so_iald hX d_P_dropOutdated_21) ?_
  refine SS.cons (so_aload_n hX d_P_dropOutdated_22 rfl) ?_
  refine SS.cons (so_getf (C := R_P) (T := T_P) hX d_P_dropOutdated_23 in_P rfl (by decide) k_118) ?_
  refine SS.cons (so_iload_n hX d_P_dropOutdated_26 rfl) ?_
  refine SS.cons (so_iald hX d_P_dropOutdated_27) ?_
  exact st_icmp_ge hX d_P_dropOutdated_28 (by decide)
theorem b_P_dropOutdated_31 {l : Launch} {D : va_G} {cid : Nat → ClassId} {X : CT} {Post : PT} (hX : OK l D cid m_P_dropOutdated X Post) : SS l D cid m_P_dropOutdated X 31 [o_aload 1, o_iload 2, o_push .null, o_astq 2 1] (FR l D cid m_P_dropOutdated X 35) := by
  refine SS.cons (so_aload_n hX d_P_dropOutdated_31 rfl) ?_
  refine SS.cons (so_iload_n hX d_P_dropOutdated_32 rfl) ?_
  refine SS.cons (so_null hX d_P_dropOutdated_33) ?_
  refine SS.cons (so_astq (r0 := (R_E, T_E, 8)) hX d_P_dropOutdated_34 rfl rfl) ?_
  exact SS.fall
theorem b_P_dropOutdated_35 {l : Launch} {D : va_G} {cid : Nat → ClassId} {X : CT} {Post : PT} (hX : OK l D cid m_P_dropOutdated X Post) : SS l D cid m_P_dropOutdated X 35 [o_iinc 2 1] (FR l D cid m_P_dropOutdated X 2) := by
  refine SS.cons (so_iinc hX d_P_dropOutdated_35 (by decide) (by decide)) ?_
  exact so_goto hX d_P_dropOutdated_38 (by decide)
theorem b_P_dropOutdated_41 {l : Launch} {D : va_G} {cid : Nat → ClassId} {X : CT} {Post : PT} (hX : OK l D cid m_P_dropOutdated X Post) : SS l D cid m_P_dropOutdated X 41 [] (t_ret Post) := by
  exact st_ret hX d_P_dropOutdated_41 rfl
abbrev m_P_forgetOutdated : MT := (⟨"GroupLog$Replica", "forgetOutdated", "()V"⟩, prog_4_method_8_code, 1, (none : Option FieldType), { frames := 1, cells := 0, slots := 0, locals := 22 })
theorem pf_P_forgetOutdated : plainFor m_P_forgetOutdated.1 = true := by decide +kernel
theorem d_P_forgetOutdated_0 : decode prog_4_method_8_code 0 = .ok (.aload_n 0, 1) := by decide +kernel
theorem d_P_forgetOutdated_1 : decode prog_4_method_8_code 1 = .ok (.aload_n 0, 1) := by decide +kernel
theorem d_P_forgetOutdated_2 : decode prog_4_method_8_code 2 = .ok (.getfield 50, 3) := by decide +kernel
theorem d_P_forgetOutdated_5 : decode prog_4_method_8_code 5 = .ok (.invokevirtual 78, 3) := by decide +kernel
theorem d_P_forgetOutdated_8 : decode prog_4_method_8_code 8 = .ok (.aload_n 0, 1) := by decide +kernel
theorem d_P_forgetOutdated_9 : decode prog_4_method_8_code 9 = .ok (.aload_n 0, 1) := by decide +kernel
theorem d_P_forgetOutdated_10 : decode prog_4_method_8_code 10 = .ok (.getfield 54, 3) := by decide +kernel
theorem d_P_forgetOutdated_13 : decode prog_4_method_8_code 13 = .ok (.invokevirtual 78, 3) := by decide +kernel
theorem d_P_forgetOutdated_16 : decode prog_4_method_8_code 16 = .ok (.aload_n 0, 1) := by decide +kernel
theorem d_P_forgetOutdated_17 : decode prog_4_method_8_code 17 = .ok (.aload_n 0, 1) := by decide +kernel
theorem d_P_forgetOutdated_18 : decode prog_4_method_8_code 18 = .ok (.getfield 57, 3) := by decide +kernel
theorem d_P_forgetOutdated_21 : decode prog_4_method_8_code 21 = .ok (.invokevirtual 78, 3) := by decide +kernel
theorem d_P_forgetOutdated_24 : decode prog_4_method_8_code 24 = .ok (.return_, 1) := by decide +kernel
theorem b_P_forgetOutdated_0 {l : Launch} {D : va_G} {cid : Nat → ClassId} {X : CT} {Post : PT} (hX : OK l D cid m_P_forgetOutdated X Post) : SS l D cid m_P_forgetOutdated X 0 [o_aload 0, o_aload 0, o_getf 2 9, o_callV l D cid m_P_dropOutdated 2 1, o_aload 0, o_aload 0, o_getf 2 10, o_callV l D cid m_P_dropOutdated 2 1, o_aload 0, o_aload 0, o_getf 2 11, o_callV l D cid m_P_dropOutdated 2 1] (t_ret Post) := by
  refine SS.cons (so_aload_n hX d_P_forgetOutdated_0 rfl) ?_
  refine SS.cons (so_aload_n hX d_P_forgetOutdated_1 rfl) ?_
  refine SS.cons (so_getf (C := R_P) (T := T_P) hX d_P_forgetOutdated_2 in_P rfl (by decide) k_124) ?_
  refine SS.cons (so_callV (M' := m_P_dropOutdated) (T := T_P) hX d_P_forgetOutdated_5 rfl k_316 k_313 k_315 k_9 k_46 pf_P_dropOutdated (by decide) (by decide +kernel) ⟨by decide, by decide⟩) ?_
  refine SS.cons (so_aload_n hX d_P_forgetOutdated_8 rfl) ?_
  refine SS.cons (so_aload_n hX d_P_forgetOutdated_9 rfl) ?_
  refine SS.cons (so_getf (C := R_P) (T := T_P) hX d_P_forgetOutdated_10 in_P rfl (by decide) k_126) ?_
  refine SS.cons (so_callV (M' := m_P_dropOutdated) (T := T_P) hX d_P_forgetOutdated_13 rfl k_316 k_313 k_315 k_9 k_46 pf_P_dropOutdated (by decide) (by decide +kernel) ⟨by decide, by decide⟩) ?_
  refine SS.cons (so_aload_n hX d_P_forgetOutdated_16 rfl) ?_
  refine SS.cons (so_aload_n hX d_P_forgetOutdated_17 rfl) ?_
  refine SS.cons (so_getf (C := R_P) (T := T_P) hX d_P_forgetOutdated_18 in_P rfl (by decide) k_128) ?_
  refine SS.cons (so_callV (M' := m_P_dropOutdated) (T := T_P) hX d_P_forgetOutdated_21 rfl k_316 k_313 k_315 k_9 k_46 pf_P_dropOutdated (by decide) (by decide +kernel) ⟨by decide, by decide⟩) ?_
  exact st_ret hX d_P_forgetOutdated_24 rfl
abbrev m_P_countAcked : MT := (⟨"GroupLog$Replica", "countAcked", "(I)I"⟩, prog_4_method_11_code, 4, (some FieldType.int), { frames := 0, cells := 0, slots := 0, locals := 0 })
theorem pf_P_countAcked : plainFor m_P_countAcked.1 = true := by decide +kernel
theorem d_P_countAcked_0 : decode prog_4_method_11_code 0 = .ok (.iconst 0, 1) := by decide +kernel
theorem d_P_countAcked_1 : decode prog_4_method_11_code 1 = .ok (.istore_n 2, 1) := by decide +kernel
theorem d_P_countAcked_2 : decode prog_4_method_11_code 2 = .ok (.iconst 0, 1) := by decide +kernel
theorem d_P_countAcked_3 : decode prog_4_method_11_code 3 = .ok (.istore_n 3, 1) := by decide +kernel
theorem d_P_countAcked_4 : decode prog_4_method_11_code 4 = .ok (.iload_n 3, 1) := by decide +kernel
theorem d_P_countAcked_5 : decode prog_4_method_11_code 5 = .ok (.aload_n 0, 1) := by decide +kernel
theorem d_P_countAcked_6 : decode prog_4_method_11_code 6 = .ok (.getfield 45, 3) := by decide +kernel
theorem d_P_countAcked_9 : decode prog_4_method_11_code 9 = .ok (.arraylength, 1) := by decide +kernel
theorem d_P_countAcked_10 : decode prog_4_method_11_code 10 = .ok (.if_icmp .ge 22, 3) := by decide +kernel
theorem d_P_countAcked_13 : decode prog_4_method_11_code 13 = .ok (.aload_n 0, 1) := by decide +kernel
theorem d_P_countAcked_14 : decode prog_4_method_11_code 14 = .ok (.getfield 45, 3) := by decide +kernel
theorem d_P_countAcked_17 : decode prog_4_method_11_code 17 = .ok (.iload_n 3, 1) := by decide +kernel
theorem d_P_countAcked_18 : decode prog_4_method_11_code 18 = .ok (.iaload, 1) := by decide +kernel
theorem d_P_countAcked_19 : decode prog_4_method_11_code 19 = .ok (.iload_n 1, 1) := by decide +kernel
theorem d_P_countAcked_20 : decode prog_4_method_11_code 20 = .ok (.if_icmp .lt 6, 3) := by decide +kernel
theorem d_P_countAcked_23 : decode prog_4_method_11_code 23 = .ok (.iinc 2 1, 3) := by decide +kernel
theorem d_P_countAcked_26 : decode prog_4_method_11_code 26 = .ok (.iinc 3 1, 3) := by decide +kernel
theorem d_P_countAcked_29 : decode prog_4_method_11_code 29 = .ok (.goto (-25), 3) := by decide +kernel
theorem d_P_countAcked_32 : decode prog_4_method_11_code 32 = .ok (.iload_n 2, 1) := by decide +kernel
theorem d_P_countAcked_33 : decode prog_4_method_11_code 33 = .ok (.ireturn, 1) := by decide +kernel
theorem b_P_countAcked_0 {l : Launch} {D : va_G} {cid : Nat → ClassId} {X : CT} {Post : PT} (hX : OK l D cid m_P_countAcked X Post) : SS l D cid m_P_countAcked X 0 [o_push (.int 0), o_istore 2, o_push (.int 0), o_istore 3] (FR l D cid m_P_countAcked X 4) := by
  refine SS.cons (so_iconst hX d_P_countAcked_0 (by decide)) ?_
  refine SS.cons (so_istore_n hX d_P_countAcked_1 rfl (by decide)) ?_
  refine SS.cons (so_iconst hX d_P_countAcked_2 (by decide)) ?_
  refine SS.cons (so_istore_n hX d_P_countAcked_3 rfl (by decide)) ?_
  exact SS.fall
theorem b_P_countAcked_4 {l : Launch} {D : va_G} {cid : Nat → ClassId} {X : CT} {Post : PT} (hX : OK l D cid m_P_countAcked X Post) : SS l D cid m_P_countAcked X 4 [o_iload 3, o_aload 0, o_getf 2 7, o_alen 0] (t_cmp (fun x y => y ≤ x) (FR l D cid m_P_countAcked X 32) (FR l D cid m_P_countAcked X 13)) := by
  refine SS.cons (so_iload_n hX d_P_countAcked_4 rfl) ?_
  refine SS.cons (so_aload_n hX d_P_countAcked_5 rfl) ?_
  refine SS.cons (so_getf (C := R_P) (T := T_P) hX d_P_countAcked_6 in_P rfl (by decide) k_120) ?_
  refine SS.cons (so_alen hX d_P_countAcked_9 rfl) ?_
  exact st_icmp_ge hX d_P_countAcked_10 (by decide)
theorem b_P_countAcked_13 {l : Launch} {D : va_G} {cid : Nat → ClassId} {X : CT} {Post : PT} (hX : OK l D cid m_P_countAcked X Post) : SS l D cid m_P_countAcked X 13 [o_aload 0, o_getf 2 7, o_iload 3, o_ald 0, o_iload 1] (t_cmp (fun x y => x < y) (FR l D cid m_P_countAcked X 26) (FR l D cid m_P_countAcked X 23)) := by
  refine SS.cons (so_aload_n hX d_P_countAcked_13 rfl) ?_
  refine SS.cons (so_getf (C := R_P) (T := T_P) hX d_P_countAcked_14 in_P rfl (by decide) k_120) ?_
  refine SS.cons (so_iload_n hX d_P_countAcked_17 rfl) ?_
  refine SS.cons (so_iald hX d_P_countAcked_18) ?_
  refine SS.cons (so_iload_n hX d_P_countAcked_19 rfl) ?_
  exact st_icmp_lt hX d_P_countAcked_20 (by decide)
theorem b_P_countAcked_23 {l : Launch} {D : va_G} {cid : Nat → ClassId} {X : CT} {Post : PT} (hX : OK l D cid m_P_countAcked X Post) : SS l D cid m_P_countAcked X 23 [o_iinc 2 1] (FR l D cid m_P_countAcked X 26) := by
  refine SS.cons (so_iinc hX d_P_countAcked_23 (by decide) (by decide)) ?_
  exact SS.fall
theorem b_P_countAcked_26 {l : Launch} {D : va_G} {cid : Nat → ClassId} {X : CT} {Post : PT} (hX : OK l D cid m_P_countAcked X Post) : SS l D cid m_P_countAcked X 26 [o_iinc 3 1] (FR l D cid m_P_countAcked X 4) := by
  refine SS.cons (so_iinc hX d_P_countAcked_26 (by decide) (by decide)) ?_
  exact so_goto hX d_P_countAcked_29 (by decide)
theorem b_P_countAcked_32 {l : Launch} {D : va_G} {cid : Nat → ClassId} {X : CT} {Post : PT} (hX : OK l D cid m_P_countAcked X Post) : SS l D cid m_P_countAcked X 32 [o_iload 2] (t_iret Post) := by
  refine SS.cons (so_iload_n hX d_P_countAcked_32 rfl) ?_
  exact st_iret hX d_P_countAcked_33 rfl
abbrev m_P_ackedBy : MT := (⟨"GroupLog$Replica", "ackedBy", "(I)I"⟩, prog_4_method_10_code, 4, (some FieldType.int), { frames := 1, cells := 0, slots := 0, locals := 23 })
theorem pf_P_ackedBy : plainFor m_P_ackedBy.1 = true := by decide +kernel
theorem d_P_ackedBy_0 : decode prog_4_method_10_code 0 = .ok (.aload_n 0, 1) := by decide +kernel
theorem d_P_ackedBy_1 : decode prog_4_method_10_code 1 = .ok (.getfield 28, 3) := by decide +kernel
theorem d_P_ackedBy_4 : decode prog_4_method_10_code 4 = .ok (.istore_n 2, 1) := by decide +kernel
theorem d_P_ackedBy_5 : decode prog_4_method_10_code 5 = .ok (.iconst 0, 1) := by decide +kernel
theorem d_P_ackedBy_6 : decode prog_4_method_10_code 6 = .ok (.istore_n 3, 1) := by decide +kernel
theorem d_P_ackedBy_7 : decode prog_4_method_10_code 7 = .ok (.iload_n 3, 1) := by decide +kernel
theorem d_P_ackedBy_8 : decode prog_4_method_10_code 8 = .ok (.aload_n 0, 1) := by decide +kernel
theorem d_P_ackedBy_9 : decode prog_4_method_10_code 9 = .ok (.getfield 45, 3) := by decide +kernel
theorem d_P_ackedBy_12 : decode prog_4_method_10_code 12 = .ok (.arraylength, 1) := by decide +kernel
theorem d_P_ackedBy_13 : decode prog_4_method_10_code 13 = .ok (.if_icmp .ge 40, 3) := by decide +kernel
theorem d_P_ackedBy_16 : decode prog_4_method_10_code 16 = .ok (.aload_n 0, 1) := by decide +kernel
theorem d_P_ackedBy_17 : decode prog_4_method_10_code 17 = .ok (.getfield 45, 3) := by decide +kernel
theorem d_P_ackedBy_20 : decode prog_4_method_10_code 20 = .ok (.iload_n 3, 1) := by decide +kernel
theorem d_P_ackedBy_21 : decode prog_4_method_10_code 21 = .ok (.iaload, 1) := by decide +kernel
theorem d_P_ackedBy_22 : decode prog_4_method_10_code 22 = .ok (.iload_n 2, 1) := by decide +kernel
theorem d_P_ackedBy_23 : decode prog_4_method_10_code 23 = .ok (.if_icmp .le 24, 3) := by decide +kernel
theorem d_P_ackedBy_26 : decode prog_4_method_10_code 26 = .ok (.aload_n 0, 1) := by decide +kernel
theorem d_P_ackedBy_27 : decode prog_4_method_10_code 27 = .ok (.aload_n 0, 1) := by decide +kernel
theorem d_P_ackedBy_28 : decode prog_4_method_10_code 28 = .ok (.getfield 45, 3) := by decide +kernel
theorem d_P_ackedBy_31 : decode prog_4_method_10_code 31 = .ok (.iload_n 3, 1) := by decide +kernel
theorem d_P_ackedBy_32 : decode prog_4_method_10_code 32 = .ok (.iaload, 1) := by decide +kernel
theorem d_P_ackedBy_33 : decode prog_4_method_10_code 33 = .ok (.invokevirtual 83, 3) := by decide +kernel
theorem d_P_ackedBy_36 : decode prog_4_method_10_code 36 = .ok (.iload_n 1, 1) := by decide +kernel
theorem d_P_ackedBy_37 : decode prog_4_method_10_code 37 = .ok (.if_icmp .lt 10, 3) := by decide +kernel
theorem d_P_ackedBy_40 : decode prog_4_method_10_code 40 = .ok (.aload_n 0, 1) := by decide +kernel
theorem d_P_ackedBy_41 : decode prog_4_method_10_code 41 = .ok (.getfield 45, 3) := by decide +kernel
theorem d_P_ackedBy_44 : decode prog_4_method_10_code 44 = .ok (.iload_n 3, 1) := by decide +kernel
theorem d_P_ackedBy_45 : decode prog_4_method_10_code 45 = .ok (.iaload, 1) := by decide +kernel
theorem d_P_ackedBy_46 : decode prog_4_method_10_code 46 = .ok (.istore_n 2, 1) := by decide +kernel
theorem d_P_ackedBy_47 : decode prog_4_method_10_code 47 = .ok (.iinc 3 1, 3) := by decide +kernel
theorem d_P_ackedBy_50 : decode prog_4_method_10_code 50 = .ok (.goto (-43), 3) := by decide +kernel
theorem d_P_ackedBy_53 : decode prog_4_method_10_code 53 = .ok (.iload_n 2, 1) := by decide +kernel
theorem d_P_ackedBy_54 : decode prog_4_method_10_code 54 = .ok (.ireturn, 1) := by decide +kernel
theorem b_P_ackedBy_0 {l : Launch} {D : va_G} {cid : Nat → ClassId} {X : CT} {Post : PT} (hX : OK l D cid m_P_ackedBy X Post) : SS l D cid m_P_ackedBy X 0 [o_aload 0, o_getf 2 5, o_istore 2, o_push (.int 0), o_istore 3] (FR l D cid m_P_ackedBy X 7) := by
  refine SS.cons (so_aload_n hX d_P_ackedBy_0 rfl) ?_
  refine SS.cons (so_getf (C := R_P) (T := T_P) hX d_P_ackedBy_1 in_P rfl (by decide) k_114) ?_
  refine SS.cons (so_istore_n hX d_P_ackedBy_4 rfl (by decide)) ?_
  refine SS.cons (so_iconst hX d_P_ackedBy_5 (by decide)) ?_
  refine SS.cons (so_istore_n hX d_P_ackedBy_6 rfl (by decide)) ?_
  exact SS.fall
theorem b_P_ackedBy_7 {l : Launch} {D : va_G} {cid : Nat → ClassId} {X : CT} {Post : PT} (hX : OK l D cid m_P_ackedBy X Post) : SS l D cid m_P_ackedBy X 7 [o_iload 3, o_aload 0, o_getf 2 7, o_alen 0] (t_cmp (fun x y => y ≤ x) (FR l D cid m_P_ackedBy X 53) (FR l D cid m_P_ackedBy X 16)) := by
  refine SS.cons (so_iload_n hX d_P_ackedBy_7 rfl) ?_
  refine SS.cons (so_aload_n hX d_P_ackedBy_8 rfl) ?_
  refine SS.cons (so_getf (C := R_P) (T := T_P) hX d_P_ackedBy_9 in_P rfl (by decide) k_120) ?_
  refine SS.cons (so_alen hX d_P_ackedBy_12 rfl) ?_
  exact st_icmp_ge hX d_P_ackedBy_13 (by decide)
theorem b_P_ackedBy_16 {l : Launch} {D : va_G} {cid : Nat → ClassId} {X : CT} {Post : PT} (hX : OK l D cid m_P_ackedBy X Post) : SS l D cid m_P_ackedBy X 16 [o_aload 0, o_getf 2 7, o_iload 3, o_ald 0, o_iload 2] (t_cmp (fun x y => x ≤ y) (FR l D cid m_P_ackedBy X 47) (FR l D cid m_P_ackedBy X 26)) := by
  refine SS.cons (so_aload_n hX d_P_ackedBy_16 rfl) ?_
  refine SS.cons (so_getf (C := R_P) (T := T_P) hX d_P_ackedBy_17 in_P rfl (by decide) k_120) ?_
  refine SS.cons (so_iload_n hX d_P_ackedBy_20 rfl) ?_
  refine SS.cons (so_iald hX d_P_ackedBy_21) ?_
  refine SS.cons (so_iload_n hX d_P_ackedBy_22 rfl) ?_
  exact st_icmp_le hX d_P_ackedBy_23 (by decide)
theorem b_P_ackedBy_26 {l : Launch} {D : va_G} {cid : Nat → ClassId} {X : CT} {Post : PT} (hX : OK l D cid m_P_ackedBy X Post) : SS l D cid m_P_ackedBy X 26 [o_aload 0, o_aload 0, o_getf 2 7, o_iload 3, o_ald 0, o_callV l D cid m_P_countAcked 2 1, o_iload 1] (t_cmp (fun x y => x < y) (FR l D cid m_P_ackedBy X 47) (FR l D cid m_P_ackedBy X 40)) := by
  refine SS.cons (so_aload_n hX d_P_ackedBy_26 rfl) ?_
  refine SS.cons (so_aload_n hX d_P_ackedBy_27 rfl) ?_
  refine SS.cons (so_getf (C := R_P) (T := T_P) hX d_P_ackedBy_28 in_P rfl (by decide) k_120) ?_
  refine SS.cons (so_iload_n hX d_P_ackedBy_31 rfl) ?_
  refine SS.cons (so_iald hX d_P_ackedBy_32) ?_
  refine SS.cons (so_callV (M' := m_P_countAcked) (T := T_P) hX d_P_ackedBy_33 rfl k_336 k_333 k_335 k_12 k_46 pf_P_countAcked (by decide) (by decide +kernel) ⟨by decide, by decide⟩) ?_
  refine SS.cons (so_iload_n hX d_P_ackedBy_36 rfl) ?_
  exact st_icmp_lt hX d_P_ackedBy_37 (by decide)
theorem b_P_ackedBy_40 {l : Launch} {D : va_G} {cid : Nat → ClassId} {X : CT} {Post : PT} (hX : OK l D cid m_P_ackedBy X Post) : SS l D cid m_P_ackedBy X 40 [o_aload 0, o_getf 2 7, o_iload 3, o_ald 0, o_istore 2] (FR l D cid m_P_ackedBy X 47) := by
  refine SS.cons (so_aload_n hX d_P_ackedBy_40 rfl) ?_
  refine SS.cons (so_getf (C := R_P) (T := T_P) hX d_P_ackedBy_41 in_P rfl (by decide) k_120) ?_
  refine SS.cons (so_iload_n hX d_P_ackedBy_44 rfl) ?_
  refine SS.cons (so_iald hX d_P_ackedBy_45) ?_
  refine SS.cons (so_istore_n hX d_P_ackedBy_46 rfl (by decide)) ?_
  exact SS.fall
theorem b_P_ackedBy_47 {l : Launch} {D : va_G} {cid : Nat → ClassId} {X : CT} {Post : PT} (hX : OK l D cid m_P_ackedBy X Post) : SS l D cid m_P_ackedBy X 47 [o_iinc 3 1] (FR l D cid m_P_ackedBy X 7) := by
  refine SS.cons (so_iinc hX d_P_ackedBy_47 (by decide) (by decide)) ?_
  exact so_goto hX d_P_ackedBy_50 (by decide)
theorem b_P_ackedBy_53 {l : Launch} {D : va_G} {cid : Nat → ClassId} {X : CT} {Post : PT} (hX : OK l D cid m_P_ackedBy X Post) : SS l D cid m_P_ackedBy X 53 [o_iload 2] (t_iret Post) := by
  refine SS.cons (so_iload_n hX d_P_ackedBy_53 rfl) ?_
  exact st_iret hX d_P_ackedBy_54 rfl
abbrev m_P_becomeNormal : MT := (⟨"GroupLog$Replica", "becomeNormal", "(ILGroupLog$Log;I)V"⟩, prog_4_method_12_code, 4, (none : Option FieldType), { frames := 1, cells := 0, slots := 0, locals := 21 })
theorem pf_P_becomeNormal : plainFor m_P_becomeNormal.1 = true := by decide +kernel
theorem d_P_becomeNormal_0 : decode prog_4_method_12_code 0 = .ok (.aload_n 0, 1) := by decide +kernel
theorem d_P_becomeNormal_1 : decode prog_4_method_12_code 1 = .ok (.iconst 0, 1) := by decide +kernel
theorem d_P_becomeNormal_2 : decode prog_4_method_12_code 2 = .ok (.putfield 9, 3) := by decide +kernel
theorem d_P_becomeNormal_5 : decode prog_4_method_12_code 5 = .ok (.aload_n 0, 1) := by decide +kernel
theorem d_P_becomeNormal_6 : decode prog_4_method_12_code 6 = .ok (.iload_n 1, 1) := by decide +kernel
theorem d_P_becomeNormal_7 : decode prog_4_method_12_code 7 = .ok (.putfield 15, 3) := by decide +kernel
theorem d_P_becomeNormal_10 : decode prog_4_method_12_code 10 = .ok (.aload_n 0, 1) := by decide +kernel
theorem d_P_becomeNormal_11 : decode prog_4_method_12_code 11 = .ok (.iload_n 1, 1) := by decide +kernel
theorem d_P_becomeNormal_12 : decode prog_4_method_12_code 12 = .ok (.putfield 18, 3) := by decide +kernel
theorem d_P_becomeNormal_15 : decode prog_4_method_12_code 15 = .ok (.aload_n 0, 1) := by decide +kernel
theorem d_P_becomeNormal_16 : decode prog_4_method_12_code 16 = .ok (.aload_n 2, 1) := by decide +kernel
theorem d_P_becomeNormal_17 : decode prog_4_method_12_code 17 = .ok (.putfield 24, 3) := by decide +kernel
theorem d_P_becomeNormal_20 : decode prog_4_method_12_code 20 = .ok (.aload_n 0, 1) := by decide +kernel
theorem d_P_becomeNormal_21 : decode prog_4_method_12_code 21 = .ok (.iload_n 3, 1) := by decide +kernel
theorem d_P_becomeNormal_22 : decode prog_4_method_12_code 22 = .ok (.putfield 28, 3) := by decide +kernel
theorem d_P_becomeNormal_25 : decode prog_4_method_12_code 25 = .ok (.aload_n 0, 1) := by decide +kernel
theorem d_P_becomeNormal_26 : decode prog_4_method_12_code 26 = .ok (.invokevirtual 70, 3) := by decide +kernel
theorem d_P_becomeNormal_29 : decode prog_4_method_12_code 29 = .ok (.return_, 1) := by decide +kernel
theorem b_P_becomeNormal_0 {l : Launch} {D : va_G} {cid : Nat → ClassId} {X : CT} {Post : PT} (hX : OK l D cid m_P_becomeNormal X Post) : SS l D cid m_P_becomeNormal X 0 [o_aload 0, o_push (.int 0), o_put okI 2 1, o_aload 0, o_iload 1, o_put okI 2 2, o_aload 0, o_iload 1, o_put okI 2 3, o_aload 0, o_aload 2, o_put okR 2 4, o_aload 0, o_iload 3, o_put okI 2 5, o_aload 0, o_callV l D cid m_P_forgetKept 2 0] (t_ret Post) := by
  refine SS.cons (so_aload_n hX d_P_becomeNormal_0 rfl) ?_
  refine SS.cons (so_iconst hX d_P_becomeNormal_1 (by decide)) ?_
  refine SS.cons (so_put (C := R_P) (T := T_P) ok_I hX d_P_becomeNormal_2 in_P ty_P nm_P rfl (by decide) k_104 rfl rfl) ?_
  refine SS.cons (so_aload_n hX d_P_becomeNormal_5 rfl) ?_
  refine SS.cons (so_iload_n hX d_P_becomeNormal_6 rfl) ?_
  refine SS.cons (so_put (C := R_P) (T := T_P) ok_I hX d_P_becomeNormal_7 in_P ty_P nm_P rfl (by decide) k_106 rfl rfl) ?_
  refine SS.cons (so_aload_n hX d_P_becomeNormal_10 rfl) ?_
  refine SS.cons (so_iload_n hX d_P_becomeNormal_11 rfl) ?_
  refine SS.cons (so_put (C := R_P) (T := T_P) ok_I hX d_P_becomeNormal_12 in_P ty_P nm_P rfl (by decide) k_109 rfl rfl) ?_
  refine SS.cons (so_aload_n hX d_P_becomeNormal_15 rfl) ?_
  refine SS.cons (so_aload_n hX d_P_becomeNormal_16 rfl) ?_
  refine SS.cons (so_put (C := R_P) (T := T_P) (ok_O _) hX d_P_becomeNormal_17 in_P ty_P nm_P rfl (by decide) k_111 rfl rfl) ?_
  refine SS.cons (so_aload_n hX d_P_becomeNormal_20 rfl) ?_
  refine SS.cons (so_iload_n hX d_P_becomeNormal_21 rfl) ?_
  refine SS.cons (so_put (C := R_P) (T := T_P) ok_I hX d_P_becomeNormal_22 in_P ty_P nm_P rfl (by decide) k_114 rfl rfl) ?_
  refine SS.cons (so_aload_n hX d_P_becomeNormal_25 rfl) ?_
  refine SS.cons (so_callV (M' := m_P_forgetKept) (T := T_P) hX d_P_becomeNormal_26 rfl k_356 k_353 k_354 k_355 k_46 pf_P_forgetKept (by decide) (by decide +kernel) ⟨by decide, by decide⟩) ?_
  exact st_ret hX d_P_becomeNormal_29 rfl
abbrev m_P_becomePrimary : MT := (⟨"GroupLog$Replica", "becomePrimary", "()V"⟩, prog_4_method_13_code, 7, (none : Option FieldType), { frames := 2, cells := 0, slots := 0, locals := 44 })
theorem pf_P_becomePrimary : plainFor m_P_becomePrimary.1 = true := by decide +kernel
theorem d_P_becomePrimary_0 : decode prog_4_method_13_code 0 = .ok (.aload_n 0, 1) := by decide +kernel
theorem d_P_becomePrimary_1 : decode prog_4_method_13_code 1 = .ok (.getfield 24, 3) := by decide +kernel
theorem d_P_becomePrimary_4 : decode prog_4_method_13_code 4 = .ok (.astore_n 1, 1) := by decide +kernel
theorem d_P_becomePrimary_5 : decode prog_4_method_13_code 5 = .ok (.aload_n 0, 1) := by decide +kernel
theorem d_P_becomePrimary_6 : decode prog_4_method_13_code 6 = .ok (.getfield 18, 3) := by decide +kernel
theorem d_P_becomePrimary_9 : decode prog_4_method_13_code 9 = .ok (.istore_n 2, 1) := by decide +kernel
theorem d_P_becomePrimary_10 : decode prog_4_method_13_code 10 = .ok (.aload_n 0, 1) := by decide +kernel
theorem d_P_becomePrimary_11 : decode prog_4_method_13_code 11 = .ok (.getfield 28, 3) := by decide +kernel
theorem d_P_becomePrimary_14 : decode prog_4_method_13_code 14 = .ok (.istore_n 3, 1) := by decide +kernel
theorem d_P_becomePrimary_15 : decode prog_4_method_13_code 15 = .ok (.iconst 0, 1) := by decide +kernel
theorem d_P_becomePrimary_16 : decode prog_4_method_13_code 16 = .ok (.istore 4, 2) := by decide +kernel
theorem d_P_becomePrimary_18 : decode prog_4_method_13_code 18 = .ok (.iload 4, 2) := by decide +kernel
theorem d_P_becomePrimary_20 : decode prog_4_method_13_code 20 = .ok (.aload_n 0, 1) := by decide +kernel
theorem d_P_becomePrimary_21 : decode prog_4_method_13_code 21 = .ok (.getfield 54, 3) := by decide +kernel
theorem d_P_becomePrimary_24 : decode prog_4_method_13_code 24 = .ok (.arraylength, 1) := by decide +kernel
theorem d_P_becomePrimary_25 : decode prog_4_method_13_code 25 = .ok (.if_icmp .ge 93, 3) := by decide +kernel
theorem d_P_becomePrimary_28 : decode prog_4_method_13_code 28 = .ok (.aload_n 0, 1) := by decide +kernel
theorem d_P_becomePrimary_29 : decode prog_4_method_13_code 29 = .ok (.getfield 54, 3) := by decide +kernel
theorem d_P_becomePrimary_32 : decode prog_4_method_13_code 32 = .ok (.iload 4, 2) := by decide +kernel
theorem d_P_becomePrimary_34 : decode prog_4_method_13_code 34 = .ok (.aaload, 1) := by decide +kernel
theorem d_P_becomePrimary_35 : decode prog_4_method_13_code 35 = .ok (.astore 5, 2) := by decide +kernel
theorem d_P_becomePrimary_37 : decode prog_4_method_13_code 37 = .ok (.aload 5, 2) := by decide +kernel
theorem d_P_becomePrimary_39 : decode prog_4_method_13_code 39 = .ok (.ifnonnull 6, 3) := by decide +kernel
theorem d_P_becomePrimary_42 : decode prog_4_method_13_code 42 = .ok (.goto 70, 3) := by decide +kernel
theorem d_P_becomePrimary_45 : decode prog_4_method_13_code 45 = .ok (.aload 5, 2) := by decide +kernel
theorem d_P_becomePrimary_47 : decode prog_4_method_13_code 47 = .ok (.getfield 87, 3) := by decide +kernel
theorem d_P_becomePrimary_50 : decode prog_4_method_13_code 50 = .ok (.iload_n 2, 1) := by decide +kernel
theorem d_P_becomePrimary_51 : decode prog_4_method_13_code 51 = .ok (.if_icmp .ne 22, 3) := by decide +kernel
theorem d_P_becomePrimary_54 : decode prog_4_method_13_code 54 = .ok (.aload 5, 2) := by decide +kernel
theorem d_P_becomePrimary_56 : decode prog_4_method_13_code 56 = .ok (.getfield 88, 3) := by decide +kernel
theorem d_P_becomePrimary_59 : decode prog_4_method_13_code 59 = .ok (.getfield 89, 3) := by decide +kernel
theorem d_P_becomePrimary_62 : decode prog_4_method_13_code 62 = .ok (.aload_n 1, 1) := by decide +kernel
theorem d_P_becomePrimary_63 : decode prog_4_method_13_code 63 = .ok (.getfield 89, 3) := by decide +kernel
theorem d_P_becomePrimary_66 : decode prog_4_method_13_code 66 = .ok (.if_icmp .le 7, 3) := by decide +kernel
theorem d_P_becomePrimary_69 : decode prog_4_method_13_code 69 = .ok (.iconst 1, 1) := by decide +kernel
theorem d_P_becomePrimary_70 : decode prog_4_method_13_code 70 = .ok (.goto 4, 3) := by decide +kernel
theorem d_P_becomePrimary_73 : decode prog_4_method_13_code 73 = .ok (.iconst 0, 1) := by decide +kernel
theorem d_P_becomePrimary_74 : decode prog_4_method_13_code 74 = .ok (.istore 6, 2) := by decide +kernel
theorem d_P_becomePrimary_76 : decode prog_4_method_13_code 76 = .ok (.aload 5, 2) := by decide +kernel
theorem d_P_becomePrimary_78 : decode prog_4_method_13_code 78 = .ok (.getfield 87, 3) := by decide +kernel
theorem d_P_becomePrimary_81 : decode prog_4_method_13_code 81 = .ok (.iload_n 2, 1) := by decide +kernel
theorem d_P_becomePrimary_82 : decode prog_4_method_13_code 82 = .ok (.if_icmp .gt 8, 3) := by decide +kernel
theorem d_P_becomePrimary_85 : decode prog_4_method_13_code 85 = .ok (.iload 6, 2) := by decide +kernel
theorem d_P_becomePrimary_87 : decode prog_4_method_13_code 87 = .ok (.ifCond .eq 15, 3) := by decide +kernel
theorem d_P_becomePrimary_90 : decode prog_4_method_13_code 90 = .ok (.aload 5, 2) := by decide +kernel
theorem d_P_becomePrimary_92 : decode prog_4_method_13_code 92 = .ok (.getfield 88, 3) := by decide +kernel
theorem d_P_becomePrimary_95 : decode prog_4_method_13_code 95 = .ok (.astore_n 1, 1) := by decide +kernel
theorem d_P_becomePrimary_96 : decode prog_4_method_13_code 96 = .ok (.aload 5, 2) := by decide +kernel
theorem d_P_becomePrimary_98 : decode prog_4_method_13_code 98 = .ok (.getfield 87, 3) := by decide +kernel
theorem d_P_becomePrimary_101 : decode prog_4_method_13_code 101 = .ok (.istore_n 2, 1) := by decide +kernel
theorem d_P_becomePrimary_102 : decode prog_4_method_13_code 102 = .ok (.iload_n 3, 1) := by decide +kernel
theorem d_P_becomePrimary_103 : decode prog_4_method_13_code 103 = .ok (.aload 5, 2) := by decide +kernel
theorem d_P_becomePrimary_105 : decode prog_4_method_13_code 105 = .ok (.getfield 92, 3) := by decide +kernel
theorem d_P_becomePrimary_108 : decode prog_4_method_13_code 108 = .ok (.invokestatic 61, 3) := by decide +kernel
theorem d_P_becomePrimary_111 : decode prog_4_method_13_code 111 = .ok (.istore_n 3, 1) := by decide +kernel
theorem d_P_becomePrimary_112 : decode prog_4_method_13_code 112 = .ok (.iinc 4 1, 3) := by decide +kernel
theorem d_P_becomePrimary_115 : decode prog_4_method_13_code 115 = .ok (.goto (-97), 3) := by decide +kernel
theorem d_P_becomePrimary_118 : decode prog_4_method_13_code 118 = .ok (.aload_n 0, 1) := by decide +kernel
theorem d_P_becomePrimary_119 : decode prog_4_method_13_code 119 = .ok (.invokevirtual 67, 3) := by decide +kernel
theorem d_P_becomePrimary_122 : decode prog_4_method_13_code 122 = .ok (.aload_n 0, 1) := by decide +kernel
theorem d_P_becomePrimary_123 : decode prog_4_method_13_code 123 = .ok (.aload_n 0, 1) := by decide +kernel
theorem d_P_becomePrimary_124 : decode prog_4_method_13_code 124 = .ok (.getfield 15, 3) := by decide +kernel
theorem d_P_becomePrimary_127 : decode prog_4_method_13_code 127 = .ok (.aload_n 1, 1) := by decide +kernel
theorem d_P_becomePrimary_128 : decode prog_4_method_13_code 128 = .ok (.iload_n 3, 1) := by decide +kernel
theorem d_P_becomePrimary_129 : decode prog_4_method_13_code 129 = .ok (.invokevirtual 93, 3) := by decide +kernel
theorem d_P_becomePrimary_132 : decode prog_4_method_13_code 132 = .ok (.return_, 1) := by decide +kernel
theorem b_P_becomePrimary_0 {l : Launch} {D : va_G} {cid : Nat → ClassId} {X : CT} {Post : PT} (hX : OK l D cid m_P_becomePrimary X Post) : SS l D cid m_P_becomePrimary X 0 [o_aload 0, o_getf 2 4, o_astore 1, o_aload 0, o_getf 2 3, o_istore 2, o_aload 0, o_getf 2 5, o_istore 3, o_push (.int 0), o_istore 4] (FR l D cid m_P_becomePrimary X 18) := by
  refine SS.cons (so_aload_n hX d_P_becomePrimary_0 rfl) ?_
  refine SS.cons (so_getf (C := R_P) (T := T_P) hX d_P_becomePrimary_1 in_P rfl (by decide) k_111) ?_
  refine SS.cons (so_astore_n hX d_P_becomePrimary_4 rfl (by decide)) ?_
  refine SS.cons (so_aload_n hX d_P_becomePrimary_5 rfl) ?_
  refine SS.cons (so_getf (C := R_P) (T := T_P) hX d_P_becomePrimary_6 in_P rfl (by decide) k_109) ?_
  refine SS.cons (so_istore_n hX d_P_becomePrimary_9 rfl (by decide)) ?_
  refine SS.cons (so_aload_n hX d_P_becomePrimary_10 rfl) ?_
  refine SS.cons (so_getf (C := R_P) (T := T_P) hX d_P_becomePrimary_11 in_P rfl (by decide) k_114) ?_
  refine SS.cons (so_istore_n hX d_P_becomePrimary_14 rfl (by decide)) ?_
  refine SS.cons (so_iconst hX d_P_becomePrimary_15 (by decide)) ?_
  refine SS.cons (so_istore hX d_P_becomePrimary_16 (by decide)) ?_
  exact SS.fall
theorem b_P_becomePrimary_18 {l : Launch} {D : va_G} {cid : Nat → ClassId} {X : CT} {Post : PT} (hX : OK l D cid m_P_becomePrimary X Post) : SS l D cid m_P_becomePrimary X 18 [o_iload 4, o_aload 0, o_getf 2 10, o_alenq 2] (t_cmp (fun x y => y ≤ x) (FR l D cid m_P_becomePrimary X 118) (FR l D cid m_P_becomePrimary X 28)) := by
  refine SS.cons (so_iload hX d_P_becomePrimary_18) ?_
  refine SS.cons (so_aload_n hX d_P_becomePrimary_20 rfl) ?_
  refine SS.cons (so_getf (C := R_P) (T := T_P) hX d_P_becomePrimary_21 in_P rfl (by decide) k_126) ?_
  refine SS.cons (so_alenq hX d_P_becomePrimary_24 rfl) ?_
  exact st_icmp_ge hX d_P_becomePrimary_25 (by decide)
theorem b_P_becomePrimary_28 {l : Launch} {D : va_G} {cid : Nat → ClassId} {X : CT} {Post : PT} (hX : OK l D cid m_P_becomePrimary X Post) : SS l D cid m_P_becomePrimary X 28 [o_aload 0, o_getf 2 10, o_iload 4, o_aldq 2, o_astore 5, o_aload 5] (t_null (FR l D cid m_P_becomePrimary X 42) (FR l D cid m_P_becomePrimary X 45)) := by
  refine SS.cons (so_aload_n hX d_P_becomePrimary_28 rfl) ?_
  refine SS.cons (so_getf (C := R_P) (T := T_P) hX d_P_becomePrimary_29 in_P rfl (by decide) k_126) ?_
  refine SS.cons (so_iload hX d_P_becomePrimary_32) ?_
  refine SS.cons (so_aldq hX d_P_becomePrimary_34 rfl) ?_
  refine SS.cons (so_astore hX d_P_becomePrimary_35 (by decide)) ?_
  refine SS.cons (so_aload hX d_P_becomePrimary_37) ?_
  exact st_ifnonnull hX d_P_becomePrimary_39 (by decide)
theorem b_P_becomePrimary_42 {l : Launch} {D : va_G} {cid : Nat → ClassId} {X : CT} {Post : PT} (hX : OK l D cid m_P_becomePrimary X Post) : SS l D cid m_P_becomePrimary X 42 [] (FR l D cid m_P_becomePrimary X 112) := by
  exact so_goto hX d_P_becomePrimary_42 (by decide)
theorem b_P_becomePrimary_45 {l : Launch} {D : va_G} {cid : Nat → ClassId} {X : CT} {Post : PT} (hX : OK l D cid m_P_becomePrimary X Post) : SS l D cid m_P_becomePrimary X 45 [o_aload 5, o_getf 1 4, o_iload 2] (t_cmp (fun x y => ¬ x = y) (FR l D cid m_P_becomePrimary X 73) (FR l D cid m_P_becomePrimary X 54)) := by
  refine SS.cons (so_aload hX d_P_becomePrimary_45) ?_
  refine SS.cons (so_getf (C := R_E) (T := T_E) hX d_P_becomePrimary_47 in_E rfl (by decide) k_252) ?_
  refine SS.cons (so_iload_n hX d_P_becomePrimary_50 rfl) ?_
  exact st_icmp_ne hX d_P_becomePrimary_51 (by decide)
theorem b_P_becomePrimary_54 {l : Launch} {D : va_G} {cid : Nat → ClassId} {X : CT} {Post : PT} (hX : OK l D cid m_P_becomePrimary X Post) : SS l D cid m_P_becomePrimary X 54 [o_aload 5, o_getf 1 6, o_getf 0 1, o_aload 1, o_getf 0 1] (t_cmp (fun x y => x ≤ y) (FR l D cid m_P_becomePrimary X 73) (FR l D cid m_P_becomePrimary X 69)) := by
  refine SS.cons (so_aload hX d_P_becomePrimary_54) ?_
  refine SS.cons (so_getf (C := R_E) (T := T_E) hX d_P_becomePrimary_56 in_E rfl (by decide) k_257) ?_
  refine SS.cons (so_getf (C := R_L) (T := T_L) hX d_P_becomePrimary_59 in_L rfl (by decide) k_77) ?_
  refine SS.cons (so_aload_n hX d_P_becomePrimary_62 rfl) ?_
  refine SS.cons (so_getf (C := R_L) (T := T_L) hX d_P_becomePrimary_63 in_L rfl (by decide) k_77) ?_
  exact st_icmp_le hX d_P_becomePrimary_66 (by decide)
theorem b_P_becomePrimary_69 {l : Launch} {D : va_G} {cid : Nat → ClassId} {X : CT} {Post : PT} (hX : OK l D cid m_P_becomePrimary X Post) : SS l D cid m_P_becomePrimary X 69 [o_push (.int 1)] (FR l D cid m_P_becomePrimary X 74) := by
  refine SS.cons (so_iconst hX d_P_becomePrimary_69 (by decide)) ?_
  exact so_goto hX d_P_becomePrimary_70 (by decide)
theorem b_P_becomePrimary_73 {l : Launch} {D : va_G} {cid : Nat → ClassId} {X : CT} {Post : PT} (hX : OK l D cid m_P_becomePrimary X Post) : SS l D cid m_P_becomePrimary X 73 [o_push (.int 0)] (FR l D cid m_P_becomePrimary X 74) := by
  refine SS.cons (so_iconst hX d_P_becomePrimary_73 (by decide)) ?_
  exact SS.fall
theorem b_P_becomePrimary_74 {l : Launch} {D : va_G} {cid : Nat → ClassId} {X : CT} {Post : PT} (hX : OK l D cid m_P_becomePrimary X Post) : SS l D cid m_P_becomePrimary X 74 [o_istore 6, o_aload 5, o_getf 1 4, o_iload 2] (t_cmp (fun x y => y < x) (FR l D cid m_P_becomePrimary X 90) (FR l D cid m_P_becomePrimary X 85)) := by
  refine SS.cons (so_istore hX d_P_becomePrimary_74 (by decide)) ?_
  refine SS.cons (so_aload hX d_P_becomePrimary_76) ?_
  refine SS.cons (so_getf (C := R_E) (T := T_E) hX d_P_becomePrimary_78 in_E rfl (by decide) k_252) ?_
  refine SS.cons (so_iload_n hX d_P_becomePrimary_81 rfl) ?_
  exact st_icmp_gt hX d_P_becomePrimary_82 (by decide)
theorem b_P_becomePrimary_85 {l : Launch} {D : va_G} {cid : Nat → ClassId} {X : CT} {Post : PT} (hX : OK l D cid m_P_becomePrimary X Post) : SS l D cid m_P_becomePrimary X 85 [o_iload 6] (t_if (fun x => x = 0) (FR l D cid m_P_becomePrimary X 102) (FR l D cid m_P_becomePrimary X 90)) := by
  refine SS.cons (so_iload hX d_P_becomePrimary_85) ?_
  exact st_if_eq hX d_P_becomePrimary_87 (by decide)
theorem b_P_becomePrimary_90 {l : Launch} {D : va_G} {cid : Nat → ClassId} {X : CT} {Post : PT} (hX : OK l D cid m_P_becomePrimary X Post) : SS l D cid m_P_becomePrimary X 90 [o_aload 5, o_getf 1 6, o_astore 1, o_aload 5, o_getf 1 4, o_istore 2] (FR l D cid m_P_becomePrimary X 102) := by
  refine SS.cons (so_aload hX d_P_becomePrimary_90) ?_
  refine SS.cons (so_getf (C := R_E) (T := T_E) hX d_P_becomePrimary_92 in_E rfl (by decide) k_257) ?_
  refine SS.cons (so_astore_n hX d_P_becomePrimary_95 rfl (by decide)) ?_
  refine SS.cons (so_aload hX d_P_becomePrimary_96) ?_
  refine SS.cons (so_getf (C := R_E) (T := T_E) hX d_P_becomePrimary_98 in_E rfl (by decide) k_252) ?_
  refine SS.cons (so_istore_n hX d_P_becomePrimary_101 rfl (by decide)) ?_
  exact SS.fall
theorem b_P_becomePrimary_102 {l : Launch} {D : va_G} {cid : Nat → ClassId} {X : CT} {Post : PT} (hX : OK l D cid m_P_becomePrimary X Post) : SS l D cid m_P_becomePrimary X 102 [o_iload 3, o_aload 5, o_getf 1 7, o_callS l D cid m_J_max 2, o_istore 3] (FR l D cid m_P_becomePrimary X 112) := by
  refine SS.cons (so_iload_n hX d_P_becomePrimary_102 rfl) ?_
  refine SS.cons (so_aload hX d_P_becomePrimary_103) ?_
  refine SS.cons (so_getf (C := R_E) (T := T_E) hX d_P_becomePrimary_105 in_E rfl (by decide) k_260) ?_
  refine SS.cons (so_callS (M' := m_J_max) hX d_P_becomePrimary_108 k_212 k_308 k_211 k_49 pf_J_max (by decide) (by decide +kernel) ⟨by decide, by decide⟩) ?_
  refine SS.cons (so_istore_n hX d_P_becomePrimary_111 rfl (by decide)) ?_
  exact SS.fall
theorem b_P_becomePrimary_112 {l : Launch} {D : va_G} {cid : Nat → ClassId} {X : CT} {Post : PT} (hX : OK l D cid m_P_becomePrimary X Post) : SS l D cid m_P_becomePrimary X 112 [o_iinc 4 1] (FR l D cid m_P_becomePrimary X 18) := by
  refine SS.cons (so_iinc hX d_P_becomePrimary_112 (by decide) (by decide)) ?_
  exact so_goto hX d_P_becomePrimary_115 (by decide)
theorem b_P_becomePrimary_118 {l : Launch} {D : va_G} {cid : Nat → ClassId} {X : CT} {Post : PT} (hX : OK l D cid m_P_becomePrimary X Post) : SS l D cid m_P_becomePrimary X 118 [o_aload 0, o_callV l D cid m_P_forgetAcked 2 0, o_aload 0, o_aload 0, o_getf 2 2, o_aload 1, o_iload 3, o_callV l D cid m_P_becomeNormal 2 3] (t_ret Post) := by
  refine SS.cons (so_aload_n hX d_P_becomePrimary_118 rfl) ?_
  refine SS.cons (so_callV (M' := m_P_forgetAcked) (T := T_P) hX d_P_becomePrimary_119 rfl k_384 k_381 k_382 k_383 k_46 pf_P_forgetAcked (by decide) (by decide +kernel) ⟨by decide, by decide⟩) ?_
  refine SS.cons (so_aload_n hX d_P_becomePrimary_122 rfl) ?_
  refine SS.cons (so_aload_n hX d_P_becomePrimary_123 rfl) ?_
  refine SS.cons (so_getf (C := R_P) (T := T_P) hX d_P_becomePrimary_124 in_P rfl (by decide) k_106) ?_
  refine SS.cons (so_aload_n hX d_P_becomePrimary_127 rfl) ?_
  refine SS.cons (so_iload_n hX d_P_becomePrimary_128 rfl) ?_
  refine SS.cons (so_callV (M' := m_P_becomeNormal) (T := T_P) hX d_P_becomePrimary_129 rfl k_352 k_385 k_350 k_351 k_46 pf_P_becomeNormal (by decide) (by decide +kernel) ⟨by decide, by decide⟩) ?_
  exact st_ret hX d_P_becomePrimary_132 rfl
